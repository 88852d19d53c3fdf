theorem dX0_init_0 : decode cX0_init 0 = .ok (.aload_n 0, 1) := by decide +kernel
theorem dX0_init_1 : decode cX0_init 1 = .ok (.invokespecial 3, 3) := by decide +kernel
theorem dX0_init_4 : decode cX0_init 4 = .ok (.aload_n 0, 1) := by decide +kernel
theorem dX0_init_5 : decode cX0_init 5 = .ok (.bipush 40, 2) := by decide +kernel
theorem dX0_init_7 : decode cX0_init 7 = .ok (.newarray .long, 2) := by decide +kernel
theorem dX0_init_9 : decode cX0_init 9 = .ok (.putfield 9, 3) := by decide +kernel
theorem dX0_init_12 : decode cX0_init 12 = .ok (.aload_n 0, 1) := by decide +kernel
theorem dX0_init_13 : decode cX0_init 13 = .ok (.bipush 40, 2) := by decide +kernel
theorem dX0_init_15 : decode cX0_init 15 = .ok (.newarray .long, 2) := by decide +kernel
theorem dX0_init_17 : decode cX0_init 17 = .ok (.putfield 15, 3) := by decide +kernel
theorem dX0_init_20 : decode cX0_init 20 = .ok (.aload_n 0, 1) := by decide +kernel
theorem dX0_init_21 : decode cX0_init 21 = .ok (.bipush 40, 2) := by decide +kernel
theorem dX0_init_23 : decode cX0_init 23 = .ok (.newarray .int, 2) := by decide +kernel
theorem dX0_init_25 : decode cX0_init 25 = .ok (.putfield 18, 3) := by decide +kernel
theorem dX0_init_28 : decode cX0_init 28 = .ok (.aload_n 0, 1) := by decide +kernel
theorem dX0_init_29 : decode cX0_init 29 = .ok (.bipush 40, 2) := by decide +kernel
theorem dX0_init_31 : decode cX0_init 31 = .ok (.newarray .int, 2) := by decide +kernel
theorem dX0_init_33 : decode cX0_init 33 = .ok (.putfield 22, 3) := by decide +kernel
theorem dX0_init_36 : decode cX0_init 36 = .ok (.aload_n 0, 1) := by decide +kernel
theorem dX0_init_37 : decode cX0_init 37 = .ok (.sipush 640, 3) := by decide +kernel
theorem dX0_init_40 : decode cX0_init 40 = .ok (.newarray .long, 2) := by decide +kernel
theorem dX0_init_42 : decode cX0_init 42 = .ok (.putfield 25, 3) := by decide +kernel
theorem dX0_init_45 : decode cX0_init 45 = .ok (.aload_n 0, 1) := by decide +kernel
theorem dX0_init_46 : decode cX0_init 46 = .ok (.sipush 640, 3) := by decide +kernel
theorem dX0_init_49 : decode cX0_init 49 = .ok (.newarray .int, 2) := by decide +kernel
theorem dX0_init_51 : decode cX0_init 51 = .ok (.putfield 28, 3) := by decide +kernel
theorem dX0_init_54 : decode cX0_init 54 = .ok (.aload_n 0, 1) := by decide +kernel
theorem dX0_init_55 : decode cX0_init 55 = .ok (.sipush 640, 3) := by decide +kernel
theorem dX0_init_58 : decode cX0_init 58 = .ok (.newarray .long, 2) := by decide +kernel
theorem dX0_init_60 : decode cX0_init 60 = .ok (.putfield 31, 3) := by decide +kernel
theorem dX0_init_63 : decode cX0_init 63 = .ok (.return_, 1) := by decide +kernel
theorem dX0_read_0 : decode cX0_read 0 = .ok (.aload_n 0, 1) := by decide +kernel
theorem dX0_read_1 : decode cX0_read 1 = .ok (.iconst 0, 1) := by decide +kernel
theorem dX0_read_2 : decode cX0_read 2 = .ok (.putfield 34, 3) := by decide +kernel
theorem dX0_read_5 : decode cX0_read 5 = .ok (.iconst 1, 1) := by decide +kernel
theorem dX0_read_6 : decode cX0_read 6 = .ok (.istore_n 2, 1) := by decide +kernel
theorem dX0_read_7 : decode cX0_read 7 = .ok (.iconst 0, 1) := by decide +kernel
theorem dX0_read_8 : decode cX0_read 8 = .ok (.istore_n 3, 1) := by decide +kernel
theorem dX0_read_9 : decode cX0_read 9 = .ok (.iload_n 3, 1) := by decide +kernel
theorem dX0_read_10 : decode cX0_read 10 = .ok (.bipush 40, 2) := by decide +kernel
theorem dX0_read_12 : decode cX0_read 12 = .ok (.if_icmp .gt 26, 3) := by decide +kernel
theorem dX0_read_15 : decode cX0_read 15 = .ok (.iload_n 2, 1) := by decide +kernel
theorem dX0_read_16 : decode cX0_read 16 = .ok (.ifCond .eq 22, 3) := by decide +kernel
theorem dX0_read_19 : decode cX0_read 19 = .ok (.aload_n 1, 1) := by decide +kernel
theorem dX0_read_20 : decode cX0_read 20 = .ok (.invokevirtual 38, 3) := by decide +kernel
theorem dX0_read_23 : decode cX0_read 23 = .ok (.ifCond .eq 15, 3) := by decide +kernel
theorem dX0_read_26 : decode cX0_read 26 = .ok (.aload_n 0, 1) := by decide +kernel
theorem dX0_read_27 : decode cX0_read 27 = .ok (.aload_n 1, 1) := by decide +kernel
theorem dX0_read_28 : decode cX0_read 28 = .ok (.invokevirtual 44, 3) := by decide +kernel
theorem dX0_read_31 : decode cX0_read 31 = .ok (.istore_n 2, 1) := by decide +kernel
theorem dX0_read_32 : decode cX0_read 32 = .ok (.iinc 3 1, 3) := by decide +kernel
theorem dX0_read_35 : decode cX0_read 35 = .ok (.goto (-26), 3) := by decide +kernel
theorem dX0_read_38 : decode cX0_read 38 = .ok (.return_, 1) := by decide +kernel
theorem dX0_readCode_0 : decode cX0_readCode 0 = .ok (.aload_n 1, 1) := by decide +kernel
theorem dX0_readCode_1 : decode cX0_readCode 1 = .ok (.invokevirtual 48, 3) := by decide +kernel
theorem dX0_readCode_4 : decode cX0_readCode 4 = .ok (.istore_n 2, 1) := by decide +kernel
theorem dX0_readCode_5 : decode cX0_readCode 5 = .ok (.aload_n 1, 1) := by decide +kernel
theorem dX0_readCode_6 : decode cX0_readCode 6 = .ok (.invokevirtual 52, 3) := by decide +kernel
theorem dX0_readCode_9 : decode cX0_readCode 9 = .ok (.lstore_n 3, 1) := by decide +kernel
theorem dX0_readCode_10 : decode cX0_readCode 10 = .ok (.lload_n 3, 1) := by decide +kernel
theorem dX0_readCode_11 : decode cX0_readCode 11 = .ok (.lconst 0, 1) := by decide +kernel
theorem dX0_readCode_12 : decode cX0_readCode 12 = .ok (.lcmp, 1) := by decide +kernel
theorem dX0_readCode_13 : decode cX0_readCode 13 = .ok (.ifCond .ne 5, 3) := by decide +kernel
theorem dX0_readCode_16 : decode cX0_readCode 16 = .ok (.iconst 0, 1) := by decide +kernel
theorem dX0_readCode_17 : decode cX0_readCode 17 = .ok (.ireturn, 1) := by decide +kernel
theorem dX0_readCode_18 : decode cX0_readCode 18 = .ok (.aload_n 0, 1) := by decide +kernel
theorem dX0_readCode_19 : decode cX0_readCode 19 = .ok (.lload_n 3, 1) := by decide +kernel
theorem dX0_readCode_20 : decode cX0_readCode 20 = .ok (.invokevirtual 56, 3) := by decide +kernel
theorem dX0_readCode_23 : decode cX0_readCode 23 = .ok (.iconst (-1), 1) := by decide +kernel
theorem dX0_readCode_24 : decode cX0_readCode 24 = .ok (.if_icmp .eq 9, 3) := by decide +kernel
theorem dX0_readCode_27 : decode cX0_readCode 27 = .ok (.aload_n 1, 1) := by decide +kernel
theorem dX0_readCode_28 : decode cX0_readCode 28 = .ok (.iconst 2, 1) := by decide +kernel
theorem dX0_readCode_29 : decode cX0_readCode 29 = .ok (.iload_n 2, 1) := by decide +kernel
theorem dX0_readCode_30 : decode cX0_readCode 30 = .ok (.invokevirtual 60, 3) := by decide +kernel
theorem dX0_readCode_33 : decode cX0_readCode 33 = .ok (.aload_n 0, 1) := by decide +kernel
theorem dX0_readCode_34 : decode cX0_readCode 34 = .ok (.getfield 34, 3) := by decide +kernel
theorem dX0_readCode_37 : decode cX0_readCode 37 = .ok (.bipush 40, 2) := by decide +kernel
theorem dX0_readCode_39 : decode cX0_readCode 39 = .ok (.if_icmp .lt 9, 3) := by decide +kernel
theorem dX0_readCode_42 : decode cX0_readCode 42 = .ok (.aload_n 1, 1) := by decide +kernel
theorem dX0_readCode_43 : decode cX0_readCode 43 = .ok (.iconst 4, 1) := by decide +kernel
theorem dX0_readCode_44 : decode cX0_readCode 44 = .ok (.iload_n 2, 1) := by decide +kernel
theorem dX0_readCode_45 : decode cX0_readCode 45 = .ok (.invokevirtual 60, 3) := by decide +kernel
theorem dX0_readCode_48 : decode cX0_readCode 48 = .ok (.aload_n 1, 1) := by decide +kernel
theorem dX0_readCode_49 : decode cX0_readCode 49 = .ok (.invokevirtual 38, 3) := by decide +kernel
theorem dX0_readCode_52 : decode cX0_readCode 52 = .ok (.ifCond .ne 5, 3) := by decide +kernel
theorem dX0_readCode_55 : decode cX0_readCode 55 = .ok (.iconst 0, 1) := by decide +kernel
theorem dX0_readCode_56 : decode cX0_readCode 56 = .ok (.ireturn, 1) := by decide +kernel
theorem dX0_readCode_57 : decode cX0_readCode 57 = .ok (.aload_n 0, 1) := by decide +kernel
theorem dX0_readCode_58 : decode cX0_readCode 58 = .ok (.getfield 9, 3) := by decide +kernel
theorem dX0_readCode_61 : decode cX0_readCode 61 = .ok (.aload_n 0, 1) := by decide +kernel
theorem dX0_readCode_62 : decode cX0_readCode 62 = .ok (.getfield 34, 3) := by decide +kernel
theorem dX0_readCode_65 : decode cX0_readCode 65 = .ok (.lload_n 3, 1) := by decide +kernel
theorem dX0_readCode_66 : decode cX0_readCode 66 = .ok (.invokestatic 64, 3) := by decide +kernel
theorem dX0_readCode_69 : decode cX0_readCode 69 = .ok (.aload_n 0, 1) := by decide +kernel
theorem dX0_readCode_70 : decode cX0_readCode 70 = .ok (.getfield 15, 3) := by decide +kernel
theorem dX0_readCode_73 : decode cX0_readCode 73 = .ok (.aload_n 0, 1) := by decide +kernel
theorem dX0_readCode_74 : decode cX0_readCode 74 = .ok (.getfield 34, 3) := by decide +kernel
theorem dX0_readCode_77 : decode cX0_readCode 77 = .ok (.aload_n 1, 1) := by decide +kernel
theorem dX0_readCode_78 : decode cX0_readCode 78 = .ok (.invokevirtual 52, 3) := by decide +kernel
theorem dX0_readCode_81 : decode cX0_readCode 81 = .ok (.invokestatic 64, 3) := by decide +kernel
theorem dX0_readCode_84 : decode cX0_readCode 84 = .ok (.aload_n 0, 1) := by decide +kernel
theorem dX0_readCode_85 : decode cX0_readCode 85 = .ok (.getfield 18, 3) := by decide +kernel
theorem dX0_readCode_88 : decode cX0_readCode 88 = .ok (.aload_n 0, 1) := by decide +kernel
theorem dX0_readCode_89 : decode cX0_readCode 89 = .ok (.getfield 34, 3) := by decide +kernel
theorem dX0_readCode_92 : decode cX0_readCode 92 = .ok (.aload_n 1, 1) := by decide +kernel
theorem dX0_readCode_93 : decode cX0_readCode 93 = .ok (.iconst 1, 1) := by decide +kernel
theorem dX0_readCode_94 : decode cX0_readCode 94 = .ok (.iconst 0, 1) := by decide +kernel
theorem dX0_readCode_95 : decode cX0_readCode 95 = .ok (.iconst 1, 1) := by decide +kernel
theorem dX0_readCode_96 : decode cX0_readCode 96 = .ok (.invokevirtual 68, 3) := by decide +kernel
theorem dX0_readCode_99 : decode cX0_readCode 99 = .ok (.invokestatic 72, 3) := by decide +kernel
theorem dX0_readCode_102 : decode cX0_readCode 102 = .ok (.aload_n 0, 1) := by decide +kernel
theorem dX0_readCode_103 : decode cX0_readCode 103 = .ok (.getfield 22, 3) := by decide +kernel
theorem dX0_readCode_106 : decode cX0_readCode 106 = .ok (.aload_n 0, 1) := by decide +kernel
theorem dX0_readCode_107 : decode cX0_readCode 107 = .ok (.getfield 34, 3) := by decide +kernel
theorem dX0_readCode_110 : decode cX0_readCode 110 = .ok (.iconst 0, 1) := by decide +kernel
theorem dX0_readCode_111 : decode cX0_readCode 111 = .ok (.invokestatic 72, 3) := by decide +kernel
theorem dX0_readCode_114 : decode cX0_readCode 114 = .ok (.iconst 1, 1) := by decide +kernel
theorem dX0_readCode_115 : decode cX0_readCode 115 = .ok (.istore 5, 2) := by decide +kernel
theorem dX0_readCode_117 : decode cX0_readCode 117 = .ok (.iconst 0, 1) := by decide +kernel
theorem dX0_readCode_118 : decode cX0_readCode 118 = .ok (.istore 6, 2) := by decide +kernel
theorem dX0_readCode_120 : decode cX0_readCode 120 = .ok (.iload 6, 2) := by decide +kernel
theorem dX0_readCode_122 : decode cX0_readCode 122 = .ok (.bipush 16, 2) := by decide +kernel
theorem dX0_readCode_124 : decode cX0_readCode 124 = .ok (.if_icmp .gt 28, 3) := by decide +kernel
theorem dX0_readCode_127 : decode cX0_readCode 127 = .ok (.iload 5, 2) := by decide +kernel
theorem dX0_readCode_129 : decode cX0_readCode 129 = .ok (.ifCond .eq 23, 3) := by decide +kernel
theorem dX0_readCode_132 : decode cX0_readCode 132 = .ok (.aload_n 1, 1) := by decide +kernel
theorem dX0_readCode_133 : decode cX0_readCode 133 = .ok (.invokevirtual 38, 3) := by decide +kernel
theorem dX0_readCode_136 : decode cX0_readCode 136 = .ok (.ifCond .eq 16, 3) := by decide +kernel
theorem dX0_readCode_139 : decode cX0_readCode 139 = .ok (.aload_n 0, 1) := by decide +kernel
theorem dX0_readCode_140 : decode cX0_readCode 140 = .ok (.aload_n 1, 1) := by decide +kernel
theorem dX0_readCode_141 : decode cX0_readCode 141 = .ok (.invokevirtual 75, 3) := by decide +kernel
theorem dX0_readCode_144 : decode cX0_readCode 144 = .ok (.istore 5, 2) := by decide +kernel
theorem dX0_readCode_146 : decode cX0_readCode 146 = .ok (.iinc 6 1, 3) := by decide +kernel
theorem dX0_readCode_149 : decode cX0_readCode 149 = .ok (.goto (-29), 3) := by decide +kernel
theorem dX0_readCode_152 : decode cX0_readCode 152 = .ok (.aload_n 0, 1) := by decide +kernel
theorem dX0_readCode_153 : decode cX0_readCode 153 = .ok (.dup, 1) := by decide +kernel
theorem dX0_readCode_154 : decode cX0_readCode 154 = .ok (.getfield 34, 3) := by decide +kernel
theorem dX0_readCode_157 : decode cX0_readCode 157 = .ok (.iconst 1, 1) := by decide +kernel
theorem dX0_readCode_158 : decode cX0_readCode 158 = .ok (.iadd, 1) := by decide +kernel
theorem dX0_readCode_159 : decode cX0_readCode 159 = .ok (.putfield 34, 3) := by decide +kernel
theorem dX0_readCode_162 : decode cX0_readCode 162 = .ok (.iconst 1, 1) := by decide +kernel
theorem dX0_readCode_163 : decode cX0_readCode 163 = .ok (.ireturn, 1) := by decide +kernel
theorem dX0_readPair_0 : decode cX0_readPair 0 = .ok (.aload_n 1, 1) := by decide +kernel
theorem dX0_readPair_1 : decode cX0_readPair 1 = .ok (.invokevirtual 48, 3) := by decide +kernel
theorem dX0_readPair_4 : decode cX0_readPair 4 = .ok (.istore_n 2, 1) := by decide +kernel
theorem dX0_readPair_5 : decode cX0_readPair 5 = .ok (.aload_n 1, 1) := by decide +kernel
theorem dX0_readPair_6 : decode cX0_readPair 6 = .ok (.invokevirtual 52, 3) := by decide +kernel
theorem dX0_readPair_9 : decode cX0_readPair 9 = .ok (.lstore_n 3, 1) := by decide +kernel
theorem dX0_readPair_10 : decode cX0_readPair 10 = .ok (.aload_n 1, 1) := by decide +kernel
theorem dX0_readPair_11 : decode cX0_readPair 11 = .ok (.invokevirtual 52, 3) := by decide +kernel
theorem dX0_readPair_14 : decode cX0_readPair 14 = .ok (.lstore 5, 2) := by decide +kernel
theorem dX0_readPair_16 : decode cX0_readPair 16 = .ok (.lload_n 3, 1) := by decide +kernel
theorem dX0_readPair_17 : decode cX0_readPair 17 = .ok (.lconst 0, 1) := by decide +kernel
theorem dX0_readPair_18 : decode cX0_readPair 18 = .ok (.lcmp, 1) := by decide +kernel
theorem dX0_readPair_19 : decode cX0_readPair 19 = .ok (.ifCond .ne 12, 3) := by decide +kernel
theorem dX0_readPair_22 : decode cX0_readPair 22 = .ok (.lload 5, 2) := by decide +kernel
theorem dX0_readPair_24 : decode cX0_readPair 24 = .ok (.lconst 0, 1) := by decide +kernel
theorem dX0_readPair_25 : decode cX0_readPair 25 = .ok (.lcmp, 1) := by decide +kernel
theorem dX0_readPair_26 : decode cX0_readPair 26 = .ok (.ifCond .ne 5, 3) := by decide +kernel
theorem dX0_readPair_29 : decode cX0_readPair 29 = .ok (.iconst 0, 1) := by decide +kernel
theorem dX0_readPair_30 : decode cX0_readPair 30 = .ok (.ireturn, 1) := by decide +kernel
theorem dX0_readPair_31 : decode cX0_readPair 31 = .ok (.lload_n 3, 1) := by decide +kernel
theorem dX0_readPair_32 : decode cX0_readPair 32 = .ok (.lconst 0, 1) := by decide +kernel
theorem dX0_readPair_33 : decode cX0_readPair 33 = .ok (.lcmp, 1) := by decide +kernel
theorem dX0_readPair_34 : decode cX0_readPair 34 = .ok (.ifCond .eq 11, 3) := by decide +kernel
theorem dX0_readPair_37 : decode cX0_readPair 37 = .ok (.lload 5, 2) := by decide +kernel
theorem dX0_readPair_39 : decode cX0_readPair 39 = .ok (.invokestatic 78, 3) := by decide +kernel
theorem dX0_readPair_42 : decode cX0_readPair 42 = .ok (.ifCond .ne 9, 3) := by decide +kernel
theorem dX0_readPair_45 : decode cX0_readPair 45 = .ok (.aload_n 1, 1) := by decide +kernel
theorem dX0_readPair_46 : decode cX0_readPair 46 = .ok (.iconst 2, 1) := by decide +kernel
theorem dX0_readPair_47 : decode cX0_readPair 47 = .ok (.iload_n 2, 1) := by decide +kernel
theorem dX0_readPair_48 : decode cX0_readPair 48 = .ok (.invokevirtual 60, 3) := by decide +kernel
theorem dX0_readPair_51 : decode cX0_readPair 51 = .ok (.aload_n 0, 1) := by decide +kernel
theorem dX0_readPair_52 : decode cX0_readPair 52 = .ok (.getfield 22, 3) := by decide +kernel
theorem dX0_readPair_55 : decode cX0_readPair 55 = .ok (.aload_n 0, 1) := by decide +kernel
theorem dX0_readPair_56 : decode cX0_readPair 56 = .ok (.getfield 34, 3) := by decide +kernel
theorem dX0_readPair_59 : decode cX0_readPair 59 = .ok (.invokestatic 82, 3) := by decide +kernel
theorem dX0_readPair_62 : decode cX0_readPair 62 = .ok (.istore 7, 2) := by decide +kernel
theorem dX0_readPair_64 : decode cX0_readPair 64 = .ok (.iload 7, 2) := by decide +kernel
theorem dX0_readPair_66 : decode cX0_readPair 66 = .ok (.bipush 16, 2) := by decide +kernel
theorem dX0_readPair_68 : decode cX0_readPair 68 = .ok (.if_icmp .lt 9, 3) := by decide +kernel
theorem dX0_readPair_71 : decode cX0_readPair 71 = .ok (.aload_n 1, 1) := by decide +kernel
theorem dX0_readPair_72 : decode cX0_readPair 72 = .ok (.iconst 4, 1) := by decide +kernel
theorem dX0_readPair_73 : decode cX0_readPair 73 = .ok (.iload_n 2, 1) := by decide +kernel
theorem dX0_readPair_74 : decode cX0_readPair 74 = .ok (.invokevirtual 60, 3) := by decide +kernel
theorem dX0_readPair_77 : decode cX0_readPair 77 = .ok (.aload_n 1, 1) := by decide +kernel
theorem dX0_readPair_78 : decode cX0_readPair 78 = .ok (.invokevirtual 38, 3) := by decide +kernel
theorem dX0_readPair_81 : decode cX0_readPair 81 = .ok (.ifCond .ne 5, 3) := by decide +kernel
theorem dX0_readPair_84 : decode cX0_readPair 84 = .ok (.iconst 0, 1) := by decide +kernel
theorem dX0_readPair_85 : decode cX0_readPair 85 = .ok (.ireturn, 1) := by decide +kernel
theorem dX0_readPair_86 : decode cX0_readPair 86 = .ok (.aload_n 0, 1) := by decide +kernel
theorem dX0_readPair_87 : decode cX0_readPair 87 = .ok (.getfield 34, 3) := by decide +kernel
theorem dX0_readPair_90 : decode cX0_readPair 90 = .ok (.bipush 16, 2) := by decide +kernel
theorem dX0_readPair_92 : decode cX0_readPair 92 = .ok (.imul, 1) := by decide +kernel
theorem dX0_readPair_93 : decode cX0_readPair 93 = .ok (.iload 7, 2) := by decide +kernel
theorem dX0_readPair_95 : decode cX0_readPair 95 = .ok (.iadd, 1) := by decide +kernel
theorem dX0_readPair_96 : decode cX0_readPair 96 = .ok (.istore 8, 2) := by decide +kernel
theorem dX0_readPair_98 : decode cX0_readPair 98 = .ok (.aload_n 0, 1) := by decide +kernel
theorem dX0_readPair_99 : decode cX0_readPair 99 = .ok (.getfield 25, 3) := by decide +kernel
theorem dX0_readPair_102 : decode cX0_readPair 102 = .ok (.iload 8, 2) := by decide +kernel
theorem dX0_readPair_104 : decode cX0_readPair 104 = .ok (.lload_n 3, 1) := by decide +kernel
theorem dX0_readPair_105 : decode cX0_readPair 105 = .ok (.invokestatic 64, 3) := by decide +kernel
theorem dX0_readPair_108 : decode cX0_readPair 108 = .ok (.aload_n 0, 1) := by decide +kernel
theorem dX0_readPair_109 : decode cX0_readPair 109 = .ok (.getfield 28, 3) := by decide +kernel
theorem dX0_readPair_112 : decode cX0_readPair 112 = .ok (.iload 8, 2) := by decide +kernel
theorem dX0_readPair_114 : decode cX0_readPair 114 = .ok (.lload 5, 2) := by decide +kernel
theorem dX0_readPair_116 : decode cX0_readPair 116 = .ok (.l2i, 1) := by decide +kernel
theorem dX0_readPair_117 : decode cX0_readPair 117 = .ok (.invokestatic 72, 3) := by decide +kernel
theorem dX0_readPair_120 : decode cX0_readPair 120 = .ok (.aload_n 0, 1) := by decide +kernel
theorem dX0_readPair_121 : decode cX0_readPair 121 = .ok (.getfield 31, 3) := by decide +kernel
theorem dX0_readPair_124 : decode cX0_readPair 124 = .ok (.iload 8, 2) := by decide +kernel
theorem dX0_readPair_126 : decode cX0_readPair 126 = .ok (.lload 5, 2) := by decide +kernel
theorem dX0_readPair_128 : decode cX0_readPair 128 = .ok (.ldc2_w 86, 3) := by decide +kernel
theorem dX0_readPair_131 : decode cX0_readPair 131 = .ok (.lcmp, 1) := by decide +kernel
theorem dX0_readPair_132 : decode cX0_readPair 132 = .ok (.ifCond .ne 10, 3) := by decide +kernel
theorem dX0_readPair_135 : decode cX0_readPair 135 = .ok (.aload_n 1, 1) := by decide +kernel
theorem dX0_readPair_136 : decode cX0_readPair 136 = .ok (.invokevirtual 88, 3) := by decide +kernel
theorem dX0_readPair_139 : decode cX0_readPair 139 = .ok (.goto 4, 3) := by decide +kernel
theorem dX0_readPair_142 : decode cX0_readPair 142 = .ok (.lconst 0, 1) := by decide +kernel
theorem dX0_readPair_143 : decode cX0_readPair 143 = .ok (.invokestatic 64, 3) := by decide +kernel
theorem dX0_readPair_146 : decode cX0_readPair 146 = .ok (.aload_n 0, 1) := by decide +kernel
theorem dX0_readPair_147 : decode cX0_readPair 147 = .ok (.getfield 22, 3) := by decide +kernel
theorem dX0_readPair_150 : decode cX0_readPair 150 = .ok (.aload_n 0, 1) := by decide +kernel
theorem dX0_readPair_151 : decode cX0_readPair 151 = .ok (.getfield 34, 3) := by decide +kernel
theorem dX0_readPair_154 : decode cX0_readPair 154 = .ok (.iload 7, 2) := by decide +kernel
theorem dX0_readPair_156 : decode cX0_readPair 156 = .ok (.iconst 1, 1) := by decide +kernel
theorem dX0_readPair_157 : decode cX0_readPair 157 = .ok (.iadd, 1) := by decide +kernel
theorem dX0_readPair_158 : decode cX0_readPair 158 = .ok (.invokestatic 72, 3) := by decide +kernel
theorem dX0_readPair_161 : decode cX0_readPair 161 = .ok (.iconst 1, 1) := by decide +kernel
theorem dX0_readPair_162 : decode cX0_readPair 162 = .ok (.ireturn, 1) := by decide +kernel
theorem dX0_isForm_0 : decode cX0_isForm 0 = .ok (.lload_n 0, 1) := by decide +kernel
theorem dX0_isForm_1 : decode cX0_isForm 1 = .ok (.lconst 0, 1) := by decide +kernel
theorem dX0_isForm_2 : decode cX0_isForm 2 = .ok (.lcmp, 1) := by decide +kernel
theorem dX0_isForm_3 : decode cX0_isForm 3 = .ok (.ifCond .lt 11, 3) := by decide +kernel
theorem dX0_isForm_6 : decode cX0_isForm 6 = .ok (.lload_n 0, 1) := by decide +kernel
theorem dX0_isForm_7 : decode cX0_isForm 7 = .ok (.ldc2_w 86, 3) := by decide +kernel
theorem dX0_isForm_10 : decode cX0_isForm 10 = .ok (.lcmp, 1) := by decide +kernel
theorem dX0_isForm_11 : decode cX0_isForm 11 = .ok (.ifCond .le 5, 3) := by decide +kernel
theorem dX0_isForm_14 : decode cX0_isForm 14 = .ok (.iconst 0, 1) := by decide +kernel
theorem dX0_isForm_15 : decode cX0_isForm 15 = .ok (.ireturn, 1) := by decide +kernel
theorem dX0_isForm_16 : decode cX0_isForm 16 = .ok (.lload_n 0, 1) := by decide +kernel
theorem dX0_isForm_17 : decode cX0_isForm 17 = .ok (.l2i, 1) := by decide +kernel
theorem dX0_isForm_18 : decode cX0_isForm 18 = .ok (.tableswitch 148 1 33 #[146, 148, 148, 148, 146, 146, 146, 146, 148, 148, 146, 148, 146, 146, 146, 148, 148, 148, 146, 148, 148, 148, 146, 146, 146, 148, 148, 148, 148, 148, 148, 148, 146], 146) := by decide +kernel
theorem dX0_isForm_164 : decode cX0_isForm 164 = .ok (.iconst 1, 1) := by decide +kernel
theorem dX0_isForm_165 : decode cX0_isForm 165 = .ok (.ireturn, 1) := by decide +kernel
theorem dX0_isForm_166 : decode cX0_isForm 166 = .ok (.iconst 0, 1) := by decide +kernel
theorem dX0_isForm_167 : decode cX0_isForm 167 = .ok (.ireturn, 1) := by decide +kernel
theorem dX0_indexOf_0 : decode cX0_indexOf 0 = .ok (.iconst 0, 1) := by decide +kernel
theorem dX0_indexOf_1 : decode cX0_indexOf 1 = .ok (.istore_n 3, 1) := by decide +kernel
theorem dX0_indexOf_2 : decode cX0_indexOf 2 = .ok (.iload_n 3, 1) := by decide +kernel
theorem dX0_indexOf_3 : decode cX0_indexOf 3 = .ok (.bipush 40, 2) := by decide +kernel
theorem dX0_indexOf_5 : decode cX0_indexOf 5 = .ok (.if_icmp .ge 32, 3) := by decide +kernel
theorem dX0_indexOf_8 : decode cX0_indexOf 8 = .ok (.iload_n 3, 1) := by decide +kernel
theorem dX0_indexOf_9 : decode cX0_indexOf 9 = .ok (.aload_n 0, 1) := by decide +kernel
theorem dX0_indexOf_10 : decode cX0_indexOf 10 = .ok (.getfield 34, 3) := by decide +kernel
theorem dX0_indexOf_13 : decode cX0_indexOf 13 = .ok (.if_icmp .ge 24, 3) := by decide +kernel
theorem dX0_indexOf_16 : decode cX0_indexOf 16 = .ok (.aload_n 0, 1) := by decide +kernel
theorem dX0_indexOf_17 : decode cX0_indexOf 17 = .ok (.getfield 9, 3) := by decide +kernel
theorem dX0_indexOf_20 : decode cX0_indexOf 20 = .ok (.iload_n 3, 1) := by decide +kernel
theorem dX0_indexOf_21 : decode cX0_indexOf 21 = .ok (.invokestatic 91, 3) := by decide +kernel
theorem dX0_indexOf_24 : decode cX0_indexOf 24 = .ok (.lload_n 1, 1) := by decide +kernel
theorem dX0_indexOf_25 : decode cX0_indexOf 25 = .ok (.lcmp, 1) := by decide +kernel
theorem dX0_indexOf_26 : decode cX0_indexOf 26 = .ok (.ifCond .ne 5, 3) := by decide +kernel
theorem dX0_indexOf_29 : decode cX0_indexOf 29 = .ok (.iload_n 3, 1) := by decide +kernel
theorem dX0_indexOf_30 : decode cX0_indexOf 30 = .ok (.ireturn, 1) := by decide +kernel
theorem dX0_indexOf_31 : decode cX0_indexOf 31 = .ok (.iinc 3 1, 3) := by decide +kernel
theorem dX0_indexOf_34 : decode cX0_indexOf 34 = .ok (.goto (-32), 3) := by decide +kernel
theorem dX0_indexOf_37 : decode cX0_indexOf 37 = .ok (.iconst (-1), 1) := by decide +kernel
theorem dX0_indexOf_38 : decode cX0_indexOf 38 = .ok (.ireturn, 1) := by decide +kernel
theorem dX0_tagOf_0 : decode cX0_tagOf 0 = .ok (.aload_n 0, 1) := by decide +kernel
theorem dX0_tagOf_1 : decode cX0_tagOf 1 = .ok (.getfield 15, 3) := by decide +kernel
theorem dX0_tagOf_4 : decode cX0_tagOf 4 = .ok (.iload_n 1, 1) := by decide +kernel
theorem dX0_tagOf_5 : decode cX0_tagOf 5 = .ok (.invokestatic 91, 3) := by decide +kernel
theorem dX0_tagOf_8 : decode cX0_tagOf 8 = .ok (.lreturn, 1) := by decide +kernel
theorem dX0_hasChildren_0 : decode cX0_hasChildren 0 = .ok (.aload_n 0, 1) := by decide +kernel
theorem dX0_hasChildren_1 : decode cX0_hasChildren 1 = .ok (.getfield 18, 3) := by decide +kernel
theorem dX0_hasChildren_4 : decode cX0_hasChildren 4 = .ok (.iload_n 1, 1) := by decide +kernel
theorem dX0_hasChildren_5 : decode cX0_hasChildren 5 = .ok (.invokestatic 82, 3) := by decide +kernel
theorem dX0_hasChildren_8 : decode cX0_hasChildren 8 = .ok (.iconst 1, 1) := by decide +kernel
theorem dX0_hasChildren_9 : decode cX0_hasChildren 9 = .ok (.if_icmp .ne 7, 3) := by decide +kernel
theorem dX0_hasChildren_12 : decode cX0_hasChildren 12 = .ok (.iconst 1, 1) := by decide +kernel
theorem dX0_hasChildren_13 : decode cX0_hasChildren 13 = .ok (.goto 4, 3) := by decide +kernel
theorem dX0_hasChildren_16 : decode cX0_hasChildren 16 = .ok (.iconst 0, 1) := by decide +kernel
theorem dX0_hasChildren_17 : decode cX0_hasChildren 17 = .ok (.ireturn, 1) := by decide +kernel
theorem dX0_pairTotalOf_0 : decode cX0_pairTotalOf 0 = .ok (.aload_n 0, 1) := by decide +kernel
theorem dX0_pairTotalOf_1 : decode cX0_pairTotalOf 1 = .ok (.getfield 22, 3) := by decide +kernel
theorem dX0_pairTotalOf_4 : decode cX0_pairTotalOf 4 = .ok (.iload_n 1, 1) := by decide +kernel
theorem dX0_pairTotalOf_5 : decode cX0_pairTotalOf 5 = .ok (.invokestatic 82, 3) := by decide +kernel
theorem dX0_pairTotalOf_8 : decode cX0_pairTotalOf 8 = .ok (.ireturn, 1) := by decide +kernel
theorem dX0_attributeOf_0 : decode cX0_attributeOf 0 = .ok (.aload_n 0, 1) := by decide +kernel
theorem dX0_attributeOf_1 : decode cX0_attributeOf 1 = .ok (.getfield 25, 3) := by decide +kernel
theorem dX0_attributeOf_4 : decode cX0_attributeOf 4 = .ok (.iload_n 1, 1) := by decide +kernel
theorem dX0_attributeOf_5 : decode cX0_attributeOf 5 = .ok (.bipush 16, 2) := by decide +kernel
theorem dX0_attributeOf_7 : decode cX0_attributeOf 7 = .ok (.imul, 1) := by decide +kernel
theorem dX0_attributeOf_8 : decode cX0_attributeOf 8 = .ok (.iload_n 2, 1) := by decide +kernel
theorem dX0_attributeOf_9 : decode cX0_attributeOf 9 = .ok (.iadd, 1) := by decide +kernel
theorem dX0_attributeOf_10 : decode cX0_attributeOf 10 = .ok (.invokestatic 91, 3) := by decide +kernel
theorem dX0_attributeOf_13 : decode cX0_attributeOf 13 = .ok (.lreturn, 1) := by decide +kernel
theorem dX0_formOf_0 : decode cX0_formOf 0 = .ok (.aload_n 0, 1) := by decide +kernel
theorem dX0_formOf_1 : decode cX0_formOf 1 = .ok (.getfield 28, 3) := by decide +kernel
theorem dX0_formOf_4 : decode cX0_formOf 4 = .ok (.iload_n 1, 1) := by decide +kernel
theorem dX0_formOf_5 : decode cX0_formOf 5 = .ok (.bipush 16, 2) := by decide +kernel
theorem dX0_formOf_7 : decode cX0_formOf 7 = .ok (.imul, 1) := by decide +kernel
theorem dX0_formOf_8 : decode cX0_formOf 8 = .ok (.iload_n 2, 1) := by decide +kernel
theorem dX0_formOf_9 : decode cX0_formOf 9 = .ok (.iadd, 1) := by decide +kernel
theorem dX0_formOf_10 : decode cX0_formOf 10 = .ok (.invokestatic 82, 3) := by decide +kernel
theorem dX0_formOf_13 : decode cX0_formOf 13 = .ok (.ireturn, 1) := by decide +kernel
theorem dX0_valueOf_0 : decode cX0_valueOf 0 = .ok (.aload_n 0, 1) := by decide +kernel
theorem dX0_valueOf_1 : decode cX0_valueOf 1 = .ok (.getfield 31, 3) := by decide +kernel
theorem dX0_valueOf_4 : decode cX0_valueOf 4 = .ok (.iload_n 1, 1) := by decide +kernel
theorem dX0_valueOf_5 : decode cX0_valueOf 5 = .ok (.bipush 16, 2) := by decide +kernel
theorem dX0_valueOf_7 : decode cX0_valueOf 7 = .ok (.imul, 1) := by decide +kernel
theorem dX0_valueOf_8 : decode cX0_valueOf 8 = .ok (.iload_n 2, 1) := by decide +kernel
theorem dX0_valueOf_9 : decode cX0_valueOf 9 = .ok (.iadd, 1) := by decide +kernel
theorem dX0_valueOf_10 : decode cX0_valueOf 10 = .ok (.invokestatic 91, 3) := by decide +kernel
theorem dX0_valueOf_13 : decode cX0_valueOf 13 = .ok (.lreturn, 1) := by decide +kernel
theorem dX1_init_0 : decode cX1_init 0 = .ok (.aload_n 0, 1) := by decide +kernel
theorem dX1_init_1 : decode cX1_init 1 = .ok (.invokespecial 3, 3) := by decide +kernel
theorem dX1_init_4 : decode cX1_init 4 = .ok (.aload_n 0, 1) := by decide +kernel
theorem dX1_init_5 : decode cX1_init 5 = .ok (.aload_n 1, 1) := by decide +kernel
theorem dX1_init_6 : decode cX1_init 6 = .ok (.putfield 9, 3) := by decide +kernel
theorem dX1_init_9 : decode cX1_init 9 = .ok (.aload_n 0, 1) := by decide +kernel
theorem dX1_init_10 : decode cX1_init 10 = .ok (.iconst (-1), 1) := by decide +kernel
theorem dX1_init_11 : decode cX1_init 11 = .ok (.putfield 15, 3) := by decide +kernel
theorem dX1_init_14 : decode cX1_init 14 = .ok (.return_, 1) := by decide +kernel
theorem dX1_open_0 : decode cX1_open 0 = .ok (.aload_n 0, 1) := by decide +kernel
theorem dX1_open_1 : decode cX1_open 1 = .ok (.iload_n 1, 1) := by decide +kernel
theorem dX1_open_2 : decode cX1_open 2 = .ok (.putfield 19, 3) := by decide +kernel
theorem dX1_open_5 : decode cX1_open 5 = .ok (.aload_n 0, 1) := by decide +kernel
theorem dX1_open_6 : decode cX1_open 6 = .ok (.iconst 0, 1) := by decide +kernel
theorem dX1_open_7 : decode cX1_open 7 = .ok (.putfield 22, 3) := by decide +kernel
theorem dX1_open_10 : decode cX1_open 10 = .ok (.aload_n 0, 1) := by decide +kernel
theorem dX1_open_11 : decode cX1_open 11 = .ok (.iconst (-1), 1) := by decide +kernel
theorem dX1_open_12 : decode cX1_open 12 = .ok (.putfield 15, 3) := by decide +kernel
theorem dX1_open_15 : decode cX1_open 15 = .ok (.aload_n 0, 1) := by decide +kernel
theorem dX1_open_16 : decode cX1_open 16 = .ok (.iconst 0, 1) := by decide +kernel
theorem dX1_open_17 : decode cX1_open 17 = .ok (.iload_n 1, 1) := by decide +kernel
theorem dX1_open_18 : decode cX1_open 18 = .ok (.invokevirtual 25, 3) := by decide +kernel
theorem dX1_open_21 : decode cX1_open 21 = .ok (.return_, 1) := by decide +kernel
theorem dX1_within_0 : decode cX1_within 0 = .ok (.aload_n 0, 1) := by decide +kernel
theorem dX1_within_1 : decode cX1_within 1 = .ok (.iload_n 1, 1) := by decide +kernel
theorem dX1_within_2 : decode cX1_within 2 = .ok (.putfield 29, 3) := by decide +kernel
theorem dX1_within_5 : decode cX1_within 5 = .ok (.aload_n 0, 1) := by decide +kernel
theorem dX1_within_6 : decode cX1_within 6 = .ok (.iload_n 2, 1) := by decide +kernel
theorem dX1_within_7 : decode cX1_within 7 = .ok (.putfield 32, 3) := by decide +kernel
theorem dX1_within_10 : decode cX1_within 10 = .ok (.return_, 1) := by decide +kernel
theorem dX1_size_0 : decode cX1_size 0 = .ok (.aload_n 0, 1) := by decide +kernel
theorem dX1_size_1 : decode cX1_size 1 = .ok (.getfield 19, 3) := by decide +kernel
theorem dX1_size_4 : decode cX1_size 4 = .ok (.ireturn, 1) := by decide +kernel
theorem dX1_place_0 : decode cX1_place 0 = .ok (.aload_n 0, 1) := by decide +kernel
theorem dX1_place_1 : decode cX1_place 1 = .ok (.getfield 29, 3) := by decide +kernel
theorem dX1_place_4 : decode cX1_place 4 = .ok (.ireturn, 1) := by decide +kernel
theorem dX1_stop_0 : decode cX1_stop 0 = .ok (.aload_n 0, 1) := by decide +kernel
theorem dX1_stop_1 : decode cX1_stop 1 = .ok (.getfield 32, 3) := by decide +kernel
theorem dX1_stop_4 : decode cX1_stop 4 = .ok (.ireturn, 1) := by decide +kernel
theorem dX1_sound_0 : decode cX1_sound 0 = .ok (.aload_n 0, 1) := by decide +kernel
theorem dX1_sound_1 : decode cX1_sound 1 = .ok (.getfield 22, 3) := by decide +kernel
theorem dX1_sound_4 : decode cX1_sound 4 = .ok (.ifCond .ne 7, 3) := by decide +kernel
theorem dX1_sound_7 : decode cX1_sound 7 = .ok (.iconst 1, 1) := by decide +kernel
theorem dX1_sound_8 : decode cX1_sound 8 = .ok (.goto 4, 3) := by decide +kernel
theorem dX1_sound_11 : decode cX1_sound 11 = .ok (.iconst 0, 1) := by decide +kernel
theorem dX1_sound_12 : decode cX1_sound 12 = .ok (.ireturn, 1) := by decide +kernel
theorem dX1_faultNumber_0 : decode cX1_faultNumber 0 = .ok (.aload_n 0, 1) := by decide +kernel
theorem dX1_faultNumber_1 : decode cX1_faultNumber 1 = .ok (.getfield 22, 3) := by decide +kernel
theorem dX1_faultNumber_4 : decode cX1_faultNumber 4 = .ok (.ireturn, 1) := by decide +kernel
theorem dX1_faultPlace_0 : decode cX1_faultPlace 0 = .ok (.aload_n 0, 1) := by decide +kernel
theorem dX1_faultPlace_1 : decode cX1_faultPlace 1 = .ok (.getfield 15, 3) := by decide +kernel
theorem dX1_faultPlace_4 : decode cX1_faultPlace 4 = .ok (.ireturn, 1) := by decide +kernel
theorem dX1_refuse_0 : decode cX1_refuse 0 = .ok (.aload_n 0, 1) := by decide +kernel
theorem dX1_refuse_1 : decode cX1_refuse 1 = .ok (.getfield 22, 3) := by decide +kernel
theorem dX1_refuse_4 : decode cX1_refuse 4 = .ok (.ifCond .ne 13, 3) := by decide +kernel
theorem dX1_refuse_7 : decode cX1_refuse 7 = .ok (.aload_n 0, 1) := by decide +kernel
theorem dX1_refuse_8 : decode cX1_refuse 8 = .ok (.iload_n 1, 1) := by decide +kernel
theorem dX1_refuse_9 : decode cX1_refuse 9 = .ok (.putfield 22, 3) := by decide +kernel
theorem dX1_refuse_12 : decode cX1_refuse 12 = .ok (.aload_n 0, 1) := by decide +kernel
theorem dX1_refuse_13 : decode cX1_refuse 13 = .ok (.iload_n 2, 1) := by decide +kernel
theorem dX1_refuse_14 : decode cX1_refuse 14 = .ok (.putfield 15, 3) := by decide +kernel
theorem dX1_refuse_17 : decode cX1_refuse 17 = .ok (.return_, 1) := by decide +kernel
theorem dX1_hasLeft_0 : decode cX1_hasLeft 0 = .ok (.lload_n 1, 1) := by decide +kernel
theorem dX1_hasLeft_1 : decode cX1_hasLeft 1 = .ok (.lconst 0, 1) := by decide +kernel
theorem dX1_hasLeft_2 : decode cX1_hasLeft 2 = .ok (.lcmp, 1) := by decide +kernel
theorem dX1_hasLeft_3 : decode cX1_hasLeft 3 = .ok (.ifCond .lt 22, 3) := by decide +kernel
theorem dX1_hasLeft_6 : decode cX1_hasLeft 6 = .ok (.lload_n 1, 1) := by decide +kernel
theorem dX1_hasLeft_7 : decode cX1_hasLeft 7 = .ok (.aload_n 0, 1) := by decide +kernel
theorem dX1_hasLeft_8 : decode cX1_hasLeft 8 = .ok (.getfield 32, 3) := by decide +kernel
theorem dX1_hasLeft_11 : decode cX1_hasLeft 11 = .ok (.aload_n 0, 1) := by decide +kernel
theorem dX1_hasLeft_12 : decode cX1_hasLeft 12 = .ok (.getfield 29, 3) := by decide +kernel
theorem dX1_hasLeft_15 : decode cX1_hasLeft 15 = .ok (.isub, 1) := by decide +kernel
theorem dX1_hasLeft_16 : decode cX1_hasLeft 16 = .ok (.i2l, 1) := by decide +kernel
theorem dX1_hasLeft_17 : decode cX1_hasLeft 17 = .ok (.lcmp, 1) := by decide +kernel
theorem dX1_hasLeft_18 : decode cX1_hasLeft 18 = .ok (.ifCond .gt 7, 3) := by decide +kernel
theorem dX1_hasLeft_21 : decode cX1_hasLeft 21 = .ok (.iconst 1, 1) := by decide +kernel
theorem dX1_hasLeft_22 : decode cX1_hasLeft 22 = .ok (.goto 4, 3) := by decide +kernel
theorem dX1_hasLeft_25 : decode cX1_hasLeft 25 = .ok (.iconst 0, 1) := by decide +kernel
theorem dX1_hasLeft_26 : decode cX1_hasLeft 26 = .ok (.ireturn, 1) := by decide +kernel
theorem dX1_lies_0 : decode cX1_lies 0 = .ok (.lload_n 1, 1) := by decide +kernel
theorem dX1_lies_1 : decode cX1_lies 1 = .ok (.lconst 0, 1) := by decide +kernel
theorem dX1_lies_2 : decode cX1_lies 2 = .ok (.lcmp, 1) := by decide +kernel
theorem dX1_lies_3 : decode cX1_lies 3 = .ok (.ifCond .lt 35, 3) := by decide +kernel
theorem dX1_lies_6 : decode cX1_lies 6 = .ok (.lload_n 3, 1) := by decide +kernel
theorem dX1_lies_7 : decode cX1_lies 7 = .ok (.lconst 0, 1) := by decide +kernel
theorem dX1_lies_8 : decode cX1_lies 8 = .ok (.lcmp, 1) := by decide +kernel
theorem dX1_lies_9 : decode cX1_lies 9 = .ok (.ifCond .lt 29, 3) := by decide +kernel
theorem dX1_lies_12 : decode cX1_lies 12 = .ok (.lload_n 1, 1) := by decide +kernel
theorem dX1_lies_13 : decode cX1_lies 13 = .ok (.aload_n 0, 1) := by decide +kernel
theorem dX1_lies_14 : decode cX1_lies 14 = .ok (.getfield 19, 3) := by decide +kernel
theorem dX1_lies_17 : decode cX1_lies 17 = .ok (.i2l, 1) := by decide +kernel
theorem dX1_lies_18 : decode cX1_lies 18 = .ok (.lcmp, 1) := by decide +kernel
theorem dX1_lies_19 : decode cX1_lies 19 = .ok (.ifCond .gt 19, 3) := by decide +kernel
theorem dX1_lies_22 : decode cX1_lies 22 = .ok (.lload_n 3, 1) := by decide +kernel
theorem dX1_lies_23 : decode cX1_lies 23 = .ok (.aload_n 0, 1) := by decide +kernel
theorem dX1_lies_24 : decode cX1_lies 24 = .ok (.getfield 19, 3) := by decide +kernel
theorem dX1_lies_27 : decode cX1_lies 27 = .ok (.i2l, 1) := by decide +kernel
theorem dX1_lies_28 : decode cX1_lies 28 = .ok (.lload_n 1, 1) := by decide +kernel
theorem dX1_lies_29 : decode cX1_lies 29 = .ok (.lsub, 1) := by decide +kernel
theorem dX1_lies_30 : decode cX1_lies 30 = .ok (.lcmp, 1) := by decide +kernel
theorem dX1_lies_31 : decode cX1_lies 31 = .ok (.ifCond .gt 7, 3) := by decide +kernel
theorem dX1_lies_34 : decode cX1_lies 34 = .ok (.iconst 1, 1) := by decide +kernel
theorem dX1_lies_35 : decode cX1_lies 35 = .ok (.goto 4, 3) := by decide +kernel
theorem dX1_lies_38 : decode cX1_lies 38 = .ok (.iconst 0, 1) := by decide +kernel
theorem dX1_lies_39 : decode cX1_lies 39 = .ok (.ireturn, 1) := by decide +kernel
theorem dX1_byteAt_0 : decode cX1_byteAt 0 = .ok (.iload_n 1, 1) := by decide +kernel
theorem dX1_byteAt_1 : decode cX1_byteAt 1 = .ok (.ifCond .lt 25, 3) := by decide +kernel
theorem dX1_byteAt_4 : decode cX1_byteAt 4 = .ok (.iload_n 1, 1) := by decide +kernel
theorem dX1_byteAt_5 : decode cX1_byteAt 5 = .ok (.aload_n 0, 1) := by decide +kernel
theorem dX1_byteAt_6 : decode cX1_byteAt 6 = .ok (.getfield 9, 3) := by decide +kernel
theorem dX1_byteAt_9 : decode cX1_byteAt 9 = .ok (.arraylength, 1) := by decide +kernel
theorem dX1_byteAt_10 : decode cX1_byteAt 10 = .ok (.if_icmp .ge 16, 3) := by decide +kernel
theorem dX1_byteAt_13 : decode cX1_byteAt 13 = .ok (.aload_n 0, 1) := by decide +kernel
theorem dX1_byteAt_14 : decode cX1_byteAt 14 = .ok (.getfield 9, 3) := by decide +kernel
theorem dX1_byteAt_17 : decode cX1_byteAt 17 = .ok (.iload_n 1, 1) := by decide +kernel
theorem dX1_byteAt_18 : decode cX1_byteAt 18 = .ok (.baload, 1) := by decide +kernel
theorem dX1_byteAt_19 : decode cX1_byteAt 19 = .ok (.sipush 255, 3) := by decide +kernel
theorem dX1_byteAt_22 : decode cX1_byteAt 22 = .ok (.iand, 1) := by decide +kernel
theorem dX1_byteAt_23 : decode cX1_byteAt 23 = .ok (.goto 4, 3) := by decide +kernel
theorem dX1_byteAt_26 : decode cX1_byteAt 26 = .ok (.iconst 0, 1) := by decide +kernel
theorem dX1_byteAt_27 : decode cX1_byteAt 27 = .ok (.ireturn, 1) := by decide +kernel
theorem dX1_numberAt_0 : decode cX1_numberAt 0 = .ok (.lconst 0, 1) := by decide +kernel
theorem dX1_numberAt_1 : decode cX1_numberAt 1 = .ok (.lstore_n 3, 1) := by decide +kernel
theorem dX1_numberAt_2 : decode cX1_numberAt 2 = .ok (.iconst 0, 1) := by decide +kernel
theorem dX1_numberAt_3 : decode cX1_numberAt 3 = .ok (.istore 5, 2) := by decide +kernel
theorem dX1_numberAt_5 : decode cX1_numberAt 5 = .ok (.iload 5, 2) := by decide +kernel
theorem dX1_numberAt_7 : decode cX1_numberAt 7 = .ok (.iload_n 2, 1) := by decide +kernel
theorem dX1_numberAt_8 : decode cX1_numberAt 8 = .ok (.if_icmp .ge 59, 3) := by decide +kernel
theorem dX1_numberAt_11 : decode cX1_numberAt 11 = .ok (.iload_n 1, 1) := by decide +kernel
theorem dX1_numberAt_12 : decode cX1_numberAt 12 = .ok (.iload 5, 2) := by decide +kernel
theorem dX1_numberAt_14 : decode cX1_numberAt 14 = .ok (.iadd, 1) := by decide +kernel
theorem dX1_numberAt_15 : decode cX1_numberAt 15 = .ok (.istore 6, 2) := by decide +kernel
theorem dX1_numberAt_17 : decode cX1_numberAt 17 = .ok (.iload 6, 2) := by decide +kernel
theorem dX1_numberAt_19 : decode cX1_numberAt 19 = .ok (.ifCond .lt 28, 3) := by decide +kernel
theorem dX1_numberAt_22 : decode cX1_numberAt 22 = .ok (.iload 6, 2) := by decide +kernel
theorem dX1_numberAt_24 : decode cX1_numberAt 24 = .ok (.aload_n 0, 1) := by decide +kernel
theorem dX1_numberAt_25 : decode cX1_numberAt 25 = .ok (.getfield 9, 3) := by decide +kernel
theorem dX1_numberAt_28 : decode cX1_numberAt 28 = .ok (.arraylength, 1) := by decide +kernel
theorem dX1_numberAt_29 : decode cX1_numberAt 29 = .ok (.if_icmp .ge 18, 3) := by decide +kernel
theorem dX1_numberAt_32 : decode cX1_numberAt 32 = .ok (.aload_n 0, 1) := by decide +kernel
theorem dX1_numberAt_33 : decode cX1_numberAt 33 = .ok (.getfield 9, 3) := by decide +kernel
theorem dX1_numberAt_36 : decode cX1_numberAt 36 = .ok (.iload 6, 2) := by decide +kernel
theorem dX1_numberAt_38 : decode cX1_numberAt 38 = .ok (.baload, 1) := by decide +kernel
theorem dX1_numberAt_39 : decode cX1_numberAt 39 = .ok (.sipush 255, 3) := by decide +kernel
theorem dX1_numberAt_42 : decode cX1_numberAt 42 = .ok (.iand, 1) := by decide +kernel
theorem dX1_numberAt_43 : decode cX1_numberAt 43 = .ok (.i2l, 1) := by decide +kernel
theorem dX1_numberAt_44 : decode cX1_numberAt 44 = .ok (.goto 4, 3) := by decide +kernel
theorem dX1_numberAt_47 : decode cX1_numberAt 47 = .ok (.lconst 0, 1) := by decide +kernel
theorem dX1_numberAt_48 : decode cX1_numberAt 48 = .ok (.lstore 7, 2) := by decide +kernel
theorem dX1_numberAt_50 : decode cX1_numberAt 50 = .ok (.lload_n 3, 1) := by decide +kernel
theorem dX1_numberAt_51 : decode cX1_numberAt 51 = .ok (.lload 7, 2) := by decide +kernel
theorem dX1_numberAt_53 : decode cX1_numberAt 53 = .ok (.bipush 8, 2) := by decide +kernel
theorem dX1_numberAt_55 : decode cX1_numberAt 55 = .ok (.iload 5, 2) := by decide +kernel
theorem dX1_numberAt_57 : decode cX1_numberAt 57 = .ok (.imul, 1) := by decide +kernel
theorem dX1_numberAt_58 : decode cX1_numberAt 58 = .ok (.lshl, 1) := by decide +kernel
theorem dX1_numberAt_59 : decode cX1_numberAt 59 = .ok (.lor, 1) := by decide +kernel
theorem dX1_numberAt_60 : decode cX1_numberAt 60 = .ok (.lstore_n 3, 1) := by decide +kernel
theorem dX1_numberAt_61 : decode cX1_numberAt 61 = .ok (.iinc 5 1, 3) := by decide +kernel
theorem dX1_numberAt_64 : decode cX1_numberAt 64 = .ok (.goto (-59), 3) := by decide +kernel
theorem dX1_numberAt_67 : decode cX1_numberAt 67 = .ok (.lload_n 3, 1) := by decide +kernel
theorem dX1_numberAt_68 : decode cX1_numberAt 68 = .ok (.lreturn, 1) := by decide +kernel
theorem dX1_number_0 : decode cX1_number 0 = .ok (.aload_n 0, 1) := by decide +kernel
theorem dX1_number_1 : decode cX1_number 1 = .ok (.invokevirtual 35, 3) := by decide +kernel
theorem dX1_number_4 : decode cX1_number 4 = .ok (.ifCond .ne 5, 3) := by decide +kernel
theorem dX1_number_7 : decode cX1_number 7 = .ok (.lconst 0, 1) := by decide +kernel
theorem dX1_number_8 : decode cX1_number 8 = .ok (.lreturn, 1) := by decide +kernel
theorem dX1_number_9 : decode cX1_number 9 = .ok (.aload_n 0, 1) := by decide +kernel
theorem dX1_number_10 : decode cX1_number 10 = .ok (.iload_n 1, 1) := by decide +kernel
theorem dX1_number_11 : decode cX1_number 11 = .ok (.i2l, 1) := by decide +kernel
theorem dX1_number_12 : decode cX1_number 12 = .ok (.invokevirtual 39, 3) := by decide +kernel
theorem dX1_number_15 : decode cX1_number 15 = .ok (.ifCond .ne 14, 3) := by decide +kernel
theorem dX1_number_18 : decode cX1_number 18 = .ok (.aload_n 0, 1) := by decide +kernel
theorem dX1_number_19 : decode cX1_number 19 = .ok (.iconst 1, 1) := by decide +kernel
theorem dX1_number_20 : decode cX1_number 20 = .ok (.aload_n 0, 1) := by decide +kernel
theorem dX1_number_21 : decode cX1_number 21 = .ok (.getfield 29, 3) := by decide +kernel
theorem dX1_number_24 : decode cX1_number 24 = .ok (.invokevirtual 43, 3) := by decide +kernel
theorem dX1_number_27 : decode cX1_number 27 = .ok (.lconst 0, 1) := by decide +kernel
theorem dX1_number_28 : decode cX1_number 28 = .ok (.lreturn, 1) := by decide +kernel
theorem dX1_number_29 : decode cX1_number 29 = .ok (.aload_n 0, 1) := by decide +kernel
theorem dX1_number_30 : decode cX1_number 30 = .ok (.aload_n 0, 1) := by decide +kernel
theorem dX1_number_31 : decode cX1_number 31 = .ok (.getfield 29, 3) := by decide +kernel
theorem dX1_number_34 : decode cX1_number 34 = .ok (.iload_n 1, 1) := by decide +kernel
theorem dX1_number_35 : decode cX1_number 35 = .ok (.invokevirtual 46, 3) := by decide +kernel
theorem dX1_number_38 : decode cX1_number 38 = .ok (.lstore_n 2, 1) := by decide +kernel
theorem dX1_number_39 : decode cX1_number 39 = .ok (.aload_n 0, 1) := by decide +kernel
theorem dX1_number_40 : decode cX1_number 40 = .ok (.dup, 1) := by decide +kernel
theorem dX1_number_41 : decode cX1_number 41 = .ok (.getfield 29, 3) := by decide +kernel
theorem dX1_number_44 : decode cX1_number 44 = .ok (.iload_n 1, 1) := by decide +kernel
theorem dX1_number_45 : decode cX1_number 45 = .ok (.iadd, 1) := by decide +kernel
theorem dX1_number_46 : decode cX1_number 46 = .ok (.putfield 29, 3) := by decide +kernel
theorem dX1_number_49 : decode cX1_number 49 = .ok (.lload_n 2, 1) := by decide +kernel
theorem dX1_number_50 : decode cX1_number 50 = .ok (.lreturn, 1) := by decide +kernel
theorem dX1_numberBetween_0 : decode cX1_numberBetween 0 = .ok (.aload_n 0, 1) := by decide +kernel
theorem dX1_numberBetween_1 : decode cX1_numberBetween 1 = .ok (.getfield 29, 3) := by decide +kernel
theorem dX1_numberBetween_4 : decode cX1_numberBetween 4 = .ok (.istore 4, 2) := by decide +kernel
theorem dX1_numberBetween_6 : decode cX1_numberBetween 6 = .ok (.aload_n 0, 1) := by decide +kernel
theorem dX1_numberBetween_7 : decode cX1_numberBetween 7 = .ok (.iload_n 1, 1) := by decide +kernel
theorem dX1_numberBetween_8 : decode cX1_numberBetween 8 = .ok (.invokevirtual 50, 3) := by decide +kernel
theorem dX1_numberBetween_11 : decode cX1_numberBetween 11 = .ok (.lstore 5, 2) := by decide +kernel
theorem dX1_numberBetween_13 : decode cX1_numberBetween 13 = .ok (.lload 5, 2) := by decide +kernel
theorem dX1_numberBetween_15 : decode cX1_numberBetween 15 = .ok (.iload_n 2, 1) := by decide +kernel
theorem dX1_numberBetween_16 : decode cX1_numberBetween 16 = .ok (.i2l, 1) := by decide +kernel
theorem dX1_numberBetween_17 : decode cX1_numberBetween 17 = .ok (.lcmp, 1) := by decide +kernel
theorem dX1_numberBetween_18 : decode cX1_numberBetween 18 = .ok (.ifCond .lt 11, 3) := by decide +kernel
theorem dX1_numberBetween_21 : decode cX1_numberBetween 21 = .ok (.lload 5, 2) := by decide +kernel
theorem dX1_numberBetween_23 : decode cX1_numberBetween 23 = .ok (.iload_n 3, 1) := by decide +kernel
theorem dX1_numberBetween_24 : decode cX1_numberBetween 24 = .ok (.i2l, 1) := by decide +kernel
theorem dX1_numberBetween_25 : decode cX1_numberBetween 25 = .ok (.lcmp, 1) := by decide +kernel
theorem dX1_numberBetween_26 : decode cX1_numberBetween 26 = .ok (.ifCond .le 12, 3) := by decide +kernel
theorem dX1_numberBetween_29 : decode cX1_numberBetween 29 = .ok (.aload_n 0, 1) := by decide +kernel
theorem dX1_numberBetween_30 : decode cX1_numberBetween 30 = .ok (.iconst 2, 1) := by decide +kernel
theorem dX1_numberBetween_31 : decode cX1_numberBetween 31 = .ok (.iload 4, 2) := by decide +kernel
theorem dX1_numberBetween_33 : decode cX1_numberBetween 33 = .ok (.invokevirtual 43, 3) := by decide +kernel
theorem dX1_numberBetween_36 : decode cX1_numberBetween 36 = .ok (.iload_n 2, 1) := by decide +kernel
theorem dX1_numberBetween_37 : decode cX1_numberBetween 37 = .ok (.ireturn, 1) := by decide +kernel
theorem dX1_numberBetween_38 : decode cX1_numberBetween 38 = .ok (.lload 5, 2) := by decide +kernel
theorem dX1_numberBetween_40 : decode cX1_numberBetween 40 = .ok (.l2i, 1) := by decide +kernel
theorem dX1_numberBetween_41 : decode cX1_numberBetween 41 = .ok (.ireturn, 1) := by decide +kernel
theorem dX1_expectUleb_0 : decode cX1_expectUleb 0 = .ok (.aload_n 0, 1) := by decide +kernel
theorem dX1_expectUleb_1 : decode cX1_expectUleb 1 = .ok (.getfield 29, 3) := by decide +kernel
theorem dX1_expectUleb_4 : decode cX1_expectUleb 4 = .ok (.istore_n 3, 1) := by decide +kernel
theorem dX1_expectUleb_5 : decode cX1_expectUleb 5 = .ok (.aload_n 0, 1) := by decide +kernel
theorem dX1_expectUleb_6 : decode cX1_expectUleb 6 = .ok (.invokevirtual 54, 3) := by decide +kernel
theorem dX1_expectUleb_9 : decode cX1_expectUleb 9 = .ok (.lload_n 1, 1) := by decide +kernel
theorem dX1_expectUleb_10 : decode cX1_expectUleb 10 = .ok (.lcmp, 1) := by decide +kernel
theorem dX1_expectUleb_11 : decode cX1_expectUleb 11 = .ok (.ifCond .eq 9, 3) := by decide +kernel
theorem dX1_expectUleb_14 : decode cX1_expectUleb 14 = .ok (.aload_n 0, 1) := by decide +kernel
theorem dX1_expectUleb_15 : decode cX1_expectUleb 15 = .ok (.iconst 2, 1) := by decide +kernel
theorem dX1_expectUleb_16 : decode cX1_expectUleb 16 = .ok (.iload_n 3, 1) := by decide +kernel
theorem dX1_expectUleb_17 : decode cX1_expectUleb 17 = .ok (.invokevirtual 43, 3) := by decide +kernel
theorem dX1_expectUleb_20 : decode cX1_expectUleb 20 = .ok (.return_, 1) := by decide +kernel
theorem dX1_uleb_0 : decode cX1_uleb 0 = .ok (.aload_n 0, 1) := by decide +kernel
theorem dX1_uleb_1 : decode cX1_uleb 1 = .ok (.invokevirtual 35, 3) := by decide +kernel
theorem dX1_uleb_4 : decode cX1_uleb 4 = .ok (.ifCond .ne 5, 3) := by decide +kernel
theorem dX1_uleb_7 : decode cX1_uleb 7 = .ok (.lconst 0, 1) := by decide +kernel
theorem dX1_uleb_8 : decode cX1_uleb 8 = .ok (.lreturn, 1) := by decide +kernel
theorem dX1_uleb_9 : decode cX1_uleb 9 = .ok (.lconst 0, 1) := by decide +kernel
theorem dX1_uleb_10 : decode cX1_uleb 10 = .ok (.lstore_n 1, 1) := by decide +kernel
theorem dX1_uleb_11 : decode cX1_uleb 11 = .ok (.iconst 0, 1) := by decide +kernel
theorem dX1_uleb_12 : decode cX1_uleb 12 = .ok (.istore_n 3, 1) := by decide +kernel
theorem dX1_uleb_13 : decode cX1_uleb 13 = .ok (.iload_n 3, 1) := by decide +kernel
theorem dX1_uleb_14 : decode cX1_uleb 14 = .ok (.bipush 10, 2) := by decide +kernel
theorem dX1_uleb_16 : decode cX1_uleb 16 = .ok (.if_icmp .ge 70, 3) := by decide +kernel
theorem dX1_uleb_19 : decode cX1_uleb 19 = .ok (.iload_n 3, 1) := by decide +kernel
theorem dX1_uleb_20 : decode cX1_uleb 20 = .ok (.aload_n 0, 1) := by decide +kernel
theorem dX1_uleb_21 : decode cX1_uleb 21 = .ok (.getfield 32, 3) := by decide +kernel
theorem dX1_uleb_24 : decode cX1_uleb 24 = .ok (.aload_n 0, 1) := by decide +kernel
theorem dX1_uleb_25 : decode cX1_uleb 25 = .ok (.getfield 29, 3) := by decide +kernel
theorem dX1_uleb_28 : decode cX1_uleb 28 = .ok (.isub, 1) := by decide +kernel
theorem dX1_uleb_29 : decode cX1_uleb 29 = .ok (.if_icmp .ge 57, 3) := by decide +kernel
theorem dX1_uleb_32 : decode cX1_uleb 32 = .ok (.aload_n 0, 1) := by decide +kernel
theorem dX1_uleb_33 : decode cX1_uleb 33 = .ok (.aload_n 0, 1) := by decide +kernel
theorem dX1_uleb_34 : decode cX1_uleb 34 = .ok (.getfield 29, 3) := by decide +kernel
theorem dX1_uleb_37 : decode cX1_uleb 37 = .ok (.iload_n 3, 1) := by decide +kernel
theorem dX1_uleb_38 : decode cX1_uleb 38 = .ok (.iadd, 1) := by decide +kernel
theorem dX1_uleb_39 : decode cX1_uleb 39 = .ok (.invokevirtual 58, 3) := by decide +kernel
theorem dX1_uleb_42 : decode cX1_uleb 42 = .ok (.istore 4, 2) := by decide +kernel
theorem dX1_uleb_44 : decode cX1_uleb 44 = .ok (.lload_n 1, 1) := by decide +kernel
theorem dX1_uleb_45 : decode cX1_uleb 45 = .ok (.iload 4, 2) := by decide +kernel
theorem dX1_uleb_47 : decode cX1_uleb 47 = .ok (.bipush 127, 2) := by decide +kernel
theorem dX1_uleb_49 : decode cX1_uleb 49 = .ok (.iand, 1) := by decide +kernel
theorem dX1_uleb_50 : decode cX1_uleb 50 = .ok (.i2l, 1) := by decide +kernel
theorem dX1_uleb_51 : decode cX1_uleb 51 = .ok (.bipush 7, 2) := by decide +kernel
theorem dX1_uleb_53 : decode cX1_uleb 53 = .ok (.iload_n 3, 1) := by decide +kernel
theorem dX1_uleb_54 : decode cX1_uleb 54 = .ok (.imul, 1) := by decide +kernel
theorem dX1_uleb_55 : decode cX1_uleb 55 = .ok (.lshl, 1) := by decide +kernel
theorem dX1_uleb_56 : decode cX1_uleb 56 = .ok (.lor, 1) := by decide +kernel
theorem dX1_uleb_57 : decode cX1_uleb 57 = .ok (.lstore_n 1, 1) := by decide +kernel
theorem dX1_uleb_58 : decode cX1_uleb 58 = .ok (.iload 4, 2) := by decide +kernel
theorem dX1_uleb_60 : decode cX1_uleb 60 = .ok (.sipush 128, 3) := by decide +kernel
theorem dX1_uleb_63 : decode cX1_uleb 63 = .ok (.if_icmp .ge 17, 3) := by decide +kernel
theorem dX1_uleb_66 : decode cX1_uleb 66 = .ok (.aload_n 0, 1) := by decide +kernel
theorem dX1_uleb_67 : decode cX1_uleb 67 = .ok (.dup, 1) := by decide +kernel
theorem dX1_uleb_68 : decode cX1_uleb 68 = .ok (.getfield 29, 3) := by decide +kernel
theorem dX1_uleb_71 : decode cX1_uleb 71 = .ok (.iload_n 3, 1) := by decide +kernel
theorem dX1_uleb_72 : decode cX1_uleb 72 = .ok (.iconst 1, 1) := by decide +kernel
theorem dX1_uleb_73 : decode cX1_uleb 73 = .ok (.iadd, 1) := by decide +kernel
theorem dX1_uleb_74 : decode cX1_uleb 74 = .ok (.iadd, 1) := by decide +kernel
theorem dX1_uleb_75 : decode cX1_uleb 75 = .ok (.putfield 29, 3) := by decide +kernel
theorem dX1_uleb_78 : decode cX1_uleb 78 = .ok (.lload_n 1, 1) := by decide +kernel
theorem dX1_uleb_79 : decode cX1_uleb 79 = .ok (.lreturn, 1) := by decide +kernel
theorem dX1_uleb_80 : decode cX1_uleb 80 = .ok (.iinc 3 1, 3) := by decide +kernel
theorem dX1_uleb_83 : decode cX1_uleb 83 = .ok (.goto (-70), 3) := by decide +kernel
theorem dX1_uleb_86 : decode cX1_uleb 86 = .ok (.aload_n 0, 1) := by decide +kernel
theorem dX1_uleb_87 : decode cX1_uleb 87 = .ok (.iconst 1, 1) := by decide +kernel
theorem dX1_uleb_88 : decode cX1_uleb 88 = .ok (.aload_n 0, 1) := by decide +kernel
theorem dX1_uleb_89 : decode cX1_uleb 89 = .ok (.getfield 29, 3) := by decide +kernel
theorem dX1_uleb_92 : decode cX1_uleb 92 = .ok (.invokevirtual 43, 3) := by decide +kernel
theorem dX1_uleb_95 : decode cX1_uleb 95 = .ok (.lconst 0, 1) := by decide +kernel
theorem dX1_uleb_96 : decode cX1_uleb 96 = .ok (.lreturn, 1) := by decide +kernel
theorem dX1_sleb_0 : decode cX1_sleb 0 = .ok (.aload_n 0, 1) := by decide +kernel
theorem dX1_sleb_1 : decode cX1_sleb 1 = .ok (.getfield 29, 3) := by decide +kernel
theorem dX1_sleb_4 : decode cX1_sleb 4 = .ok (.istore_n 1, 1) := by decide +kernel
theorem dX1_sleb_5 : decode cX1_sleb 5 = .ok (.aload_n 0, 1) := by decide +kernel
theorem dX1_sleb_6 : decode cX1_sleb 6 = .ok (.invokevirtual 54, 3) := by decide +kernel
theorem dX1_sleb_9 : decode cX1_sleb 9 = .ok (.lstore_n 2, 1) := by decide +kernel
theorem dX1_sleb_10 : decode cX1_sleb 10 = .ok (.bipush 7, 2) := by decide +kernel
theorem dX1_sleb_12 : decode cX1_sleb 12 = .ok (.aload_n 0, 1) := by decide +kernel
theorem dX1_sleb_13 : decode cX1_sleb 13 = .ok (.getfield 29, 3) := by decide +kernel
theorem dX1_sleb_16 : decode cX1_sleb 16 = .ok (.iload_n 1, 1) := by decide +kernel
theorem dX1_sleb_17 : decode cX1_sleb 17 = .ok (.isub, 1) := by decide +kernel
theorem dX1_sleb_18 : decode cX1_sleb 18 = .ok (.imul, 1) := by decide +kernel
theorem dX1_sleb_19 : decode cX1_sleb 19 = .ok (.istore 4, 2) := by decide +kernel
theorem dX1_sleb_21 : decode cX1_sleb 21 = .ok (.iload 4, 2) := by decide +kernel
theorem dX1_sleb_23 : decode cX1_sleb 23 = .ok (.ifCond .le 23, 3) := by decide +kernel
theorem dX1_sleb_26 : decode cX1_sleb 26 = .ok (.aload_n 0, 1) := by decide +kernel
theorem dX1_sleb_27 : decode cX1_sleb 27 = .ok (.aload_n 0, 1) := by decide +kernel
theorem dX1_sleb_28 : decode cX1_sleb 28 = .ok (.getfield 29, 3) := by decide +kernel
theorem dX1_sleb_31 : decode cX1_sleb 31 = .ok (.iconst 1, 1) := by decide +kernel
theorem dX1_sleb_32 : decode cX1_sleb 32 = .ok (.isub, 1) := by decide +kernel
theorem dX1_sleb_33 : decode cX1_sleb 33 = .ok (.invokevirtual 58, 3) := by decide +kernel
theorem dX1_sleb_36 : decode cX1_sleb 36 = .ok (.bipush 64, 2) := by decide +kernel
theorem dX1_sleb_38 : decode cX1_sleb 38 = .ok (.iand, 1) := by decide +kernel
theorem dX1_sleb_39 : decode cX1_sleb 39 = .ok (.ifCond .eq 7, 3) := by decide +kernel
theorem dX1_sleb_42 : decode cX1_sleb 42 = .ok (.iconst 1, 1) := by decide +kernel
theorem dX1_sleb_43 : decode cX1_sleb 43 = .ok (.goto 4, 3) := by decide +kernel
theorem dX1_sleb_46 : decode cX1_sleb 46 = .ok (.iconst 0, 1) := by decide +kernel
theorem dX1_sleb_47 : decode cX1_sleb 47 = .ok (.istore 5, 2) := by decide +kernel
theorem dX1_sleb_49 : decode cX1_sleb 49 = .ok (.iload 5, 2) := by decide +kernel
theorem dX1_sleb_51 : decode cX1_sleb 51 = .ok (.ifCond .eq 21, 3) := by decide +kernel
theorem dX1_sleb_54 : decode cX1_sleb 54 = .ok (.iload 4, 2) := by decide +kernel
theorem dX1_sleb_56 : decode cX1_sleb 56 = .ok (.bipush 64, 2) := by decide +kernel
theorem dX1_sleb_58 : decode cX1_sleb 58 = .ok (.if_icmp .ge 14, 3) := by decide +kernel
theorem dX1_sleb_61 : decode cX1_sleb 61 = .ok (.lload_n 2, 1) := by decide +kernel
theorem dX1_sleb_62 : decode cX1_sleb 62 = .ok (.ldc2_w 62, 3) := by decide +kernel
theorem dX1_sleb_65 : decode cX1_sleb 65 = .ok (.iload 4, 2) := by decide +kernel
theorem dX1_sleb_67 : decode cX1_sleb 67 = .ok (.lshl, 1) := by decide +kernel
theorem dX1_sleb_68 : decode cX1_sleb 68 = .ok (.lor, 1) := by decide +kernel
theorem dX1_sleb_69 : decode cX1_sleb 69 = .ok (.goto 4, 3) := by decide +kernel
theorem dX1_sleb_72 : decode cX1_sleb 72 = .ok (.lload_n 2, 1) := by decide +kernel
theorem dX1_sleb_73 : decode cX1_sleb 73 = .ok (.lreturn, 1) := by decide +kernel
theorem dX1_text_0 : decode cX1_text 0 = .ok (.aload_n 0, 1) := by decide +kernel
theorem dX1_text_1 : decode cX1_text 1 = .ok (.invokevirtual 35, 3) := by decide +kernel
theorem dX1_text_4 : decode cX1_text 4 = .ok (.ifCond .ne 5, 3) := by decide +kernel
theorem dX1_text_7 : decode cX1_text 7 = .ok (.iconst 0, 1) := by decide +kernel
theorem dX1_text_8 : decode cX1_text 8 = .ok (.ireturn, 1) := by decide +kernel
theorem dX1_text_9 : decode cX1_text 9 = .ok (.aload_n 0, 1) := by decide +kernel
theorem dX1_text_10 : decode cX1_text 10 = .ok (.aload_n 0, 1) := by decide +kernel
theorem dX1_text_11 : decode cX1_text 11 = .ok (.getfield 29, 3) := by decide +kernel
theorem dX1_text_14 : decode cX1_text 14 = .ok (.aload_n 0, 1) := by decide +kernel
theorem dX1_text_15 : decode cX1_text 15 = .ok (.getfield 32, 3) := by decide +kernel
theorem dX1_text_18 : decode cX1_text 18 = .ok (.invokevirtual 64, 3) := by decide +kernel
theorem dX1_text_21 : decode cX1_text 21 = .ok (.istore_n 1, 1) := by decide +kernel
theorem dX1_text_22 : decode cX1_text 22 = .ok (.iload_n 1, 1) := by decide +kernel
theorem dX1_text_23 : decode cX1_text 23 = .ok (.iconst (-1), 1) := by decide +kernel
theorem dX1_text_24 : decode cX1_text 24 = .ok (.if_icmp .ne 14, 3) := by decide +kernel
theorem dX1_text_27 : decode cX1_text 27 = .ok (.aload_n 0, 1) := by decide +kernel
theorem dX1_text_28 : decode cX1_text 28 = .ok (.iconst 1, 1) := by decide +kernel
theorem dX1_text_29 : decode cX1_text 29 = .ok (.aload_n 0, 1) := by decide +kernel
theorem dX1_text_30 : decode cX1_text 30 = .ok (.getfield 29, 3) := by decide +kernel
theorem dX1_text_33 : decode cX1_text 33 = .ok (.invokevirtual 43, 3) := by decide +kernel
theorem dX1_text_36 : decode cX1_text 36 = .ok (.iconst 0, 1) := by decide +kernel
theorem dX1_text_37 : decode cX1_text 37 = .ok (.ireturn, 1) := by decide +kernel
theorem dX1_text_38 : decode cX1_text 38 = .ok (.aload_n 0, 1) := by decide +kernel
theorem dX1_text_39 : decode cX1_text 39 = .ok (.dup, 1) := by decide +kernel
theorem dX1_text_40 : decode cX1_text 40 = .ok (.getfield 29, 3) := by decide +kernel
theorem dX1_text_43 : decode cX1_text 43 = .ok (.iload_n 1, 1) := by decide +kernel
theorem dX1_text_44 : decode cX1_text 44 = .ok (.iconst 1, 1) := by decide +kernel
theorem dX1_text_45 : decode cX1_text 45 = .ok (.iadd, 1) := by decide +kernel
theorem dX1_text_46 : decode cX1_text 46 = .ok (.iadd, 1) := by decide +kernel
theorem dX1_text_47 : decode cX1_text 47 = .ok (.putfield 29, 3) := by decide +kernel
theorem dX1_text_50 : decode cX1_text 50 = .ok (.iload_n 1, 1) := by decide +kernel
theorem dX1_text_51 : decode cX1_text 51 = .ok (.ireturn, 1) := by decide +kernel
theorem dX1_toldText_0 : decode cX1_toldText 0 = .ok (.lload_n 3, 1) := by decide +kernel
theorem dX1_toldText_1 : decode cX1_toldText 1 = .ok (.lconst 0, 1) := by decide +kernel
theorem dX1_toldText_2 : decode cX1_toldText 2 = .ok (.lcmp, 1) := by decide +kernel
theorem dX1_toldText_3 : decode cX1_toldText 3 = .ok (.ifCond .lt 12, 3) := by decide +kernel
theorem dX1_toldText_6 : decode cX1_toldText 6 = .ok (.lload_n 3, 1) := by decide +kernel
theorem dX1_toldText_7 : decode cX1_toldText 7 = .ok (.iload_n 2, 1) := by decide +kernel
theorem dX1_toldText_8 : decode cX1_toldText 8 = .ok (.iload_n 1, 1) := by decide +kernel
theorem dX1_toldText_9 : decode cX1_toldText 9 = .ok (.isub, 1) := by decide +kernel
theorem dX1_toldText_10 : decode cX1_toldText 10 = .ok (.i2l, 1) := by decide +kernel
theorem dX1_toldText_11 : decode cX1_toldText 11 = .ok (.lcmp, 1) := by decide +kernel
theorem dX1_toldText_12 : decode cX1_toldText 12 = .ok (.ifCond .lt 12, 3) := by decide +kernel
theorem dX1_toldText_15 : decode cX1_toldText 15 = .ok (.aload_n 0, 1) := by decide +kernel
theorem dX1_toldText_16 : decode cX1_toldText 16 = .ok (.iconst 3, 1) := by decide +kernel
theorem dX1_toldText_17 : decode cX1_toldText 17 = .ok (.iload 5, 2) := by decide +kernel
theorem dX1_toldText_19 : decode cX1_toldText 19 = .ok (.invokevirtual 43, 3) := by decide +kernel
theorem dX1_toldText_22 : decode cX1_toldText 22 = .ok (.iconst 0, 1) := by decide +kernel
theorem dX1_toldText_23 : decode cX1_toldText 23 = .ok (.ireturn, 1) := by decide +kernel
theorem dX1_toldText_24 : decode cX1_toldText 24 = .ok (.aload_n 0, 1) := by decide +kernel
theorem dX1_toldText_25 : decode cX1_toldText 25 = .ok (.iload_n 1, 1) := by decide +kernel
theorem dX1_toldText_26 : decode cX1_toldText 26 = .ok (.lload_n 3, 1) := by decide +kernel
theorem dX1_toldText_27 : decode cX1_toldText 27 = .ok (.l2i, 1) := by decide +kernel
theorem dX1_toldText_28 : decode cX1_toldText 28 = .ok (.iadd, 1) := by decide +kernel
theorem dX1_toldText_29 : decode cX1_toldText 29 = .ok (.iload_n 2, 1) := by decide +kernel
theorem dX1_toldText_30 : decode cX1_toldText 30 = .ok (.invokevirtual 64, 3) := by decide +kernel
theorem dX1_toldText_33 : decode cX1_toldText 33 = .ok (.istore 6, 2) := by decide +kernel
theorem dX1_toldText_35 : decode cX1_toldText 35 = .ok (.iload 6, 2) := by decide +kernel
theorem dX1_toldText_37 : decode cX1_toldText 37 = .ok (.iconst (-1), 1) := by decide +kernel
theorem dX1_toldText_38 : decode cX1_toldText 38 = .ok (.if_icmp .ne 12, 3) := by decide +kernel
theorem dX1_toldText_41 : decode cX1_toldText 41 = .ok (.aload_n 0, 1) := by decide +kernel
theorem dX1_toldText_42 : decode cX1_toldText 42 = .ok (.iconst 1, 1) := by decide +kernel
theorem dX1_toldText_43 : decode cX1_toldText 43 = .ok (.iload 5, 2) := by decide +kernel
theorem dX1_toldText_45 : decode cX1_toldText 45 = .ok (.invokevirtual 43, 3) := by decide +kernel
theorem dX1_toldText_48 : decode cX1_toldText 48 = .ok (.iconst 0, 1) := by decide +kernel
theorem dX1_toldText_49 : decode cX1_toldText 49 = .ok (.ireturn, 1) := by decide +kernel
theorem dX1_toldText_50 : decode cX1_toldText 50 = .ok (.iload 6, 2) := by decide +kernel
theorem dX1_toldText_52 : decode cX1_toldText 52 = .ok (.ireturn, 1) := by decide +kernel
theorem dX1_textLength_0 : decode cX1_textLength 0 = .ok (.iload_n 1, 1) := by decide +kernel
theorem dX1_textLength_1 : decode cX1_textLength 1 = .ok (.istore_n 3, 1) := by decide +kernel
theorem dX1_textLength_2 : decode cX1_textLength 2 = .ok (.iload_n 3, 1) := by decide +kernel
theorem dX1_textLength_3 : decode cX1_textLength 3 = .ok (.iload_n 2, 1) := by decide +kernel
theorem dX1_textLength_4 : decode cX1_textLength 4 = .ok (.if_icmp .ge 35, 3) := by decide +kernel
theorem dX1_textLength_7 : decode cX1_textLength 7 = .ok (.iload_n 3, 1) := by decide +kernel
theorem dX1_textLength_8 : decode cX1_textLength 8 = .ok (.ifCond .lt 25, 3) := by decide +kernel
theorem dX1_textLength_11 : decode cX1_textLength 11 = .ok (.iload_n 3, 1) := by decide +kernel
theorem dX1_textLength_12 : decode cX1_textLength 12 = .ok (.aload_n 0, 1) := by decide +kernel
theorem dX1_textLength_13 : decode cX1_textLength 13 = .ok (.getfield 9, 3) := by decide +kernel
theorem dX1_textLength_16 : decode cX1_textLength 16 = .ok (.arraylength, 1) := by decide +kernel
theorem dX1_textLength_17 : decode cX1_textLength 17 = .ok (.if_icmp .ge 16, 3) := by decide +kernel
theorem dX1_textLength_20 : decode cX1_textLength 20 = .ok (.aload_n 0, 1) := by decide +kernel
theorem dX1_textLength_21 : decode cX1_textLength 21 = .ok (.getfield 9, 3) := by decide +kernel
theorem dX1_textLength_24 : decode cX1_textLength 24 = .ok (.iload_n 3, 1) := by decide +kernel
theorem dX1_textLength_25 : decode cX1_textLength 25 = .ok (.baload, 1) := by decide +kernel
theorem dX1_textLength_26 : decode cX1_textLength 26 = .ok (.ifCond .ne 7, 3) := by decide +kernel
theorem dX1_textLength_29 : decode cX1_textLength 29 = .ok (.iload_n 3, 1) := by decide +kernel
theorem dX1_textLength_30 : decode cX1_textLength 30 = .ok (.iload_n 1, 1) := by decide +kernel
theorem dX1_textLength_31 : decode cX1_textLength 31 = .ok (.isub, 1) := by decide +kernel
theorem dX1_textLength_32 : decode cX1_textLength 32 = .ok (.ireturn, 1) := by decide +kernel
theorem dX1_textLength_33 : decode cX1_textLength 33 = .ok (.iinc 3 1, 3) := by decide +kernel
theorem dX1_textLength_36 : decode cX1_textLength 36 = .ok (.goto (-34), 3) := by decide +kernel
theorem dX1_textLength_39 : decode cX1_textLength 39 = .ok (.iconst (-1), 1) := by decide +kernel
theorem dX1_textLength_40 : decode cX1_textLength 40 = .ok (.ireturn, 1) := by decide +kernel
theorem dX1_isText_0 : decode cX1_isText 0 = .ok (.iload_n 2, 1) := by decide +kernel
theorem dX1_isText_1 : decode cX1_isText 1 = .ok (.aload_n 3, 1) := by decide +kernel
theorem dX1_isText_2 : decode cX1_isText 2 = .ok (.invokevirtual 68, 3) := by decide +kernel
theorem dX1_isText_5 : decode cX1_isText 5 = .ok (.if_icmp .eq 5, 3) := by decide +kernel
theorem dX1_isText_8 : decode cX1_isText 8 = .ok (.iconst 0, 1) := by decide +kernel
theorem dX1_isText_9 : decode cX1_isText 9 = .ok (.ireturn, 1) := by decide +kernel
theorem dX1_isText_10 : decode cX1_isText 10 = .ok (.iconst 0, 1) := by decide +kernel
theorem dX1_isText_11 : decode cX1_isText 11 = .ok (.istore 4, 2) := by decide +kernel
theorem dX1_isText_13 : decode cX1_isText 13 = .ok (.iload 4, 2) := by decide +kernel
theorem dX1_isText_15 : decode cX1_isText 15 = .ok (.aload_n 3, 1) := by decide +kernel
theorem dX1_isText_16 : decode cX1_isText 16 = .ok (.invokevirtual 68, 3) := by decide +kernel
theorem dX1_isText_19 : decode cX1_isText 19 = .ok (.if_icmp .ge 28, 3) := by decide +kernel
theorem dX1_isText_22 : decode cX1_isText 22 = .ok (.aload_n 0, 1) := by decide +kernel
theorem dX1_isText_23 : decode cX1_isText 23 = .ok (.iload_n 1, 1) := by decide +kernel
theorem dX1_isText_24 : decode cX1_isText 24 = .ok (.iload 4, 2) := by decide +kernel
theorem dX1_isText_26 : decode cX1_isText 26 = .ok (.iadd, 1) := by decide +kernel
theorem dX1_isText_27 : decode cX1_isText 27 = .ok (.invokevirtual 58, 3) := by decide +kernel
theorem dX1_isText_30 : decode cX1_isText 30 = .ok (.aload_n 3, 1) := by decide +kernel
theorem dX1_isText_31 : decode cX1_isText 31 = .ok (.iload 4, 2) := by decide +kernel
theorem dX1_isText_33 : decode cX1_isText 33 = .ok (.invokevirtual 74, 3) := by decide +kernel
theorem dX1_isText_36 : decode cX1_isText 36 = .ok (.if_icmp .eq 5, 3) := by decide +kernel
theorem dX1_isText_39 : decode cX1_isText 39 = .ok (.iconst 0, 1) := by decide +kernel
theorem dX1_isText_40 : decode cX1_isText 40 = .ok (.ireturn, 1) := by decide +kernel
theorem dX1_isText_41 : decode cX1_isText 41 = .ok (.iinc 4 1, 3) := by decide +kernel
theorem dX1_isText_44 : decode cX1_isText 44 = .ok (.goto (-31), 3) := by decide +kernel
theorem dX1_isText_47 : decode cX1_isText 47 = .ok (.iconst 1, 1) := by decide +kernel
theorem dX1_isText_48 : decode cX1_isText 48 = .ok (.ireturn, 1) := by decide +kernel
theorem dX1_enterCounted_0 : decode cX1_enterCounted 0 = .ok (.aload_n 0, 1) := by decide +kernel
theorem dX1_enterCounted_1 : decode cX1_enterCounted 1 = .ok (.getfield 29, 3) := by decide +kernel
theorem dX1_enterCounted_4 : decode cX1_enterCounted 4 = .ok (.istore_n 1, 1) := by decide +kernel
theorem dX1_enterCounted_5 : decode cX1_enterCounted 5 = .ok (.aload_n 0, 1) := by decide +kernel
theorem dX1_enterCounted_6 : decode cX1_enterCounted 6 = .ok (.iconst 4, 1) := by decide +kernel
theorem dX1_enterCounted_7 : decode cX1_enterCounted 7 = .ok (.invokevirtual 50, 3) := by decide +kernel
theorem dX1_enterCounted_10 : decode cX1_enterCounted 10 = .ok (.lstore_n 2, 1) := by decide +kernel
theorem dX1_enterCounted_11 : decode cX1_enterCounted 11 = .ok (.lload_n 2, 1) := by decide +kernel
theorem dX1_enterCounted_12 : decode cX1_enterCounted 12 = .ok (.ldc2_w 78, 3) := by decide +kernel
theorem dX1_enterCounted_15 : decode cX1_enterCounted 15 = .ok (.lcmp, 1) := by decide +kernel
theorem dX1_enterCounted_16 : decode cX1_enterCounted 16 = .ok (.ifCond .lt 12, 3) := by decide +kernel
theorem dX1_enterCounted_19 : decode cX1_enterCounted 19 = .ok (.aload_n 0, 1) := by decide +kernel
theorem dX1_enterCounted_20 : decode cX1_enterCounted 20 = .ok (.iconst 2, 1) := by decide +kernel
theorem dX1_enterCounted_21 : decode cX1_enterCounted 21 = .ok (.iload_n 1, 1) := by decide +kernel
theorem dX1_enterCounted_22 : decode cX1_enterCounted 22 = .ok (.invokevirtual 43, 3) := by decide +kernel
theorem dX1_enterCounted_25 : decode cX1_enterCounted 25 = .ok (.goto 31, 3) := by decide +kernel
theorem dX1_enterCounted_28 : decode cX1_enterCounted 28 = .ok (.aload_n 0, 1) := by decide +kernel
theorem dX1_enterCounted_29 : decode cX1_enterCounted 29 = .ok (.lload_n 2, 1) := by decide +kernel
theorem dX1_enterCounted_30 : decode cX1_enterCounted 30 = .ok (.invokevirtual 39, 3) := by decide +kernel
theorem dX1_enterCounted_33 : decode cX1_enterCounted 33 = .ok (.ifCond .ne 12, 3) := by decide +kernel
theorem dX1_enterCounted_36 : decode cX1_enterCounted 36 = .ok (.aload_n 0, 1) := by decide +kernel
theorem dX1_enterCounted_37 : decode cX1_enterCounted 37 = .ok (.iconst 1, 1) := by decide +kernel
theorem dX1_enterCounted_38 : decode cX1_enterCounted 38 = .ok (.iload_n 1, 1) := by decide +kernel
theorem dX1_enterCounted_39 : decode cX1_enterCounted 39 = .ok (.invokevirtual 43, 3) := by decide +kernel
theorem dX1_enterCounted_42 : decode cX1_enterCounted 42 = .ok (.goto 14, 3) := by decide +kernel
theorem dX1_enterCounted_45 : decode cX1_enterCounted 45 = .ok (.aload_n 0, 1) := by decide +kernel
theorem dX1_enterCounted_46 : decode cX1_enterCounted 46 = .ok (.aload_n 0, 1) := by decide +kernel
theorem dX1_enterCounted_47 : decode cX1_enterCounted 47 = .ok (.getfield 29, 3) := by decide +kernel
theorem dX1_enterCounted_50 : decode cX1_enterCounted 50 = .ok (.lload_n 2, 1) := by decide +kernel
theorem dX1_enterCounted_51 : decode cX1_enterCounted 51 = .ok (.l2i, 1) := by decide +kernel
theorem dX1_enterCounted_52 : decode cX1_enterCounted 52 = .ok (.iadd, 1) := by decide +kernel
theorem dX1_enterCounted_53 : decode cX1_enterCounted 53 = .ok (.putfield 32, 3) := by decide +kernel
theorem dX1_enterCounted_56 : decode cX1_enterCounted 56 = .ok (.return_, 1) := by decide +kernel
theorem dX2_init_0 : decode cX2_init 0 = .ok (.aload_n 0, 1) := by decide +kernel
theorem dX2_init_1 : decode cX2_init 1 = .ok (.invokespecial 3, 3) := by decide +kernel
theorem dX2_init_4 : decode cX2_init 4 = .ok (.aload_n 0, 1) := by decide +kernel
theorem dX2_init_5 : decode cX2_init 5 = .ok (.sipush 400, 3) := by decide +kernel
theorem dX2_init_8 : decode cX2_init 8 = .ok (.newarray .long, 2) := by decide +kernel
theorem dX2_init_10 : decode cX2_init 10 = .ok (.putfield 9, 3) := by decide +kernel
theorem dX2_init_13 : decode cX2_init 13 = .ok (.aload_n 0, 1) := by decide +kernel
theorem dX2_init_14 : decode cX2_init 14 = .ok (.sipush 400, 3) := by decide +kernel
theorem dX2_init_17 : decode cX2_init 17 = .ok (.newarray .int, 2) := by decide +kernel
theorem dX2_init_19 : decode cX2_init 19 = .ok (.putfield 15, 3) := by decide +kernel
theorem dX2_init_22 : decode cX2_init 22 = .ok (.aload_n 0, 1) := by decide +kernel
theorem dX2_init_23 : decode cX2_init 23 = .ok (.sipush 400, 3) := by decide +kernel
theorem dX2_init_26 : decode cX2_init 26 = .ok (.newarray .int, 2) := by decide +kernel
theorem dX2_init_28 : decode cX2_init 28 = .ok (.putfield 19, 3) := by decide +kernel
theorem dX2_init_31 : decode cX2_init 31 = .ok (.aload_n 0, 1) := by decide +kernel
theorem dX2_init_32 : decode cX2_init 32 = .ok (.sipush 400, 3) := by decide +kernel
theorem dX2_init_35 : decode cX2_init 35 = .ok (.newarray .int, 2) := by decide +kernel
theorem dX2_init_37 : decode cX2_init 37 = .ok (.putfield 22, 3) := by decide +kernel
theorem dX2_init_40 : decode cX2_init 40 = .ok (.aload_n 0, 1) := by decide +kernel
theorem dX2_init_41 : decode cX2_init 41 = .ok (.sipush 400, 3) := by decide +kernel
theorem dX2_init_44 : decode cX2_init 44 = .ok (.newarray .int, 2) := by decide +kernel
theorem dX2_init_46 : decode cX2_init 46 = .ok (.putfield 25, 3) := by decide +kernel
theorem dX2_init_49 : decode cX2_init 49 = .ok (.aload_n 0, 1) := by decide +kernel
theorem dX2_init_50 : decode cX2_init 50 = .ok (.sipush 400, 3) := by decide +kernel
theorem dX2_init_53 : decode cX2_init 53 = .ok (.newarray .int, 2) := by decide +kernel
theorem dX2_init_55 : decode cX2_init 55 = .ok (.putfield 28, 3) := by decide +kernel
theorem dX2_init_58 : decode cX2_init 58 = .ok (.aload_n 0, 1) := by decide +kernel
theorem dX2_init_59 : decode cX2_init 59 = .ok (.sipush 400, 3) := by decide +kernel
theorem dX2_init_62 : decode cX2_init 62 = .ok (.newarray .int, 2) := by decide +kernel
theorem dX2_init_64 : decode cX2_init 64 = .ok (.putfield 31, 3) := by decide +kernel
theorem dX2_init_67 : decode cX2_init 67 = .ok (.aload_n 0, 1) := by decide +kernel
theorem dX2_init_68 : decode cX2_init 68 = .ok (.sipush 400, 3) := by decide +kernel
theorem dX2_init_71 : decode cX2_init 71 = .ok (.newarray .int, 2) := by decide +kernel
theorem dX2_init_73 : decode cX2_init 73 = .ok (.putfield 34, 3) := by decide +kernel
theorem dX2_init_76 : decode cX2_init 76 = .ok (.aload_n 0, 1) := by decide +kernel
theorem dX2_init_77 : decode cX2_init 77 = .ok (.sipush 400, 3) := by decide +kernel
theorem dX2_init_80 : decode cX2_init 80 = .ok (.newarray .int, 2) := by decide +kernel
theorem dX2_init_82 : decode cX2_init 82 = .ok (.putfield 37, 3) := by decide +kernel
theorem dX2_init_85 : decode cX2_init 85 = .ok (.aload_n 0, 1) := by decide +kernel
theorem dX2_init_86 : decode cX2_init 86 = .ok (.sipush 4000, 3) := by decide +kernel
theorem dX2_init_89 : decode cX2_init 89 = .ok (.newarray .long, 2) := by decide +kernel
theorem dX2_init_91 : decode cX2_init 91 = .ok (.putfield 40, 3) := by decide +kernel
theorem dX2_init_94 : decode cX2_init 94 = .ok (.return_, 1) := by decide +kernel
theorem dX2_clear_0 : decode cX2_clear 0 = .ok (.aload_n 0, 1) := by decide +kernel
theorem dX2_clear_1 : decode cX2_clear 1 = .ok (.iconst 0, 1) := by decide +kernel
theorem dX2_clear_2 : decode cX2_clear 2 = .ok (.putfield 43, 3) := by decide +kernel
theorem dX2_clear_5 : decode cX2_clear 5 = .ok (.return_, 1) := by decide +kernel
theorem dX2_add_0 : decode cX2_add 0 = .ok (.aload_n 0, 1) := by decide +kernel
theorem dX2_add_1 : decode cX2_add 1 = .ok (.getfield 43, 3) := by decide +kernel
theorem dX2_add_4 : decode cX2_add 4 = .ok (.sipush 400, 3) := by decide +kernel
theorem dX2_add_7 : decode cX2_add 7 = .ok (.if_icmp .lt 5, 3) := by decide +kernel
theorem dX2_add_10 : decode cX2_add 10 = .ok (.iconst (-1), 1) := by decide +kernel
theorem dX2_add_11 : decode cX2_add 11 = .ok (.ireturn, 1) := by decide +kernel
theorem dX2_add_12 : decode cX2_add 12 = .ok (.aload_n 0, 1) := by decide +kernel
theorem dX2_add_13 : decode cX2_add 13 = .ok (.getfield 9, 3) := by decide +kernel
theorem dX2_add_16 : decode cX2_add 16 = .ok (.aload_n 0, 1) := by decide +kernel
theorem dX2_add_17 : decode cX2_add 17 = .ok (.getfield 43, 3) := by decide +kernel
theorem dX2_add_20 : decode cX2_add 20 = .ok (.lload_n 1, 1) := by decide +kernel
theorem dX2_add_21 : decode cX2_add 21 = .ok (.invokestatic 47, 3) := by decide +kernel
theorem dX2_add_24 : decode cX2_add 24 = .ok (.aload_n 0, 1) := by decide +kernel
theorem dX2_add_25 : decode cX2_add 25 = .ok (.getfield 15, 3) := by decide +kernel
theorem dX2_add_28 : decode cX2_add 28 = .ok (.aload_n 0, 1) := by decide +kernel
theorem dX2_add_29 : decode cX2_add 29 = .ok (.getfield 43, 3) := by decide +kernel
theorem dX2_add_32 : decode cX2_add 32 = .ok (.iload_n 3, 1) := by decide +kernel
theorem dX2_add_33 : decode cX2_add 33 = .ok (.invokestatic 51, 3) := by decide +kernel
theorem dX2_add_36 : decode cX2_add 36 = .ok (.aload_n 0, 1) := by decide +kernel
theorem dX2_add_37 : decode cX2_add 37 = .ok (.getfield 19, 3) := by decide +kernel
theorem dX2_add_40 : decode cX2_add 40 = .ok (.aload_n 0, 1) := by decide +kernel
theorem dX2_add_41 : decode cX2_add 41 = .ok (.getfield 43, 3) := by decide +kernel
theorem dX2_add_44 : decode cX2_add 44 = .ok (.iload 4, 2) := by decide +kernel
theorem dX2_add_46 : decode cX2_add 46 = .ok (.invokestatic 51, 3) := by decide +kernel
theorem dX2_add_49 : decode cX2_add 49 = .ok (.aload_n 0, 1) := by decide +kernel
theorem dX2_add_50 : decode cX2_add 50 = .ok (.getfield 22, 3) := by decide +kernel
theorem dX2_add_53 : decode cX2_add 53 = .ok (.aload_n 0, 1) := by decide +kernel
theorem dX2_add_54 : decode cX2_add 54 = .ok (.getfield 43, 3) := by decide +kernel
theorem dX2_add_57 : decode cX2_add 57 = .ok (.iload 5, 2) := by decide +kernel
theorem dX2_add_59 : decode cX2_add 59 = .ok (.invokestatic 51, 3) := by decide +kernel
theorem dX2_add_62 : decode cX2_add 62 = .ok (.aload_n 0, 1) := by decide +kernel
theorem dX2_add_63 : decode cX2_add 63 = .ok (.getfield 25, 3) := by decide +kernel
theorem dX2_add_66 : decode cX2_add 66 = .ok (.aload_n 0, 1) := by decide +kernel
theorem dX2_add_67 : decode cX2_add 67 = .ok (.getfield 43, 3) := by decide +kernel
theorem dX2_add_70 : decode cX2_add 70 = .ok (.iconst (-1), 1) := by decide +kernel
theorem dX2_add_71 : decode cX2_add 71 = .ok (.invokestatic 51, 3) := by decide +kernel
theorem dX2_add_74 : decode cX2_add 74 = .ok (.aload_n 0, 1) := by decide +kernel
theorem dX2_add_75 : decode cX2_add 75 = .ok (.getfield 28, 3) := by decide +kernel
theorem dX2_add_78 : decode cX2_add 78 = .ok (.aload_n 0, 1) := by decide +kernel
theorem dX2_add_79 : decode cX2_add 79 = .ok (.getfield 43, 3) := by decide +kernel
theorem dX2_add_82 : decode cX2_add 82 = .ok (.iconst (-1), 1) := by decide +kernel
theorem dX2_add_83 : decode cX2_add 83 = .ok (.invokestatic 51, 3) := by decide +kernel
theorem dX2_add_86 : decode cX2_add 86 = .ok (.aload_n 0, 1) := by decide +kernel
theorem dX2_add_87 : decode cX2_add 87 = .ok (.getfield 31, 3) := by decide +kernel
theorem dX2_add_90 : decode cX2_add 90 = .ok (.aload_n 0, 1) := by decide +kernel
theorem dX2_add_91 : decode cX2_add 91 = .ok (.getfield 43, 3) := by decide +kernel
theorem dX2_add_94 : decode cX2_add 94 = .ok (.iconst 0, 1) := by decide +kernel
theorem dX2_add_95 : decode cX2_add 95 = .ok (.invokestatic 51, 3) := by decide +kernel
theorem dX2_add_98 : decode cX2_add 98 = .ok (.aload_n 0, 1) := by decide +kernel
theorem dX2_add_99 : decode cX2_add 99 = .ok (.getfield 34, 3) := by decide +kernel
theorem dX2_add_102 : decode cX2_add 102 = .ok (.aload_n 0, 1) := by decide +kernel
theorem dX2_add_103 : decode cX2_add 103 = .ok (.getfield 43, 3) := by decide +kernel
theorem dX2_add_106 : decode cX2_add 106 = .ok (.iconst 0, 1) := by decide +kernel
theorem dX2_add_107 : decode cX2_add 107 = .ok (.invokestatic 51, 3) := by decide +kernel
theorem dX2_add_110 : decode cX2_add 110 = .ok (.aload_n 0, 1) := by decide +kernel
theorem dX2_add_111 : decode cX2_add 111 = .ok (.getfield 37, 3) := by decide +kernel
theorem dX2_add_114 : decode cX2_add 114 = .ok (.aload_n 0, 1) := by decide +kernel
theorem dX2_add_115 : decode cX2_add 115 = .ok (.getfield 43, 3) := by decide +kernel
theorem dX2_add_118 : decode cX2_add 118 = .ok (.iconst 0, 1) := by decide +kernel
theorem dX2_add_119 : decode cX2_add 119 = .ok (.invokestatic 51, 3) := by decide +kernel
theorem dX2_add_122 : decode cX2_add 122 = .ok (.aload_n 0, 1) := by decide +kernel
theorem dX2_add_123 : decode cX2_add 123 = .ok (.dup, 1) := by decide +kernel
theorem dX2_add_124 : decode cX2_add 124 = .ok (.getfield 43, 3) := by decide +kernel
theorem dX2_add_127 : decode cX2_add 127 = .ok (.iconst 1, 1) := by decide +kernel
theorem dX2_add_128 : decode cX2_add 128 = .ok (.iadd, 1) := by decide +kernel
theorem dX2_add_129 : decode cX2_add 129 = .ok (.putfield 43, 3) := by decide +kernel
theorem dX2_add_132 : decode cX2_add 132 = .ok (.aload_n 0, 1) := by decide +kernel
theorem dX2_add_133 : decode cX2_add 133 = .ok (.getfield 43, 3) := by decide +kernel
theorem dX2_add_136 : decode cX2_add 136 = .ok (.iconst 1, 1) := by decide +kernel
theorem dX2_add_137 : decode cX2_add 137 = .ok (.isub, 1) := by decide +kernel
theorem dX2_add_138 : decode cX2_add 138 = .ok (.ireturn, 1) := by decide +kernel
theorem dX2_keepFirst_0 : decode cX2_keepFirst 0 = .ok (.aload_n 0, 1) := by decide +kernel
theorem dX2_keepFirst_1 : decode cX2_keepFirst 1 = .ok (.getfield 37, 3) := by decide +kernel
theorem dX2_keepFirst_4 : decode cX2_keepFirst 4 = .ok (.iload_n 1, 1) := by decide +kernel
theorem dX2_keepFirst_5 : decode cX2_keepFirst 5 = .ok (.invokestatic 54, 3) := by decide +kernel
theorem dX2_keepFirst_8 : decode cX2_keepFirst 8 = .ok (.istore 5, 2) := by decide +kernel
theorem dX2_keepFirst_10 : decode cX2_keepFirst 10 = .ok (.iconst 1, 1) := by decide +kernel
theorem dX2_keepFirst_11 : decode cX2_keepFirst 11 = .ok (.iload_n 2, 1) := by decide +kernel
theorem dX2_keepFirst_12 : decode cX2_keepFirst 12 = .ok (.ishl, 1) := by decide +kernel
theorem dX2_keepFirst_13 : decode cX2_keepFirst 13 = .ok (.istore 6, 2) := by decide +kernel
theorem dX2_keepFirst_15 : decode cX2_keepFirst 15 = .ok (.aload_n 0, 1) := by decide +kernel
theorem dX2_keepFirst_16 : decode cX2_keepFirst 16 = .ok (.iload_n 1, 1) := by decide +kernel
theorem dX2_keepFirst_17 : decode cX2_keepFirst 17 = .ok (.invokevirtual 58, 3) := by decide +kernel
theorem dX2_keepFirst_20 : decode cX2_keepFirst 20 = .ok (.ifCond .eq 11, 3) := by decide +kernel
theorem dX2_keepFirst_23 : decode cX2_keepFirst 23 = .ok (.iload 5, 2) := by decide +kernel
theorem dX2_keepFirst_25 : decode cX2_keepFirst 25 = .ok (.iload 6, 2) := by decide +kernel
theorem dX2_keepFirst_27 : decode cX2_keepFirst 27 = .ok (.iand, 1) := by decide +kernel
theorem dX2_keepFirst_28 : decode cX2_keepFirst 28 = .ok (.ifCond .eq 5, 3) := by decide +kernel
theorem dX2_keepFirst_31 : decode cX2_keepFirst 31 = .ok (.iconst 0, 1) := by decide +kernel
theorem dX2_keepFirst_32 : decode cX2_keepFirst 32 = .ok (.ireturn, 1) := by decide +kernel
theorem dX2_keepFirst_33 : decode cX2_keepFirst 33 = .ok (.aload_n 0, 1) := by decide +kernel
theorem dX2_keepFirst_34 : decode cX2_keepFirst 34 = .ok (.getfield 40, 3) := by decide +kernel
theorem dX2_keepFirst_37 : decode cX2_keepFirst 37 = .ok (.iload_n 1, 1) := by decide +kernel
theorem dX2_keepFirst_38 : decode cX2_keepFirst 38 = .ok (.bipush 10, 2) := by decide +kernel
theorem dX2_keepFirst_40 : decode cX2_keepFirst 40 = .ok (.imul, 1) := by decide +kernel
theorem dX2_keepFirst_41 : decode cX2_keepFirst 41 = .ok (.iload_n 2, 1) := by decide +kernel
theorem dX2_keepFirst_42 : decode cX2_keepFirst 42 = .ok (.iadd, 1) := by decide +kernel
theorem dX2_keepFirst_43 : decode cX2_keepFirst 43 = .ok (.lload_n 3, 1) := by decide +kernel
theorem dX2_keepFirst_44 : decode cX2_keepFirst 44 = .ok (.invokestatic 47, 3) := by decide +kernel
theorem dX2_keepFirst_47 : decode cX2_keepFirst 47 = .ok (.aload_n 0, 1) := by decide +kernel
theorem dX2_keepFirst_48 : decode cX2_keepFirst 48 = .ok (.getfield 37, 3) := by decide +kernel
theorem dX2_keepFirst_51 : decode cX2_keepFirst 51 = .ok (.iload_n 1, 1) := by decide +kernel
theorem dX2_keepFirst_52 : decode cX2_keepFirst 52 = .ok (.iload 5, 2) := by decide +kernel
theorem dX2_keepFirst_54 : decode cX2_keepFirst 54 = .ok (.iload 6, 2) := by decide +kernel
theorem dX2_keepFirst_56 : decode cX2_keepFirst 56 = .ok (.ior, 1) := by decide +kernel
theorem dX2_keepFirst_57 : decode cX2_keepFirst 57 = .ok (.invokestatic 51, 3) := by decide +kernel
theorem dX2_keepFirst_60 : decode cX2_keepFirst 60 = .ok (.iconst 1, 1) := by decide +kernel
theorem dX2_keepFirst_61 : decode cX2_keepFirst 61 = .ok (.ireturn, 1) := by decide +kernel
theorem dX2_keepName_0 : decode cX2_keepName 0 = .ok (.aload_n 0, 1) := by decide +kernel
theorem dX2_keepName_1 : decode cX2_keepName 1 = .ok (.iload_n 1, 1) := by decide +kernel
theorem dX2_keepName_2 : decode cX2_keepName 2 = .ok (.iconst 0, 1) := by decide +kernel
theorem dX2_keepName_3 : decode cX2_keepName 3 = .ok (.iload_n 2, 1) := by decide +kernel
theorem dX2_keepName_4 : decode cX2_keepName 4 = .ok (.i2l, 1) := by decide +kernel
theorem dX2_keepName_5 : decode cX2_keepName 5 = .ok (.invokevirtual 62, 3) := by decide +kernel
theorem dX2_keepName_8 : decode cX2_keepName 8 = .ok (.ifCond .eq 12, 3) := by decide +kernel
theorem dX2_keepName_11 : decode cX2_keepName 11 = .ok (.aload_n 0, 1) := by decide +kernel
theorem dX2_keepName_12 : decode cX2_keepName 12 = .ok (.getfield 28, 3) := by decide +kernel
theorem dX2_keepName_15 : decode cX2_keepName 15 = .ok (.iload_n 1, 1) := by decide +kernel
theorem dX2_keepName_16 : decode cX2_keepName 16 = .ok (.iload_n 3, 1) := by decide +kernel
theorem dX2_keepName_17 : decode cX2_keepName 17 = .ok (.invokestatic 51, 3) := by decide +kernel
theorem dX2_keepName_20 : decode cX2_keepName 20 = .ok (.return_, 1) := by decide +kernel
theorem dX2_setRanges_0 : decode cX2_setRanges 0 = .ok (.aload_n 0, 1) := by decide +kernel
theorem dX2_setRanges_1 : decode cX2_setRanges 1 = .ok (.getfield 31, 3) := by decide +kernel
theorem dX2_setRanges_4 : decode cX2_setRanges 4 = .ok (.iload_n 1, 1) := by decide +kernel
theorem dX2_setRanges_5 : decode cX2_setRanges 5 = .ok (.iload_n 2, 1) := by decide +kernel
theorem dX2_setRanges_6 : decode cX2_setRanges 6 = .ok (.invokestatic 51, 3) := by decide +kernel
theorem dX2_setRanges_9 : decode cX2_setRanges 9 = .ok (.aload_n 0, 1) := by decide +kernel
theorem dX2_setRanges_10 : decode cX2_setRanges 10 = .ok (.getfield 34, 3) := by decide +kernel
theorem dX2_setRanges_13 : decode cX2_setRanges 13 = .ok (.iload_n 1, 1) := by decide +kernel
theorem dX2_setRanges_14 : decode cX2_setRanges 14 = .ok (.iload_n 3, 1) := by decide +kernel
theorem dX2_setRanges_15 : decode cX2_setRanges 15 = .ok (.invokestatic 51, 3) := by decide +kernel
theorem dX2_setRanges_18 : decode cX2_setRanges 18 = .ok (.return_, 1) := by decide +kernel
theorem dX2_settleOrigin_0 : decode cX2_settleOrigin 0 = .ok (.aload_n 0, 1) := by decide +kernel
theorem dX2_settleOrigin_1 : decode cX2_settleOrigin 1 = .ok (.iload_n 1, 1) := by decide +kernel
theorem dX2_settleOrigin_2 : decode cX2_settleOrigin 2 = .ok (.iconst 5, 1) := by decide +kernel
theorem dX2_settleOrigin_3 : decode cX2_settleOrigin 3 = .ok (.aload_n 0, 1) := by decide +kernel
theorem dX2_settleOrigin_4 : decode cX2_settleOrigin 4 = .ok (.iload_n 1, 1) := by decide +kernel
theorem dX2_settleOrigin_5 : decode cX2_settleOrigin 5 = .ok (.bipush 6, 2) := by decide +kernel
theorem dX2_settleOrigin_7 : decode cX2_settleOrigin 7 = .ok (.ldc2_w 66, 3) := by decide +kernel
theorem dX2_settleOrigin_10 : decode cX2_settleOrigin 10 = .ok (.invokevirtual 68, 3) := by decide +kernel
theorem dX2_settleOrigin_13 : decode cX2_settleOrigin 13 = .ok (.invokevirtual 68, 3) := by decide +kernel
theorem dX2_settleOrigin_16 : decode cX2_settleOrigin 16 = .ok (.lstore_n 3, 1) := by decide +kernel
theorem dX2_settleOrigin_17 : decode cX2_settleOrigin 17 = .ok (.aload_n 0, 1) := by decide +kernel
theorem dX2_settleOrigin_18 : decode cX2_settleOrigin 18 = .ok (.getfield 25, 3) := by decide +kernel
theorem dX2_settleOrigin_21 : decode cX2_settleOrigin 21 = .ok (.iload_n 1, 1) := by decide +kernel
theorem dX2_settleOrigin_22 : decode cX2_settleOrigin 22 = .ok (.lload_n 3, 1) := by decide +kernel
theorem dX2_settleOrigin_23 : decode cX2_settleOrigin 23 = .ok (.ldc2_w 66, 3) := by decide +kernel
theorem dX2_settleOrigin_26 : decode cX2_settleOrigin 26 = .ok (.lcmp, 1) := by decide +kernel
theorem dX2_settleOrigin_27 : decode cX2_settleOrigin 27 = .ok (.ifCond .ne 7, 3) := by decide +kernel
theorem dX2_settleOrigin_30 : decode cX2_settleOrigin 30 = .ok (.iconst (-1), 1) := by decide +kernel
theorem dX2_settleOrigin_31 : decode cX2_settleOrigin 31 = .ok (.goto 9, 3) := by decide +kernel
theorem dX2_settleOrigin_34 : decode cX2_settleOrigin 34 = .ok (.aload_n 0, 1) := by decide +kernel
theorem dX2_settleOrigin_35 : decode cX2_settleOrigin 35 = .ok (.lload_n 3, 1) := by decide +kernel
theorem dX2_settleOrigin_36 : decode cX2_settleOrigin 36 = .ok (.iload_n 2, 1) := by decide +kernel
theorem dX2_settleOrigin_37 : decode cX2_settleOrigin 37 = .ok (.invokevirtual 72, 3) := by decide +kernel
theorem dX2_settleOrigin_40 : decode cX2_settleOrigin 40 = .ok (.invokestatic 51, 3) := by decide +kernel
theorem dX2_settleOrigin_43 : decode cX2_settleOrigin 43 = .ok (.return_, 1) := by decide +kernel
theorem dX2_placedAt_0 : decode cX2_placedAt 0 = .ok (.iload_n 3, 1) := by decide +kernel
theorem dX2_placedAt_1 : decode cX2_placedAt 1 = .ok (.istore 4, 2) := by decide +kernel
theorem dX2_placedAt_3 : decode cX2_placedAt 3 = .ok (.aload_n 0, 1) := by decide +kernel
theorem dX2_placedAt_4 : decode cX2_placedAt 4 = .ok (.getfield 43, 3) := by decide +kernel
theorem dX2_placedAt_7 : decode cX2_placedAt 7 = .ok (.iconst 1, 1) := by decide +kernel
theorem dX2_placedAt_8 : decode cX2_placedAt 8 = .ok (.isub, 1) := by decide +kernel
theorem dX2_placedAt_9 : decode cX2_placedAt 9 = .ok (.istore 5, 2) := by decide +kernel
theorem dX2_placedAt_11 : decode cX2_placedAt 11 = .ok (.iconst 0, 1) := by decide +kernel
theorem dX2_placedAt_12 : decode cX2_placedAt 12 = .ok (.istore 6, 2) := by decide +kernel
theorem dX2_placedAt_14 : decode cX2_placedAt 14 = .ok (.iload 6, 2) := by decide +kernel
theorem dX2_placedAt_16 : decode cX2_placedAt 16 = .ok (.sipush 400, 3) := by decide +kernel
theorem dX2_placedAt_19 : decode cX2_placedAt 19 = .ok (.if_icmp .ge 67, 3) := by decide +kernel
theorem dX2_placedAt_22 : decode cX2_placedAt 22 = .ok (.iload 4, 2) := by decide +kernel
theorem dX2_placedAt_24 : decode cX2_placedAt 24 = .ok (.iload 5, 2) := by decide +kernel
theorem dX2_placedAt_26 : decode cX2_placedAt 26 = .ok (.if_icmp .gt 60, 3) := by decide +kernel
theorem dX2_placedAt_29 : decode cX2_placedAt 29 = .ok (.iload 4, 2) := by decide +kernel
theorem dX2_placedAt_31 : decode cX2_placedAt 31 = .ok (.iload 5, 2) := by decide +kernel
theorem dX2_placedAt_33 : decode cX2_placedAt 33 = .ok (.iadd, 1) := by decide +kernel
theorem dX2_placedAt_34 : decode cX2_placedAt 34 = .ok (.iconst 2, 1) := by decide +kernel
theorem dX2_placedAt_35 : decode cX2_placedAt 35 = .ok (.idiv, 1) := by decide +kernel
theorem dX2_placedAt_36 : decode cX2_placedAt 36 = .ok (.istore 7, 2) := by decide +kernel
theorem dX2_placedAt_38 : decode cX2_placedAt 38 = .ok (.aload_n 0, 1) := by decide +kernel
theorem dX2_placedAt_39 : decode cX2_placedAt 39 = .ok (.iload 7, 2) := by decide +kernel
theorem dX2_placedAt_41 : decode cX2_placedAt 41 = .ok (.invokevirtual 76, 3) := by decide +kernel
theorem dX2_placedAt_44 : decode cX2_placedAt 44 = .ok (.istore 8, 2) := by decide +kernel
theorem dX2_placedAt_46 : decode cX2_placedAt 46 = .ok (.iload 8, 2) := by decide +kernel
theorem dX2_placedAt_48 : decode cX2_placedAt 48 = .ok (.i2l, 1) := by decide +kernel
theorem dX2_placedAt_49 : decode cX2_placedAt 49 = .ok (.lload_n 1, 1) := by decide +kernel
theorem dX2_placedAt_50 : decode cX2_placedAt 50 = .ok (.lcmp, 1) := by decide +kernel
theorem dX2_placedAt_51 : decode cX2_placedAt 51 = .ok (.ifCond .ne 6, 3) := by decide +kernel
theorem dX2_placedAt_54 : decode cX2_placedAt 54 = .ok (.iload 7, 2) := by decide +kernel
theorem dX2_placedAt_56 : decode cX2_placedAt 56 = .ok (.ireturn, 1) := by decide +kernel
theorem dX2_placedAt_57 : decode cX2_placedAt 57 = .ok (.iload 8, 2) := by decide +kernel
theorem dX2_placedAt_59 : decode cX2_placedAt 59 = .ok (.i2l, 1) := by decide +kernel
theorem dX2_placedAt_60 : decode cX2_placedAt 60 = .ok (.lload_n 1, 1) := by decide +kernel
theorem dX2_placedAt_61 : decode cX2_placedAt 61 = .ok (.lcmp, 1) := by decide +kernel
theorem dX2_placedAt_62 : decode cX2_placedAt 62 = .ok (.ifCond .ge 12, 3) := by decide +kernel
theorem dX2_placedAt_65 : decode cX2_placedAt 65 = .ok (.iload 7, 2) := by decide +kernel
theorem dX2_placedAt_67 : decode cX2_placedAt 67 = .ok (.iconst 1, 1) := by decide +kernel
theorem dX2_placedAt_68 : decode cX2_placedAt 68 = .ok (.iadd, 1) := by decide +kernel
theorem dX2_placedAt_69 : decode cX2_placedAt 69 = .ok (.istore 4, 2) := by decide +kernel
theorem dX2_placedAt_71 : decode cX2_placedAt 71 = .ok (.goto 9, 3) := by decide +kernel
theorem dX2_placedAt_74 : decode cX2_placedAt 74 = .ok (.iload 7, 2) := by decide +kernel
theorem dX2_placedAt_76 : decode cX2_placedAt 76 = .ok (.iconst 1, 1) := by decide +kernel
theorem dX2_placedAt_77 : decode cX2_placedAt 77 = .ok (.isub, 1) := by decide +kernel
theorem dX2_placedAt_78 : decode cX2_placedAt 78 = .ok (.istore 5, 2) := by decide +kernel
theorem dX2_placedAt_80 : decode cX2_placedAt 80 = .ok (.iinc 6 1, 3) := by decide +kernel
theorem dX2_placedAt_83 : decode cX2_placedAt 83 = .ok (.goto (-69), 3) := by decide +kernel
theorem dX2_placedAt_86 : decode cX2_placedAt 86 = .ok (.iconst (-1), 1) := by decide +kernel
theorem dX2_placedAt_87 : decode cX2_placedAt 87 = .ok (.ireturn, 1) := by decide +kernel
theorem dX2_total_0 : decode cX2_total 0 = .ok (.aload_n 0, 1) := by decide +kernel
theorem dX2_total_1 : decode cX2_total 1 = .ok (.getfield 43, 3) := by decide +kernel
theorem dX2_total_4 : decode cX2_total 4 = .ok (.ireturn, 1) := by decide +kernel
theorem dX2_has_0 : decode cX2_has 0 = .ok (.iload_n 1, 1) := by decide +kernel
theorem dX2_has_1 : decode cX2_has 1 = .ok (.ifCond .lt 15, 3) := by decide +kernel
theorem dX2_has_4 : decode cX2_has 4 = .ok (.iload_n 1, 1) := by decide +kernel
theorem dX2_has_5 : decode cX2_has 5 = .ok (.aload_n 0, 1) := by decide +kernel
theorem dX2_has_6 : decode cX2_has 6 = .ok (.getfield 43, 3) := by decide +kernel
theorem dX2_has_9 : decode cX2_has 9 = .ok (.if_icmp .ge 7, 3) := by decide +kernel
theorem dX2_has_12 : decode cX2_has 12 = .ok (.iconst 1, 1) := by decide +kernel
theorem dX2_has_13 : decode cX2_has 13 = .ok (.goto 4, 3) := by decide +kernel
theorem dX2_has_16 : decode cX2_has 16 = .ok (.iconst 0, 1) := by decide +kernel
theorem dX2_has_17 : decode cX2_has 17 = .ok (.ireturn, 1) := by decide +kernel
theorem dX2_isTold_0 : decode cX2_isTold 0 = .ok (.aload_n 0, 1) := by decide +kernel
theorem dX2_isTold_1 : decode cX2_isTold 1 = .ok (.iload_n 1, 1) := by decide +kernel
theorem dX2_isTold_2 : decode cX2_isTold 2 = .ok (.invokevirtual 58, 3) := by decide +kernel
theorem dX2_isTold_5 : decode cX2_isTold 5 = .ok (.ifCond .eq 22, 3) := by decide +kernel
theorem dX2_isTold_8 : decode cX2_isTold 8 = .ok (.aload_n 0, 1) := by decide +kernel
theorem dX2_isTold_9 : decode cX2_isTold 9 = .ok (.getfield 37, 3) := by decide +kernel
theorem dX2_isTold_12 : decode cX2_isTold 12 = .ok (.iload_n 1, 1) := by decide +kernel
theorem dX2_isTold_13 : decode cX2_isTold 13 = .ok (.invokestatic 54, 3) := by decide +kernel
theorem dX2_isTold_16 : decode cX2_isTold 16 = .ok (.iconst 1, 1) := by decide +kernel
theorem dX2_isTold_17 : decode cX2_isTold 17 = .ok (.iload_n 2, 1) := by decide +kernel
theorem dX2_isTold_18 : decode cX2_isTold 18 = .ok (.ishl, 1) := by decide +kernel
theorem dX2_isTold_19 : decode cX2_isTold 19 = .ok (.iand, 1) := by decide +kernel
theorem dX2_isTold_20 : decode cX2_isTold 20 = .ok (.ifCond .eq 7, 3) := by decide +kernel
theorem dX2_isTold_23 : decode cX2_isTold 23 = .ok (.iconst 1, 1) := by decide +kernel
theorem dX2_isTold_24 : decode cX2_isTold 24 = .ok (.goto 4, 3) := by decide +kernel
theorem dX2_isTold_27 : decode cX2_isTold 27 = .ok (.iconst 0, 1) := by decide +kernel
theorem dX2_isTold_28 : decode cX2_isTold 28 = .ok (.ireturn, 1) := by decide +kernel
theorem dX2_valueOr_0 : decode cX2_valueOr 0 = .ok (.aload_n 0, 1) := by decide +kernel
theorem dX2_valueOr_1 : decode cX2_valueOr 1 = .ok (.iload_n 1, 1) := by decide +kernel
theorem dX2_valueOr_2 : decode cX2_valueOr 2 = .ok (.iload_n 2, 1) := by decide +kernel
theorem dX2_valueOr_3 : decode cX2_valueOr 3 = .ok (.invokevirtual 80, 3) := by decide +kernel
theorem dX2_valueOr_6 : decode cX2_valueOr 6 = .ok (.ifCond .eq 19, 3) := by decide +kernel
theorem dX2_valueOr_9 : decode cX2_valueOr 9 = .ok (.aload_n 0, 1) := by decide +kernel
theorem dX2_valueOr_10 : decode cX2_valueOr 10 = .ok (.getfield 40, 3) := by decide +kernel
theorem dX2_valueOr_13 : decode cX2_valueOr 13 = .ok (.iload_n 1, 1) := by decide +kernel
theorem dX2_valueOr_14 : decode cX2_valueOr 14 = .ok (.bipush 10, 2) := by decide +kernel
theorem dX2_valueOr_16 : decode cX2_valueOr 16 = .ok (.imul, 1) := by decide +kernel
theorem dX2_valueOr_17 : decode cX2_valueOr 17 = .ok (.iload_n 2, 1) := by decide +kernel
theorem dX2_valueOr_18 : decode cX2_valueOr 18 = .ok (.iadd, 1) := by decide +kernel
theorem dX2_valueOr_19 : decode cX2_valueOr 19 = .ok (.invokestatic 84, 3) := by decide +kernel
theorem dX2_valueOr_22 : decode cX2_valueOr 22 = .ok (.goto 4, 3) := by decide +kernel
theorem dX2_valueOr_25 : decode cX2_valueOr 25 = .ok (.lload_n 3, 1) := by decide +kernel
theorem dX2_valueOr_26 : decode cX2_valueOr 26 = .ok (.lreturn, 1) := by decide +kernel
theorem dX2_tagOf_0 : decode cX2_tagOf 0 = .ok (.aload_n 0, 1) := by decide +kernel
theorem dX2_tagOf_1 : decode cX2_tagOf 1 = .ok (.getfield 9, 3) := by decide +kernel
theorem dX2_tagOf_4 : decode cX2_tagOf 4 = .ok (.iload_n 1, 1) := by decide +kernel
theorem dX2_tagOf_5 : decode cX2_tagOf 5 = .ok (.invokestatic 84, 3) := by decide +kernel
theorem dX2_tagOf_8 : decode cX2_tagOf 8 = .ok (.lreturn, 1) := by decide +kernel
theorem dX2_parentOf_0 : decode cX2_parentOf 0 = .ok (.aload_n 0, 1) := by decide +kernel
theorem dX2_parentOf_1 : decode cX2_parentOf 1 = .ok (.getfield 15, 3) := by decide +kernel
theorem dX2_parentOf_4 : decode cX2_parentOf 4 = .ok (.iload_n 1, 1) := by decide +kernel
theorem dX2_parentOf_5 : decode cX2_parentOf 5 = .ok (.invokestatic 54, 3) := by decide +kernel
theorem dX2_parentOf_8 : decode cX2_parentOf 8 = .ok (.ireturn, 1) := by decide +kernel
theorem dX2_unitOf_0 : decode cX2_unitOf 0 = .ok (.aload_n 0, 1) := by decide +kernel
theorem dX2_unitOf_1 : decode cX2_unitOf 1 = .ok (.getfield 19, 3) := by decide +kernel
theorem dX2_unitOf_4 : decode cX2_unitOf 4 = .ok (.iload_n 1, 1) := by decide +kernel
theorem dX2_unitOf_5 : decode cX2_unitOf 5 = .ok (.invokestatic 54, 3) := by decide +kernel
theorem dX2_unitOf_8 : decode cX2_unitOf 8 = .ok (.ireturn, 1) := by decide +kernel
theorem dX2_placeOf_0 : decode cX2_placeOf 0 = .ok (.aload_n 0, 1) := by decide +kernel
theorem dX2_placeOf_1 : decode cX2_placeOf 1 = .ok (.getfield 22, 3) := by decide +kernel
theorem dX2_placeOf_4 : decode cX2_placeOf 4 = .ok (.iload_n 1, 1) := by decide +kernel
theorem dX2_placeOf_5 : decode cX2_placeOf 5 = .ok (.invokestatic 54, 3) := by decide +kernel
theorem dX2_placeOf_8 : decode cX2_placeOf 8 = .ok (.ireturn, 1) := by decide +kernel
theorem dX2_originOf_0 : decode cX2_originOf 0 = .ok (.aload_n 0, 1) := by decide +kernel
theorem dX2_originOf_1 : decode cX2_originOf 1 = .ok (.getfield 25, 3) := by decide +kernel
theorem dX2_originOf_4 : decode cX2_originOf 4 = .ok (.iload_n 1, 1) := by decide +kernel
theorem dX2_originOf_5 : decode cX2_originOf 5 = .ok (.invokestatic 54, 3) := by decide +kernel
theorem dX2_originOf_8 : decode cX2_originOf 8 = .ok (.ireturn, 1) := by decide +kernel
theorem dX2_firstRangeOf_0 : decode cX2_firstRangeOf 0 = .ok (.aload_n 0, 1) := by decide +kernel
theorem dX2_firstRangeOf_1 : decode cX2_firstRangeOf 1 = .ok (.getfield 31, 3) := by decide +kernel
theorem dX2_firstRangeOf_4 : decode cX2_firstRangeOf 4 = .ok (.iload_n 1, 1) := by decide +kernel
theorem dX2_firstRangeOf_5 : decode cX2_firstRangeOf 5 = .ok (.invokestatic 54, 3) := by decide +kernel
theorem dX2_firstRangeOf_8 : decode cX2_firstRangeOf 8 = .ok (.ireturn, 1) := by decide +kernel
theorem dX2_rangeTotalOf_0 : decode cX2_rangeTotalOf 0 = .ok (.aload_n 0, 1) := by decide +kernel
theorem dX2_rangeTotalOf_1 : decode cX2_rangeTotalOf 1 = .ok (.getfield 34, 3) := by decide +kernel
theorem dX2_rangeTotalOf_4 : decode cX2_rangeTotalOf 4 = .ok (.iload_n 1, 1) := by decide +kernel
theorem dX2_rangeTotalOf_5 : decode cX2_rangeTotalOf 5 = .ok (.invokestatic 54, 3) := by decide +kernel
theorem dX2_rangeTotalOf_8 : decode cX2_rangeTotalOf 8 = .ok (.ireturn, 1) := by decide +kernel
theorem dX2_namedFor_0 : decode cX2_namedFor 0 = .ok (.iload_n 1, 1) := by decide +kernel
theorem dX2_namedFor_1 : decode cX2_namedFor 1 = .ok (.istore_n 2, 1) := by decide +kernel
theorem dX2_namedFor_2 : decode cX2_namedFor 2 = .ok (.iconst 0, 1) := by decide +kernel
theorem dX2_namedFor_3 : decode cX2_namedFor 3 = .ok (.istore_n 3, 1) := by decide +kernel
theorem dX2_namedFor_4 : decode cX2_namedFor 4 = .ok (.iload_n 3, 1) := by decide +kernel
theorem dX2_namedFor_5 : decode cX2_namedFor 5 = .ok (.bipush 8, 2) := by decide +kernel
theorem dX2_namedFor_7 : decode cX2_namedFor 7 = .ok (.if_icmp .gt 34, 3) := by decide +kernel
theorem dX2_namedFor_10 : decode cX2_namedFor 10 = .ok (.aload_n 0, 1) := by decide +kernel
theorem dX2_namedFor_11 : decode cX2_namedFor 11 = .ok (.iload_n 2, 1) := by decide +kernel
theorem dX2_namedFor_12 : decode cX2_namedFor 12 = .ok (.invokevirtual 58, 3) := by decide +kernel
theorem dX2_namedFor_15 : decode cX2_namedFor 15 = .ok (.ifCond .eq 26, 3) := by decide +kernel
theorem dX2_namedFor_18 : decode cX2_namedFor 18 = .ok (.aload_n 0, 1) := by decide +kernel
theorem dX2_namedFor_19 : decode cX2_namedFor 19 = .ok (.iload_n 2, 1) := by decide +kernel
theorem dX2_namedFor_20 : decode cX2_namedFor 20 = .ok (.iconst 0, 1) := by decide +kernel
theorem dX2_namedFor_21 : decode cX2_namedFor 21 = .ok (.invokevirtual 80, 3) := by decide +kernel
theorem dX2_namedFor_24 : decode cX2_namedFor 24 = .ok (.ifCond .eq 5, 3) := by decide +kernel
theorem dX2_namedFor_27 : decode cX2_namedFor 27 = .ok (.iload_n 2, 1) := by decide +kernel
theorem dX2_namedFor_28 : decode cX2_namedFor 28 = .ok (.ireturn, 1) := by decide +kernel
theorem dX2_namedFor_29 : decode cX2_namedFor 29 = .ok (.aload_n 0, 1) := by decide +kernel
theorem dX2_namedFor_30 : decode cX2_namedFor 30 = .ok (.iload_n 2, 1) := by decide +kernel
theorem dX2_namedFor_31 : decode cX2_namedFor 31 = .ok (.invokevirtual 87, 3) := by decide +kernel
theorem dX2_namedFor_34 : decode cX2_namedFor 34 = .ok (.istore_n 2, 1) := by decide +kernel
theorem dX2_namedFor_35 : decode cX2_namedFor 35 = .ok (.iinc 3 1, 3) := by decide +kernel
theorem dX2_namedFor_38 : decode cX2_namedFor 38 = .ok (.goto (-34), 3) := by decide +kernel
theorem dX2_namedFor_41 : decode cX2_namedFor 41 = .ok (.iconst (-1), 1) := by decide +kernel
theorem dX2_namedFor_42 : decode cX2_namedFor 42 = .ok (.ireturn, 1) := by decide +kernel
theorem dX2_namePlaceOf_0 : decode cX2_namePlaceOf 0 = .ok (.aload_n 0, 1) := by decide +kernel
theorem dX2_namePlaceOf_1 : decode cX2_namePlaceOf 1 = .ok (.iload_n 1, 1) := by decide +kernel
theorem dX2_namePlaceOf_2 : decode cX2_namePlaceOf 2 = .ok (.iconst 0, 1) := by decide +kernel
theorem dX2_namePlaceOf_3 : decode cX2_namePlaceOf 3 = .ok (.ldc2_w 66, 3) := by decide +kernel
theorem dX2_namePlaceOf_6 : decode cX2_namePlaceOf 6 = .ok (.invokevirtual 68, 3) := by decide +kernel
theorem dX2_namePlaceOf_9 : decode cX2_namePlaceOf 9 = .ok (.l2i, 1) := by decide +kernel
theorem dX2_namePlaceOf_10 : decode cX2_namePlaceOf 10 = .ok (.ireturn, 1) := by decide +kernel
theorem dX2_nameLengthOf_0 : decode cX2_nameLengthOf 0 = .ok (.aload_n 0, 1) := by decide +kernel
theorem dX2_nameLengthOf_1 : decode cX2_nameLengthOf 1 = .ok (.iload_n 1, 1) := by decide +kernel
theorem dX2_nameLengthOf_2 : decode cX2_nameLengthOf 2 = .ok (.invokevirtual 58, 3) := by decide +kernel
theorem dX2_nameLengthOf_5 : decode cX2_nameLengthOf 5 = .ok (.ifCond .eq 14, 3) := by decide +kernel
theorem dX2_nameLengthOf_8 : decode cX2_nameLengthOf 8 = .ok (.aload_n 0, 1) := by decide +kernel
theorem dX2_nameLengthOf_9 : decode cX2_nameLengthOf 9 = .ok (.getfield 28, 3) := by decide +kernel
theorem dX2_nameLengthOf_12 : decode cX2_nameLengthOf 12 = .ok (.iload_n 1, 1) := by decide +kernel
theorem dX2_nameLengthOf_13 : decode cX2_nameLengthOf 13 = .ok (.invokestatic 54, 3) := by decide +kernel
theorem dX2_nameLengthOf_16 : decode cX2_nameLengthOf 16 = .ok (.goto 4, 3) := by decide +kernel
theorem dX2_nameLengthOf_19 : decode cX2_nameLengthOf 19 = .ok (.iconst (-1), 1) := by decide +kernel
theorem dX2_nameLengthOf_20 : decode cX2_nameLengthOf 20 = .ok (.ireturn, 1) := by decide +kernel
theorem dX3_init_0 : decode cX3_init 0 = .ok (.aload_n 0, 1) := by decide +kernel
theorem dX3_init_1 : decode cX3_init 1 = .ok (.invokespecial 3, 3) := by decide +kernel
theorem dX3_init_4 : decode cX3_init 4 = .ok (.aload_n 0, 1) := by decide +kernel
theorem dX3_init_5 : decode cX3_init 5 = .ok (.new 9, 3) := by decide +kernel
theorem dX3_init_8 : decode cX3_init 8 = .ok (.dup, 1) := by decide +kernel
theorem dX3_init_9 : decode cX3_init 9 = .ok (.invokespecial 11, 3) := by decide +kernel
theorem dX3_init_12 : decode cX3_init 12 = .ok (.putfield 12, 3) := by decide +kernel
theorem dX3_init_15 : decode cX3_init 15 = .ok (.aload_n 0, 1) := by decide +kernel
theorem dX3_init_16 : decode cX3_init 16 = .ok (.new 18, 3) := by decide +kernel
theorem dX3_init_19 : decode cX3_init 19 = .ok (.dup, 1) := by decide +kernel
theorem dX3_init_20 : decode cX3_init 20 = .ok (.invokespecial 20, 3) := by decide +kernel
theorem dX3_init_23 : decode cX3_init 23 = .ok (.putfield 21, 3) := by decide +kernel
theorem dX3_init_26 : decode cX3_init 26 = .ok (.aload_n 0, 1) := by decide +kernel
theorem dX3_init_27 : decode cX3_init 27 = .ok (.new 25, 3) := by decide +kernel
theorem dX3_init_30 : decode cX3_init 30 = .ok (.dup, 1) := by decide +kernel
theorem dX3_init_31 : decode cX3_init 31 = .ok (.invokespecial 27, 3) := by decide +kernel
theorem dX3_init_34 : decode cX3_init 34 = .ok (.putfield 28, 3) := by decide +kernel
theorem dX3_init_37 : decode cX3_init 37 = .ok (.aload_n 0, 1) := by decide +kernel
theorem dX3_init_38 : decode cX3_init 38 = .ok (.new 32, 3) := by decide +kernel
theorem dX3_init_41 : decode cX3_init 41 = .ok (.dup, 1) := by decide +kernel
theorem dX3_init_42 : decode cX3_init 42 = .ok (.invokespecial 34, 3) := by decide +kernel
theorem dX3_init_45 : decode cX3_init 45 = .ok (.putfield 35, 3) := by decide +kernel
theorem dX3_init_48 : decode cX3_init 48 = .ok (.aload_n 0, 1) := by decide +kernel
theorem dX3_init_49 : decode cX3_init 49 = .ok (.new 39, 3) := by decide +kernel
theorem dX3_init_52 : decode cX3_init 52 = .ok (.dup, 1) := by decide +kernel
theorem dX3_init_53 : decode cX3_init 53 = .ok (.invokespecial 41, 3) := by decide +kernel
theorem dX3_init_56 : decode cX3_init 56 = .ok (.putfield 42, 3) := by decide +kernel
theorem dX3_init_59 : decode cX3_init 59 = .ok (.return_, 1) := by decide +kernel
theorem dX3_entryHolds_0 : decode cX3_entryHolds 0 = .ok (.aload_n 0, 1) := by decide +kernel
theorem dX3_entryHolds_1 : decode cX3_entryHolds 1 = .ok (.getfield 28, 3) := by decide +kernel
theorem dX3_entryHolds_4 : decode cX3_entryHolds 4 = .ok (.iload_n 1, 1) := by decide +kernel
theorem dX3_entryHolds_5 : decode cX3_entryHolds 5 = .ok (.invokevirtual 46, 3) := by decide +kernel
theorem dX3_entryHolds_8 : decode cX3_entryHolds 8 = .ok (.ifCond .ne 5, 3) := by decide +kernel
theorem dX3_entryHolds_11 : decode cX3_entryHolds 11 = .ok (.iconst 0, 1) := by decide +kernel
theorem dX3_entryHolds_12 : decode cX3_entryHolds 12 = .ok (.ireturn, 1) := by decide +kernel
theorem dX3_entryHolds_13 : decode cX3_entryHolds 13 = .ok (.aload_n 0, 1) := by decide +kernel
theorem dX3_entryHolds_14 : decode cX3_entryHolds 14 = .ok (.getfield 35, 3) := by decide +kernel
theorem dX3_entryHolds_17 : decode cX3_entryHolds 17 = .ok (.aload_n 0, 1) := by decide +kernel
theorem dX3_entryHolds_18 : decode cX3_entryHolds 18 = .ok (.getfield 28, 3) := by decide +kernel
theorem dX3_entryHolds_21 : decode cX3_entryHolds 21 = .ok (.iload_n 1, 1) := by decide +kernel
theorem dX3_entryHolds_22 : decode cX3_entryHolds 22 = .ok (.invokevirtual 50, 3) := by decide +kernel
theorem dX3_entryHolds_25 : decode cX3_entryHolds 25 = .ok (.aload_n 0, 1) := by decide +kernel
theorem dX3_entryHolds_26 : decode cX3_entryHolds 26 = .ok (.getfield 28, 3) := by decide +kernel
theorem dX3_entryHolds_29 : decode cX3_entryHolds 29 = .ok (.iload_n 1, 1) := by decide +kernel
theorem dX3_entryHolds_30 : decode cX3_entryHolds 30 = .ok (.invokevirtual 54, 3) := by decide +kernel
theorem dX3_entryHolds_33 : decode cX3_entryHolds 33 = .ok (.lload_n 2, 1) := by decide +kernel
theorem dX3_entryHolds_34 : decode cX3_entryHolds 34 = .ok (.invokevirtual 57, 3) := by decide +kernel
theorem dX3_entryHolds_37 : decode cX3_entryHolds 37 = .ok (.ireturn, 1) := by decide +kernel
theorem dX3_functionHolding_0 : decode cX3_functionHolding 0 = .ok (.iconst 0, 1) := by decide +kernel
theorem dX3_functionHolding_1 : decode cX3_functionHolding 1 = .ok (.istore_n 3, 1) := by decide +kernel
theorem dX3_functionHolding_2 : decode cX3_functionHolding 2 = .ok (.iload_n 3, 1) := by decide +kernel
theorem dX3_functionHolding_3 : decode cX3_functionHolding 3 = .ok (.sipush 400, 3) := by decide +kernel
theorem dX3_functionHolding_6 : decode cX3_functionHolding 6 = .ok (.if_icmp .ge 46, 3) := by decide +kernel
theorem dX3_functionHolding_9 : decode cX3_functionHolding 9 = .ok (.iload_n 3, 1) := by decide +kernel
theorem dX3_functionHolding_10 : decode cX3_functionHolding 10 = .ok (.aload_n 0, 1) := by decide +kernel
theorem dX3_functionHolding_11 : decode cX3_functionHolding 11 = .ok (.getfield 28, 3) := by decide +kernel
theorem dX3_functionHolding_14 : decode cX3_functionHolding 14 = .ok (.invokevirtual 61, 3) := by decide +kernel
theorem dX3_functionHolding_17 : decode cX3_functionHolding 17 = .ok (.if_icmp .ge 35, 3) := by decide +kernel
theorem dX3_functionHolding_20 : decode cX3_functionHolding 20 = .ok (.aload_n 0, 1) := by decide +kernel
theorem dX3_functionHolding_21 : decode cX3_functionHolding 21 = .ok (.getfield 28, 3) := by decide +kernel
theorem dX3_functionHolding_24 : decode cX3_functionHolding 24 = .ok (.iload_n 3, 1) := by decide +kernel
theorem dX3_functionHolding_25 : decode cX3_functionHolding 25 = .ok (.invokevirtual 65, 3) := by decide +kernel
theorem dX3_functionHolding_28 : decode cX3_functionHolding 28 = .ok (.ldc2_w 69, 3) := by decide +kernel
theorem dX3_functionHolding_31 : decode cX3_functionHolding 31 = .ok (.lcmp, 1) := by decide +kernel
theorem dX3_functionHolding_32 : decode cX3_functionHolding 32 = .ok (.ifCond .ne 14, 3) := by decide +kernel
theorem dX3_functionHolding_35 : decode cX3_functionHolding 35 = .ok (.aload_n 0, 1) := by decide +kernel
theorem dX3_functionHolding_36 : decode cX3_functionHolding 36 = .ok (.iload_n 3, 1) := by decide +kernel
theorem dX3_functionHolding_37 : decode cX3_functionHolding 37 = .ok (.lload_n 1, 1) := by decide +kernel
theorem dX3_functionHolding_38 : decode cX3_functionHolding 38 = .ok (.invokevirtual 71, 3) := by decide +kernel
theorem dX3_functionHolding_41 : decode cX3_functionHolding 41 = .ok (.ifCond .eq 5, 3) := by decide +kernel
theorem dX3_functionHolding_44 : decode cX3_functionHolding 44 = .ok (.iload_n 3, 1) := by decide +kernel
theorem dX3_functionHolding_45 : decode cX3_functionHolding 45 = .ok (.ireturn, 1) := by decide +kernel
theorem dX3_functionHolding_46 : decode cX3_functionHolding 46 = .ok (.iinc 3 1, 3) := by decide +kernel
theorem dX3_functionHolding_49 : decode cX3_functionHolding 49 = .ok (.goto (-47), 3) := by decide +kernel
theorem dX3_functionHolding_52 : decode cX3_functionHolding 52 = .ok (.iconst (-1), 1) := by decide +kernel
theorem dX3_functionHolding_53 : decode cX3_functionHolding 53 = .ok (.ireturn, 1) := by decide +kernel
theorem dX3_childHolding_0 : decode cX3_childHolding 0 = .ok (.iload_n 1, 1) := by decide +kernel
theorem dX3_childHolding_1 : decode cX3_childHolding 1 = .ok (.iconst 1, 1) := by decide +kernel
theorem dX3_childHolding_2 : decode cX3_childHolding 2 = .ok (.iadd, 1) := by decide +kernel
theorem dX3_childHolding_3 : decode cX3_childHolding 3 = .ok (.istore 4, 2) := by decide +kernel
theorem dX3_childHolding_5 : decode cX3_childHolding 5 = .ok (.iload 4, 2) := by decide +kernel
theorem dX3_childHolding_7 : decode cX3_childHolding 7 = .ok (.sipush 400, 3) := by decide +kernel
theorem dX3_childHolding_10 : decode cX3_childHolding 10 = .ok (.if_icmp .ge 88, 3) := by decide +kernel
theorem dX3_childHolding_13 : decode cX3_childHolding 13 = .ok (.iload 4, 2) := by decide +kernel
theorem dX3_childHolding_15 : decode cX3_childHolding 15 = .ok (.aload_n 0, 1) := by decide +kernel
theorem dX3_childHolding_16 : decode cX3_childHolding 16 = .ok (.getfield 28, 3) := by decide +kernel
theorem dX3_childHolding_19 : decode cX3_childHolding 19 = .ok (.invokevirtual 61, 3) := by decide +kernel
theorem dX3_childHolding_22 : decode cX3_childHolding 22 = .ok (.if_icmp .ge 76, 3) := by decide +kernel
theorem dX3_childHolding_25 : decode cX3_childHolding 25 = .ok (.aload_n 0, 1) := by decide +kernel
theorem dX3_childHolding_26 : decode cX3_childHolding 26 = .ok (.getfield 28, 3) := by decide +kernel
theorem dX3_childHolding_29 : decode cX3_childHolding 29 = .ok (.iload 4, 2) := by decide +kernel
theorem dX3_childHolding_31 : decode cX3_childHolding 31 = .ok (.invokevirtual 65, 3) := by decide +kernel
theorem dX3_childHolding_34 : decode cX3_childHolding 34 = .ok (.lstore 5, 2) := by decide +kernel
theorem dX3_childHolding_36 : decode cX3_childHolding 36 = .ok (.lload 5, 2) := by decide +kernel
theorem dX3_childHolding_38 : decode cX3_childHolding 38 = .ok (.ldc2_w 75, 3) := by decide +kernel
theorem dX3_childHolding_41 : decode cX3_childHolding 41 = .ok (.lcmp, 1) := by decide +kernel
theorem dX3_childHolding_42 : decode cX3_childHolding 42 = .ok (.ifCond .eq 12, 3) := by decide +kernel
theorem dX3_childHolding_45 : decode cX3_childHolding 45 = .ok (.lload 5, 2) := by decide +kernel
theorem dX3_childHolding_47 : decode cX3_childHolding 47 = .ok (.ldc2_w 77, 3) := by decide +kernel
theorem dX3_childHolding_50 : decode cX3_childHolding 50 = .ok (.lcmp, 1) := by decide +kernel
theorem dX3_childHolding_51 : decode cX3_childHolding 51 = .ok (.ifCond .ne 7, 3) := by decide +kernel
theorem dX3_childHolding_54 : decode cX3_childHolding 54 = .ok (.iconst 1, 1) := by decide +kernel
theorem dX3_childHolding_55 : decode cX3_childHolding 55 = .ok (.goto 4, 3) := by decide +kernel
theorem dX3_childHolding_58 : decode cX3_childHolding 58 = .ok (.iconst 0, 1) := by decide +kernel
theorem dX3_childHolding_59 : decode cX3_childHolding 59 = .ok (.istore 7, 2) := by decide +kernel
theorem dX3_childHolding_61 : decode cX3_childHolding 61 = .ok (.iload 7, 2) := by decide +kernel
theorem dX3_childHolding_63 : decode cX3_childHolding 63 = .ok (.ifCond .eq 29, 3) := by decide +kernel
theorem dX3_childHolding_66 : decode cX3_childHolding 66 = .ok (.aload_n 0, 1) := by decide +kernel
theorem dX3_childHolding_67 : decode cX3_childHolding 67 = .ok (.getfield 28, 3) := by decide +kernel
theorem dX3_childHolding_70 : decode cX3_childHolding 70 = .ok (.iload 4, 2) := by decide +kernel
theorem dX3_childHolding_72 : decode cX3_childHolding 72 = .ok (.invokevirtual 79, 3) := by decide +kernel
theorem dX3_childHolding_75 : decode cX3_childHolding 75 = .ok (.iload_n 1, 1) := by decide +kernel
theorem dX3_childHolding_76 : decode cX3_childHolding 76 = .ok (.if_icmp .ne 16, 3) := by decide +kernel
theorem dX3_childHolding_79 : decode cX3_childHolding 79 = .ok (.aload_n 0, 1) := by decide +kernel
theorem dX3_childHolding_80 : decode cX3_childHolding 80 = .ok (.iload 4, 2) := by decide +kernel
theorem dX3_childHolding_82 : decode cX3_childHolding 82 = .ok (.lload_n 2, 1) := by decide +kernel
theorem dX3_childHolding_83 : decode cX3_childHolding 83 = .ok (.invokevirtual 71, 3) := by decide +kernel
theorem dX3_childHolding_86 : decode cX3_childHolding 86 = .ok (.ifCond .eq 6, 3) := by decide +kernel
theorem dX3_childHolding_89 : decode cX3_childHolding 89 = .ok (.iload 4, 2) := by decide +kernel
theorem dX3_childHolding_91 : decode cX3_childHolding 91 = .ok (.ireturn, 1) := by decide +kernel
theorem dX3_childHolding_92 : decode cX3_childHolding 92 = .ok (.iinc 4 1, 3) := by decide +kernel
theorem dX3_childHolding_95 : decode cX3_childHolding 95 = .ok (.goto (-90), 3) := by decide +kernel
theorem dX3_childHolding_98 : decode cX3_childHolding 98 = .ok (.iconst (-1), 1) := by decide +kernel
theorem dX3_childHolding_99 : decode cX3_childHolding 99 = .ok (.ireturn, 1) := by decide +kernel
theorem dX4_init_0 : decode cX4_init 0 = .ok (.aload_n 0, 1) := by decide +kernel
theorem dX4_init_1 : decode cX4_init 1 = .ok (.invokespecial 3, 3) := by decide +kernel
theorem dX4_init_4 : decode cX4_init 4 = .ok (.aload_n 0, 1) := by decide +kernel
theorem dX4_init_5 : decode cX4_init 5 = .ok (.sipush 600, 3) := by decide +kernel
theorem dX4_init_8 : decode cX4_init 8 = .ok (.newarray .int, 2) := by decide +kernel
theorem dX4_init_10 : decode cX4_init 10 = .ok (.putfield 9, 3) := by decide +kernel
theorem dX4_init_13 : decode cX4_init 13 = .ok (.aload_n 0, 1) := by decide +kernel
theorem dX4_init_14 : decode cX4_init 14 = .ok (.sipush 600, 3) := by decide +kernel
theorem dX4_init_17 : decode cX4_init 17 = .ok (.newarray .int, 2) := by decide +kernel
theorem dX4_init_19 : decode cX4_init 19 = .ok (.putfield 15, 3) := by decide +kernel
theorem dX4_init_22 : decode cX4_init 22 = .ok (.aload_n 0, 1) := by decide +kernel
theorem dX4_init_23 : decode cX4_init 23 = .ok (.sipush 600, 3) := by decide +kernel
theorem dX4_init_26 : decode cX4_init 26 = .ok (.newarray .int, 2) := by decide +kernel
theorem dX4_init_28 : decode cX4_init 28 = .ok (.putfield 18, 3) := by decide +kernel
theorem dX4_init_31 : decode cX4_init 31 = .ok (.aload_n 0, 1) := by decide +kernel
theorem dX4_init_32 : decode cX4_init 32 = .ok (.sipush 600, 3) := by decide +kernel
theorem dX4_init_35 : decode cX4_init 35 = .ok (.newarray .int, 2) := by decide +kernel
theorem dX4_init_37 : decode cX4_init 37 = .ok (.putfield 21, 3) := by decide +kernel
theorem dX4_init_40 : decode cX4_init 40 = .ok (.aload_n 0, 1) := by decide +kernel
theorem dX4_init_41 : decode cX4_init 41 = .ok (.sipush 600, 3) := by decide +kernel
theorem dX4_init_44 : decode cX4_init 44 = .ok (.newarray .long, 2) := by decide +kernel
theorem dX4_init_46 : decode cX4_init 46 = .ok (.putfield 24, 3) := by decide +kernel
theorem dX4_init_49 : decode cX4_init 49 = .ok (.aload_n 0, 1) := by decide +kernel
theorem dX4_init_50 : decode cX4_init 50 = .ok (.bipush 20, 2) := by decide +kernel
theorem dX4_init_52 : decode cX4_init 52 = .ok (.newarray .int, 2) := by decide +kernel
theorem dX4_init_54 : decode cX4_init 54 = .ok (.putfield 28, 3) := by decide +kernel
theorem dX4_init_57 : decode cX4_init 57 = .ok (.return_, 1) := by decide +kernel
theorem dX4_readAll_0 : decode cX4_readAll 0 = .ok (.aload_n 0, 1) := by decide +kernel
theorem dX4_readAll_1 : decode cX4_readAll 1 = .ok (.iconst 0, 1) := by decide +kernel
theorem dX4_readAll_2 : decode cX4_readAll 2 = .ok (.putfield 31, 3) := by decide +kernel
theorem dX4_readAll_5 : decode cX4_readAll 5 = .ok (.iconst 0, 1) := by decide +kernel
theorem dX4_readAll_6 : decode cX4_readAll 6 = .ok (.istore 4, 2) := by decide +kernel
theorem dX4_readAll_8 : decode cX4_readAll 8 = .ok (.iload 4, 2) := by decide +kernel
theorem dX4_readAll_10 : decode cX4_readAll 10 = .ok (.bipush 20, 2) := by decide +kernel
theorem dX4_readAll_12 : decode cX4_readAll 12 = .ok (.if_icmp .ge 81, 3) := by decide +kernel
theorem dX4_readAll_15 : decode cX4_readAll 15 = .ok (.iload 4, 2) := by decide +kernel
theorem dX4_readAll_17 : decode cX4_readAll 17 = .ok (.aload_n 3, 1) := by decide +kernel
theorem dX4_readAll_18 : decode cX4_readAll 18 = .ok (.getfield 35, 3) := by decide +kernel
theorem dX4_readAll_21 : decode cX4_readAll 21 = .ok (.invokevirtual 40, 3) := by decide +kernel
theorem dX4_readAll_24 : decode cX4_readAll 24 = .ok (.if_icmp .ge 69, 3) := by decide +kernel
theorem dX4_readAll_27 : decode cX4_readAll 27 = .ok (.aload_n 1, 1) := by decide +kernel
theorem dX4_readAll_28 : decode cX4_readAll 28 = .ok (.invokevirtual 45, 3) := by decide +kernel
theorem dX4_readAll_31 : decode cX4_readAll 31 = .ok (.ifCond .eq 62, 3) := by decide +kernel
theorem dX4_readAll_34 : decode cX4_readAll 34 = .ok (.aload_n 3, 1) := by decide +kernel
theorem dX4_readAll_35 : decode cX4_readAll 35 = .ok (.getfield 35, 3) := by decide +kernel
theorem dX4_readAll_38 : decode cX4_readAll 38 = .ok (.iload 4, 2) := by decide +kernel
theorem dX4_readAll_40 : decode cX4_readAll 40 = .ok (.invokevirtual 51, 3) := by decide +kernel
theorem dX4_readAll_43 : decode cX4_readAll 43 = .ok (.istore 5, 2) := by decide +kernel
theorem dX4_readAll_45 : decode cX4_readAll 45 = .ok (.aload_n 3, 1) := by decide +kernel
theorem dX4_readAll_46 : decode cX4_readAll 46 = .ok (.getfield 55, 3) := by decide +kernel
theorem dX4_readAll_49 : decode cX4_readAll 49 = .ok (.iload 5, 2) := by decide +kernel
theorem dX4_readAll_51 : decode cX4_readAll 51 = .ok (.bipush 9, 2) := by decide +kernel
theorem dX4_readAll_53 : decode cX4_readAll 53 = .ok (.invokevirtual 59, 3) := by decide +kernel
theorem dX4_readAll_56 : decode cX4_readAll 56 = .ok (.ifCond .eq 31, 3) := by decide +kernel
theorem dX4_readAll_59 : decode cX4_readAll 59 = .ok (.aload_n 0, 1) := by decide +kernel
theorem dX4_readAll_60 : decode cX4_readAll 60 = .ok (.iload 4, 2) := by decide +kernel
theorem dX4_readAll_62 : decode cX4_readAll 62 = .ok (.putfield 65, 3) := by decide +kernel
theorem dX4_readAll_65 : decode cX4_readAll 65 = .ok (.aload_n 0, 1) := by decide +kernel
theorem dX4_readAll_66 : decode cX4_readAll 66 = .ok (.aload_n 1, 1) := by decide +kernel
theorem dX4_readAll_67 : decode cX4_readAll 67 = .ok (.aload_n 2, 1) := by decide +kernel
theorem dX4_readAll_68 : decode cX4_readAll 68 = .ok (.aload_n 3, 1) := by decide +kernel
theorem dX4_readAll_69 : decode cX4_readAll 69 = .ok (.getfield 35, 3) := by decide +kernel
theorem dX4_readAll_72 : decode cX4_readAll 72 = .ok (.aload_n 3, 1) := by decide +kernel
theorem dX4_readAll_73 : decode cX4_readAll 73 = .ok (.getfield 55, 3) := by decide +kernel
theorem dX4_readAll_76 : decode cX4_readAll 76 = .ok (.iload 5, 2) := by decide +kernel
theorem dX4_readAll_78 : decode cX4_readAll 78 = .ok (.bipush 9, 2) := by decide +kernel
theorem dX4_readAll_80 : decode cX4_readAll 80 = .ok (.lconst 0, 1) := by decide +kernel
theorem dX4_readAll_81 : decode cX4_readAll 81 = .ok (.invokevirtual 68, 3) := by decide +kernel
theorem dX4_readAll_84 : decode cX4_readAll 84 = .ok (.invokevirtual 72, 3) := by decide +kernel
theorem dX4_readAll_87 : decode cX4_readAll 87 = .ok (.iinc 4 1, 3) := by decide +kernel
theorem dX4_readAll_90 : decode cX4_readAll 90 = .ok (.goto (-82), 3) := by decide +kernel
theorem dX4_readAll_93 : decode cX4_readAll 93 = .ok (.return_, 1) := by decide +kernel
theorem dX4_readTable_0 : decode cX4_readTable 0 = .ok (.aload_n 2, 1) := by decide +kernel
theorem dX4_readTable_1 : decode cX4_readTable 1 = .ok (.iconst 5, 1) := by decide +kernel
theorem dX4_readTable_2 : decode cX4_readTable 2 = .ok (.lload 4, 2) := by decide +kernel
theorem dX4_readTable_4 : decode cX4_readTable 4 = .ok (.invokevirtual 76, 3) := by decide +kernel
theorem dX4_readTable_7 : decode cX4_readTable 7 = .ok (.ifCond .ne 17, 3) := by decide +kernel
theorem dX4_readTable_10 : decode cX4_readTable 10 = .ok (.aload_n 1, 1) := by decide +kernel
theorem dX4_readTable_11 : decode cX4_readTable 11 = .ok (.iconst 3, 1) := by decide +kernel
theorem dX4_readTable_12 : decode cX4_readTable 12 = .ok (.aload_n 3, 1) := by decide +kernel
theorem dX4_readTable_13 : decode cX4_readTable 13 = .ok (.aload_n 0, 1) := by decide +kernel
theorem dX4_readTable_14 : decode cX4_readTable 14 = .ok (.getfield 65, 3) := by decide +kernel
theorem dX4_readTable_17 : decode cX4_readTable 17 = .ok (.invokevirtual 82, 3) := by decide +kernel
theorem dX4_readTable_20 : decode cX4_readTable 20 = .ok (.invokevirtual 85, 3) := by decide +kernel
theorem dX4_readTable_23 : decode cX4_readTable 23 = .ok (.return_, 1) := by decide +kernel
theorem dX4_readTable_24 : decode cX4_readTable 24 = .ok (.aload_n 1, 1) := by decide +kernel
theorem dX4_readTable_25 : decode cX4_readTable 25 = .ok (.aload_n 2, 1) := by decide +kernel
theorem dX4_readTable_26 : decode cX4_readTable 26 = .ok (.iconst 5, 1) := by decide +kernel
theorem dX4_readTable_27 : decode cX4_readTable 27 = .ok (.invokevirtual 89, 3) := by decide +kernel
theorem dX4_readTable_30 : decode cX4_readTable 30 = .ok (.lload 4, 2) := by decide +kernel
theorem dX4_readTable_32 : decode cX4_readTable 32 = .ok (.l2i, 1) := by decide +kernel
theorem dX4_readTable_33 : decode cX4_readTable 33 = .ok (.iadd, 1) := by decide +kernel
theorem dX4_readTable_34 : decode cX4_readTable 34 = .ok (.aload_n 2, 1) := by decide +kernel
theorem dX4_readTable_35 : decode cX4_readTable 35 = .ok (.iconst 5, 1) := by decide +kernel
theorem dX4_readTable_36 : decode cX4_readTable 36 = .ok (.invokevirtual 90, 3) := by decide +kernel
theorem dX4_readTable_39 : decode cX4_readTable 39 = .ok (.invokevirtual 93, 3) := by decide +kernel
theorem dX4_readTable_42 : decode cX4_readTable 42 = .ok (.aload_n 1, 1) := by decide +kernel
theorem dX4_readTable_43 : decode cX4_readTable 43 = .ok (.invokevirtual 96, 3) := by decide +kernel
theorem dX4_readTable_46 : decode cX4_readTable 46 = .ok (.aload_n 0, 1) := by decide +kernel
theorem dX4_readTable_47 : decode cX4_readTable 47 = .ok (.aload_n 1, 1) := by decide +kernel
theorem dX4_readTable_48 : decode cX4_readTable 48 = .ok (.invokevirtual 99, 3) := by decide +kernel
theorem dX4_readTable_51 : decode cX4_readTable 51 = .ok (.aload_n 0, 1) := by decide +kernel
theorem dX4_readTable_52 : decode cX4_readTable 52 = .ok (.aload_n 1, 1) := by decide +kernel
theorem dX4_readTable_53 : decode cX4_readTable 53 = .ok (.invokevirtual 103, 3) := by decide +kernel
theorem dX4_readTable_56 : decode cX4_readTable 56 = .ok (.aload_n 0, 1) := by decide +kernel
theorem dX4_readTable_57 : decode cX4_readTable 57 = .ok (.aload_n 1, 1) := by decide +kernel
theorem dX4_readTable_58 : decode cX4_readTable 58 = .ok (.aload_n 3, 1) := by decide +kernel
theorem dX4_readTable_59 : decode cX4_readTable 59 = .ok (.aload_n 0, 1) := by decide +kernel
theorem dX4_readTable_60 : decode cX4_readTable 60 = .ok (.aload_n 1, 1) := by decide +kernel
theorem dX4_readTable_61 : decode cX4_readTable 61 = .ok (.invokevirtual 106, 3) := by decide +kernel
theorem dX4_readTable_64 : decode cX4_readTable 64 = .ok (.invokevirtual 110, 3) := by decide +kernel
theorem dX4_readTable_67 : decode cX4_readTable 67 = .ok (.aload_n 1, 1) := by decide +kernel
theorem dX4_readTable_68 : decode cX4_readTable 68 = .ok (.invokevirtual 114, 3) := by decide +kernel
theorem dX4_readTable_71 : decode cX4_readTable 71 = .ok (.aload_n 0, 1) := by decide +kernel
theorem dX4_readTable_72 : decode cX4_readTable 72 = .ok (.getfield 117, 3) := by decide +kernel
theorem dX4_readTable_75 : decode cX4_readTable 75 = .ok (.if_icmp .eq 12, 3) := by decide +kernel
theorem dX4_readTable_78 : decode cX4_readTable 78 = .ok (.aload_n 1, 1) := by decide +kernel
theorem dX4_readTable_79 : decode cX4_readTable 79 = .ok (.iconst 2, 1) := by decide +kernel
theorem dX4_readTable_80 : decode cX4_readTable 80 = .ok (.aload_n 1, 1) := by decide +kernel
theorem dX4_readTable_81 : decode cX4_readTable 81 = .ok (.invokevirtual 114, 3) := by decide +kernel
theorem dX4_readTable_84 : decode cX4_readTable 84 = .ok (.invokevirtual 85, 3) := by decide +kernel
theorem dX4_readTable_87 : decode cX4_readTable 87 = .ok (.aload_n 0, 1) := by decide +kernel
theorem dX4_readTable_88 : decode cX4_readTable 88 = .ok (.aload_n 1, 1) := by decide +kernel
theorem dX4_readTable_89 : decode cX4_readTable 89 = .ok (.invokevirtual 120, 3) := by decide +kernel
theorem dX4_readTable_92 : decode cX4_readTable 92 = .ok (.return_, 1) := by decide +kernel
theorem dX4_readHead_0 : decode cX4_readHead 0 = .ok (.aload_n 1, 1) := by decide +kernel
theorem dX4_readHead_1 : decode cX4_readHead 1 = .ok (.iconst 2, 1) := by decide +kernel
theorem dX4_readHead_2 : decode cX4_readHead 2 = .ok (.iconst 5, 1) := by decide +kernel
theorem dX4_readHead_3 : decode cX4_readHead 3 = .ok (.iconst 5, 1) := by decide +kernel
theorem dX4_readHead_4 : decode cX4_readHead 4 = .ok (.invokevirtual 123, 3) := by decide +kernel
theorem dX4_readHead_7 : decode cX4_readHead 7 = .ok (.pop, 1) := by decide +kernel
theorem dX4_readHead_8 : decode cX4_readHead 8 = .ok (.aload_n 1, 1) := by decide +kernel
theorem dX4_readHead_9 : decode cX4_readHead 9 = .ok (.iconst 1, 1) := by decide +kernel
theorem dX4_readHead_10 : decode cX4_readHead 10 = .ok (.bipush 8, 2) := by decide +kernel
theorem dX4_readHead_12 : decode cX4_readHead 12 = .ok (.bipush 8, 2) := by decide +kernel
theorem dX4_readHead_14 : decode cX4_readHead 14 = .ok (.invokevirtual 123, 3) := by decide +kernel
theorem dX4_readHead_17 : decode cX4_readHead 17 = .ok (.pop, 1) := by decide +kernel
theorem dX4_readHead_18 : decode cX4_readHead 18 = .ok (.aload_n 1, 1) := by decide +kernel
theorem dX4_readHead_19 : decode cX4_readHead 19 = .ok (.iconst 1, 1) := by decide +kernel
theorem dX4_readHead_20 : decode cX4_readHead 20 = .ok (.iconst 0, 1) := by decide +kernel
theorem dX4_readHead_21 : decode cX4_readHead 21 = .ok (.iconst 0, 1) := by decide +kernel
theorem dX4_readHead_22 : decode cX4_readHead 22 = .ok (.invokevirtual 123, 3) := by decide +kernel
theorem dX4_readHead_25 : decode cX4_readHead 25 = .ok (.pop, 1) := by decide +kernel
theorem dX4_readHead_26 : decode cX4_readHead 26 = .ok (.aload_n 1, 1) := by decide +kernel
theorem dX4_readHead_27 : decode cX4_readHead 27 = .ok (.invokevirtual 114, 3) := by decide +kernel
theorem dX4_readHead_30 : decode cX4_readHead 30 = .ok (.istore_n 2, 1) := by decide +kernel
theorem dX4_readHead_31 : decode cX4_readHead 31 = .ok (.aload_n 1, 1) := by decide +kernel
theorem dX4_readHead_32 : decode cX4_readHead 32 = .ok (.iconst 4, 1) := by decide +kernel
theorem dX4_readHead_33 : decode cX4_readHead 33 = .ok (.invokevirtual 127, 3) := by decide +kernel
theorem dX4_readHead_36 : decode cX4_readHead 36 = .ok (.lstore_n 3, 1) := by decide +kernel
theorem dX4_readHead_37 : decode cX4_readHead 37 = .ok (.aload_n 0, 1) := by decide +kernel
theorem dX4_readHead_38 : decode cX4_readHead 38 = .ok (.aload_n 1, 1) := by decide +kernel
theorem dX4_readHead_39 : decode cX4_readHead 39 = .ok (.invokevirtual 114, 3) := by decide +kernel
theorem dX4_readHead_42 : decode cX4_readHead 42 = .ok (.putfield 117, 3) := by decide +kernel
theorem dX4_readHead_45 : decode cX4_readHead 45 = .ok (.aload_n 1, 1) := by decide +kernel
theorem dX4_readHead_46 : decode cX4_readHead 46 = .ok (.lload_n 3, 1) := by decide +kernel
theorem dX4_readHead_47 : decode cX4_readHead 47 = .ok (.invokevirtual 131, 3) := by decide +kernel
theorem dX4_readHead_50 : decode cX4_readHead 50 = .ok (.ifCond .eq 17, 3) := by decide +kernel
theorem dX4_readHead_53 : decode cX4_readHead 53 = .ok (.aload_n 0, 1) := by decide +kernel
theorem dX4_readHead_54 : decode cX4_readHead 54 = .ok (.dup, 1) := by decide +kernel
theorem dX4_readHead_55 : decode cX4_readHead 55 = .ok (.getfield 117, 3) := by decide +kernel
theorem dX4_readHead_58 : decode cX4_readHead 58 = .ok (.lload_n 3, 1) := by decide +kernel
theorem dX4_readHead_59 : decode cX4_readHead 59 = .ok (.l2i, 1) := by decide +kernel
theorem dX4_readHead_60 : decode cX4_readHead 60 = .ok (.iadd, 1) := by decide +kernel
theorem dX4_readHead_61 : decode cX4_readHead 61 = .ok (.putfield 117, 3) := by decide +kernel
theorem dX4_readHead_64 : decode cX4_readHead 64 = .ok (.goto 9, 3) := by decide +kernel
theorem dX4_readHead_67 : decode cX4_readHead 67 = .ok (.aload_n 1, 1) := by decide +kernel
theorem dX4_readHead_68 : decode cX4_readHead 68 = .ok (.iconst 1, 1) := by decide +kernel
theorem dX4_readHead_69 : decode cX4_readHead 69 = .ok (.iload_n 2, 1) := by decide +kernel
theorem dX4_readHead_70 : decode cX4_readHead 70 = .ok (.invokevirtual 85, 3) := by decide +kernel
theorem dX4_readHead_73 : decode cX4_readHead 73 = .ok (.aload_n 0, 1) := by decide +kernel
theorem dX4_readHead_74 : decode cX4_readHead 74 = .ok (.aload_n 1, 1) := by decide +kernel
theorem dX4_readHead_75 : decode cX4_readHead 75 = .ok (.iconst 1, 1) := by decide +kernel
theorem dX4_readHead_76 : decode cX4_readHead 76 = .ok (.invokevirtual 127, 3) := by decide +kernel
theorem dX4_readHead_79 : decode cX4_readHead 79 = .ok (.l2i, 1) := by decide +kernel
theorem dX4_readHead_80 : decode cX4_readHead 80 = .ok (.putfield 135, 3) := by decide +kernel
theorem dX4_readHead_83 : decode cX4_readHead 83 = .ok (.aload_n 1, 1) := by decide +kernel
theorem dX4_readHead_84 : decode cX4_readHead 84 = .ok (.iconst 1, 1) := by decide +kernel
theorem dX4_readHead_85 : decode cX4_readHead 85 = .ok (.iconst 1, 1) := by decide +kernel
theorem dX4_readHead_86 : decode cX4_readHead 86 = .ok (.iconst 1, 1) := by decide +kernel
theorem dX4_readHead_87 : decode cX4_readHead 87 = .ok (.invokevirtual 123, 3) := by decide +kernel
theorem dX4_readHead_90 : decode cX4_readHead 90 = .ok (.pop, 1) := by decide +kernel
theorem dX4_readHead_91 : decode cX4_readHead 91 = .ok (.aload_n 1, 1) := by decide +kernel
theorem dX4_readHead_92 : decode cX4_readHead 92 = .ok (.iconst 1, 1) := by decide +kernel
theorem dX4_readHead_93 : decode cX4_readHead 93 = .ok (.iconst 0, 1) := by decide +kernel
theorem dX4_readHead_94 : decode cX4_readHead 94 = .ok (.iconst 1, 1) := by decide +kernel
theorem dX4_readHead_95 : decode cX4_readHead 95 = .ok (.invokevirtual 123, 3) := by decide +kernel
theorem dX4_readHead_98 : decode cX4_readHead 98 = .ok (.pop, 1) := by decide +kernel
theorem dX4_readHead_99 : decode cX4_readHead 99 = .ok (.aload_n 0, 1) := by decide +kernel
theorem dX4_readHead_100 : decode cX4_readHead 100 = .ok (.aload_n 1, 1) := by decide +kernel
theorem dX4_readHead_101 : decode cX4_readHead 101 = .ok (.iconst 1, 1) := by decide +kernel
theorem dX4_readHead_102 : decode cX4_readHead 102 = .ok (.invokevirtual 127, 3) := by decide +kernel
theorem dX4_readHead_105 : decode cX4_readHead 105 = .ok (.l2i, 1) := by decide +kernel
theorem dX4_readHead_106 : decode cX4_readHead 106 = .ok (.i2b, 1) := by decide +kernel
theorem dX4_readHead_107 : decode cX4_readHead 107 = .ok (.putfield 138, 3) := by decide +kernel
theorem dX4_readHead_110 : decode cX4_readHead 110 = .ok (.aload_n 0, 1) := by decide +kernel
theorem dX4_readHead_111 : decode cX4_readHead 111 = .ok (.aload_n 1, 1) := by decide +kernel
theorem dX4_readHead_112 : decode cX4_readHead 112 = .ok (.iconst 1, 1) := by decide +kernel
theorem dX4_readHead_113 : decode cX4_readHead 113 = .ok (.iconst 1, 1) := by decide +kernel
theorem dX4_readHead_114 : decode cX4_readHead 114 = .ok (.sipush 255, 3) := by decide +kernel
theorem dX4_readHead_117 : decode cX4_readHead 117 = .ok (.invokevirtual 123, 3) := by decide +kernel
theorem dX4_readHead_120 : decode cX4_readHead 120 = .ok (.putfield 141, 3) := by decide +kernel
theorem dX4_readHead_123 : decode cX4_readHead 123 = .ok (.aload_n 0, 1) := by decide +kernel
theorem dX4_readHead_124 : decode cX4_readHead 124 = .ok (.aload_n 1, 1) := by decide +kernel
theorem dX4_readHead_125 : decode cX4_readHead 125 = .ok (.iconst 1, 1) := by decide +kernel
theorem dX4_readHead_126 : decode cX4_readHead 126 = .ok (.bipush 10, 2) := by decide +kernel
theorem dX4_readHead_128 : decode cX4_readHead 128 = .ok (.bipush 20, 2) := by decide +kernel
theorem dX4_readHead_130 : decode cX4_readHead 130 = .ok (.invokevirtual 123, 3) := by decide +kernel
theorem dX4_readHead_133 : decode cX4_readHead 133 = .ok (.putfield 144, 3) := by decide +kernel
theorem dX4_readHead_136 : decode cX4_readHead 136 = .ok (.return_, 1) := by decide +kernel
theorem dX4_readOperands_0 : decode cX4_readOperands 0 = .ok (.iconst 1, 1) := by decide +kernel
theorem dX4_readOperands_1 : decode cX4_readOperands 1 = .ok (.istore_n 2, 1) := by decide +kernel
theorem dX4_readOperands_2 : decode cX4_readOperands 2 = .ok (.iload_n 2, 1) := by decide +kernel
theorem dX4_readOperands_3 : decode cX4_readOperands 3 = .ok (.aload_n 0, 1) := by decide +kernel
theorem dX4_readOperands_4 : decode cX4_readOperands 4 = .ok (.getfield 144, 3) := by decide +kernel
theorem dX4_readOperands_7 : decode cX4_readOperands 7 = .ok (.if_icmp .ge 66, 3) := by decide +kernel
theorem dX4_readOperands_10 : decode cX4_readOperands 10 = .ok (.aload_n 1, 1) := by decide +kernel
theorem dX4_readOperands_11 : decode cX4_readOperands 11 = .ok (.invokevirtual 45, 3) := by decide +kernel
theorem dX4_readOperands_14 : decode cX4_readOperands 14 = .ok (.ifCond .eq 59, 3) := by decide +kernel
theorem dX4_readOperands_17 : decode cX4_readOperands 17 = .ok (.iload_n 2, 1) := by decide +kernel
theorem dX4_readOperands_18 : decode cX4_readOperands 18 = .ok (.getstatic 147, 3) := by decide +kernel
theorem dX4_readOperands_21 : decode cX4_readOperands 21 = .ok (.arraylength, 1) := by decide +kernel
theorem dX4_readOperands_22 : decode cX4_readOperands 22 = .ok (.if_icmp .gt 31, 3) := by decide +kernel
theorem dX4_readOperands_25 : decode cX4_readOperands 25 = .ok (.getstatic 147, 3) := by decide +kernel
theorem dX4_readOperands_28 : decode cX4_readOperands 28 = .ok (.iload_n 2, 1) := by decide +kernel
theorem dX4_readOperands_29 : decode cX4_readOperands 29 = .ok (.iconst 1, 1) := by decide +kernel
theorem dX4_readOperands_30 : decode cX4_readOperands 30 = .ok (.isub, 1) := by decide +kernel
theorem dX4_readOperands_31 : decode cX4_readOperands 31 = .ok (.invokestatic 150, 3) := by decide +kernel
theorem dX4_readOperands_34 : decode cX4_readOperands 34 = .ok (.istore_n 3, 1) := by decide +kernel
theorem dX4_readOperands_35 : decode cX4_readOperands 35 = .ok (.aload_n 0, 1) := by decide +kernel
theorem dX4_readOperands_36 : decode cX4_readOperands 36 = .ok (.getfield 28, 3) := by decide +kernel
theorem dX4_readOperands_39 : decode cX4_readOperands 39 = .ok (.iload_n 2, 1) := by decide +kernel
theorem dX4_readOperands_40 : decode cX4_readOperands 40 = .ok (.aload_n 1, 1) := by decide +kernel
theorem dX4_readOperands_41 : decode cX4_readOperands 41 = .ok (.iconst 1, 1) := by decide +kernel
theorem dX4_readOperands_42 : decode cX4_readOperands 42 = .ok (.iload_n 3, 1) := by decide +kernel
theorem dX4_readOperands_43 : decode cX4_readOperands 43 = .ok (.iload_n 3, 1) := by decide +kernel
theorem dX4_readOperands_44 : decode cX4_readOperands 44 = .ok (.invokevirtual 123, 3) := by decide +kernel
theorem dX4_readOperands_47 : decode cX4_readOperands 47 = .ok (.invokestatic 154, 3) := by decide +kernel
theorem dX4_readOperands_50 : decode cX4_readOperands 50 = .ok (.goto 17, 3) := by decide +kernel
theorem dX4_readOperands_53 : decode cX4_readOperands 53 = .ok (.aload_n 0, 1) := by decide +kernel
theorem dX4_readOperands_54 : decode cX4_readOperands 54 = .ok (.getfield 28, 3) := by decide +kernel
theorem dX4_readOperands_57 : decode cX4_readOperands 57 = .ok (.iload_n 2, 1) := by decide +kernel
theorem dX4_readOperands_58 : decode cX4_readOperands 58 = .ok (.aload_n 1, 1) := by decide +kernel
theorem dX4_readOperands_59 : decode cX4_readOperands 59 = .ok (.iconst 1, 1) := by decide +kernel
theorem dX4_readOperands_60 : decode cX4_readOperands 60 = .ok (.invokevirtual 127, 3) := by decide +kernel
theorem dX4_readOperands_63 : decode cX4_readOperands 63 = .ok (.l2i, 1) := by decide +kernel
theorem dX4_readOperands_64 : decode cX4_readOperands 64 = .ok (.invokestatic 154, 3) := by decide +kernel
theorem dX4_readOperands_67 : decode cX4_readOperands 67 = .ok (.iinc 2 1, 3) := by decide +kernel
theorem dX4_readOperands_70 : decode cX4_readOperands 70 = .ok (.goto (-68), 3) := by decide +kernel
theorem dX4_readOperands_73 : decode cX4_readOperands 73 = .ok (.return_, 1) := by decide +kernel
theorem dX4_readDirectories_0 : decode cX4_readDirectories 0 = .ok (.aload_n 1, 1) := by decide +kernel
theorem dX4_readDirectories_1 : decode cX4_readDirectories 1 = .ok (.iconst 1, 1) := by decide +kernel
theorem dX4_readDirectories_2 : decode cX4_readDirectories 2 = .ok (.iconst 1, 1) := by decide +kernel
theorem dX4_readDirectories_3 : decode cX4_readDirectories 3 = .ok (.iconst 1, 1) := by decide +kernel
theorem dX4_readDirectories_4 : decode cX4_readDirectories 4 = .ok (.invokevirtual 123, 3) := by decide +kernel
theorem dX4_readDirectories_7 : decode cX4_readDirectories 7 = .ok (.pop, 1) := by decide +kernel
theorem dX4_readDirectories_8 : decode cX4_readDirectories 8 = .ok (.aload_n 1, 1) := by decide +kernel
theorem dX4_readDirectories_9 : decode cX4_readDirectories 9 = .ok (.lconst 1, 1) := by decide +kernel
theorem dX4_readDirectories_10 : decode cX4_readDirectories 10 = .ok (.invokevirtual 158, 3) := by decide +kernel
theorem dX4_readDirectories_13 : decode cX4_readDirectories 13 = .ok (.aload_n 1, 1) := by decide +kernel
theorem dX4_readDirectories_14 : decode cX4_readDirectories 14 = .ok (.ldc2_w 162, 3) := by decide +kernel
theorem dX4_readDirectories_17 : decode cX4_readDirectories 17 = .ok (.invokevirtual 158, 3) := by decide +kernel
theorem dX4_readDirectories_20 : decode cX4_readDirectories 20 = .ok (.aload_n 1, 1) := by decide +kernel
theorem dX4_readDirectories_21 : decode cX4_readDirectories 21 = .ok (.invokevirtual 164, 3) := by decide +kernel
theorem dX4_readDirectories_24 : decode cX4_readDirectories 24 = .ok (.lstore_n 2, 1) := by decide +kernel
theorem dX4_readDirectories_25 : decode cX4_readDirectories 25 = .ok (.iconst 0, 1) := by decide +kernel
theorem dX4_readDirectories_26 : decode cX4_readDirectories 26 = .ok (.istore 4, 2) := by decide +kernel
theorem dX4_readDirectories_28 : decode cX4_readDirectories 28 = .ok (.iload 4, 2) := by decide +kernel
theorem dX4_readDirectories_30 : decode cX4_readDirectories 30 = .ok (.sipush 8000, 3) := by decide +kernel
theorem dX4_readDirectories_33 : decode cX4_readDirectories 33 = .ok (.if_icmp .ge 35, 3) := by decide +kernel
theorem dX4_readDirectories_36 : decode cX4_readDirectories 36 = .ok (.lload_n 2, 1) := by decide +kernel
theorem dX4_readDirectories_37 : decode cX4_readDirectories 37 = .ok (.lconst 0, 1) := by decide +kernel
theorem dX4_readDirectories_38 : decode cX4_readDirectories 38 = .ok (.lcmp, 1) := by decide +kernel
theorem dX4_readDirectories_39 : decode cX4_readDirectories 39 = .ok (.ifCond .lt 11, 3) := by decide +kernel
theorem dX4_readDirectories_42 : decode cX4_readDirectories 42 = .ok (.iload 4, 2) := by decide +kernel
theorem dX4_readDirectories_44 : decode cX4_readDirectories 44 = .ok (.i2l, 1) := by decide +kernel
theorem dX4_readDirectories_45 : decode cX4_readDirectories 45 = .ok (.lload_n 2, 1) := by decide +kernel
theorem dX4_readDirectories_46 : decode cX4_readDirectories 46 = .ok (.lcmp, 1) := by decide +kernel
theorem dX4_readDirectories_47 : decode cX4_readDirectories 47 = .ok (.ifCond .ge 21, 3) := by decide +kernel
theorem dX4_readDirectories_50 : decode cX4_readDirectories 50 = .ok (.aload_n 1, 1) := by decide +kernel
theorem dX4_readDirectories_51 : decode cX4_readDirectories 51 = .ok (.invokevirtual 45, 3) := by decide +kernel
theorem dX4_readDirectories_54 : decode cX4_readDirectories 54 = .ok (.ifCond .eq 14, 3) := by decide +kernel
theorem dX4_readDirectories_57 : decode cX4_readDirectories 57 = .ok (.aload_n 1, 1) := by decide +kernel
theorem dX4_readDirectories_58 : decode cX4_readDirectories 58 = .ok (.invokevirtual 168, 3) := by decide +kernel
theorem dX4_readDirectories_61 : decode cX4_readDirectories 61 = .ok (.pop, 1) := by decide +kernel
theorem dX4_readDirectories_62 : decode cX4_readDirectories 62 = .ok (.iinc 4 1, 3) := by decide +kernel
theorem dX4_readDirectories_65 : decode cX4_readDirectories 65 = .ok (.goto (-37), 3) := by decide +kernel
theorem dX4_readDirectories_68 : decode cX4_readDirectories 68 = .ok (.lload_n 2, 1) := by decide +kernel
theorem dX4_readDirectories_69 : decode cX4_readDirectories 69 = .ok (.lreturn, 1) := by decide +kernel
theorem dX4_readFiles_0 : decode cX4_readFiles 0 = .ok (.aload_n 1, 1) := by decide +kernel
theorem dX4_readFiles_1 : decode cX4_readFiles 1 = .ok (.iconst 1, 1) := by decide +kernel
theorem dX4_readFiles_2 : decode cX4_readFiles 2 = .ok (.iconst 2, 1) := by decide +kernel
theorem dX4_readFiles_3 : decode cX4_readFiles 3 = .ok (.iconst 2, 1) := by decide +kernel
theorem dX4_readFiles_4 : decode cX4_readFiles 4 = .ok (.invokevirtual 123, 3) := by decide +kernel
theorem dX4_readFiles_7 : decode cX4_readFiles 7 = .ok (.pop, 1) := by decide +kernel
theorem dX4_readFiles_8 : decode cX4_readFiles 8 = .ok (.aload_n 1, 1) := by decide +kernel
theorem dX4_readFiles_9 : decode cX4_readFiles 9 = .ok (.lconst 1, 1) := by decide +kernel
theorem dX4_readFiles_10 : decode cX4_readFiles 10 = .ok (.invokevirtual 158, 3) := by decide +kernel
theorem dX4_readFiles_13 : decode cX4_readFiles 13 = .ok (.aload_n 1, 1) := by decide +kernel
theorem dX4_readFiles_14 : decode cX4_readFiles 14 = .ok (.ldc2_w 162, 3) := by decide +kernel
theorem dX4_readFiles_17 : decode cX4_readFiles 17 = .ok (.invokevirtual 158, 3) := by decide +kernel
theorem dX4_readFiles_20 : decode cX4_readFiles 20 = .ok (.aload_n 1, 1) := by decide +kernel
theorem dX4_readFiles_21 : decode cX4_readFiles 21 = .ok (.ldc2_w 171, 3) := by decide +kernel
theorem dX4_readFiles_24 : decode cX4_readFiles 24 = .ok (.invokevirtual 158, 3) := by decide +kernel
theorem dX4_readFiles_27 : decode cX4_readFiles 27 = .ok (.aload_n 1, 1) := by decide +kernel
theorem dX4_readFiles_28 : decode cX4_readFiles 28 = .ok (.ldc2_w 173, 3) := by decide +kernel
theorem dX4_readFiles_31 : decode cX4_readFiles 31 = .ok (.invokevirtual 158, 3) := by decide +kernel
theorem dX4_readFiles_34 : decode cX4_readFiles 34 = .ok (.aload_n 1, 1) := by decide +kernel
theorem dX4_readFiles_35 : decode cX4_readFiles 35 = .ok (.invokevirtual 114, 3) := by decide +kernel
theorem dX4_readFiles_38 : decode cX4_readFiles 38 = .ok (.istore 5, 2) := by decide +kernel
theorem dX4_readFiles_40 : decode cX4_readFiles 40 = .ok (.aload_n 1, 1) := by decide +kernel
theorem dX4_readFiles_41 : decode cX4_readFiles 41 = .ok (.invokevirtual 164, 3) := by decide +kernel
theorem dX4_readFiles_44 : decode cX4_readFiles 44 = .ok (.lstore 6, 2) := by decide +kernel
theorem dX4_readFiles_46 : decode cX4_readFiles 46 = .ok (.lload 6, 2) := by decide +kernel
theorem dX4_readFiles_48 : decode cX4_readFiles 48 = .ok (.lconst 0, 1) := by decide +kernel
theorem dX4_readFiles_49 : decode cX4_readFiles 49 = .ok (.lcmp, 1) := by decide +kernel
theorem dX4_readFiles_50 : decode cX4_readFiles 50 = .ok (.ifCond .lt 17, 3) := by decide +kernel
theorem dX4_readFiles_53 : decode cX4_readFiles 53 = .ok (.lload 6, 2) := by decide +kernel
theorem dX4_readFiles_55 : decode cX4_readFiles 55 = .ok (.bipush 40, 2) := by decide +kernel
theorem dX4_readFiles_57 : decode cX4_readFiles 57 = .ok (.aload_n 2, 1) := by decide +kernel
theorem dX4_readFiles_58 : decode cX4_readFiles 58 = .ok (.invokevirtual 175, 3) := by decide +kernel
theorem dX4_readFiles_61 : decode cX4_readFiles 61 = .ok (.isub, 1) := by decide +kernel
theorem dX4_readFiles_62 : decode cX4_readFiles 62 = .ok (.i2l, 1) := by decide +kernel
theorem dX4_readFiles_63 : decode cX4_readFiles 63 = .ok (.lcmp, 1) := by decide +kernel
theorem dX4_readFiles_64 : decode cX4_readFiles 64 = .ok (.ifCond .le 10, 3) := by decide +kernel
theorem dX4_readFiles_67 : decode cX4_readFiles 67 = .ok (.aload_n 1, 1) := by decide +kernel
theorem dX4_readFiles_68 : decode cX4_readFiles 68 = .ok (.iconst 4, 1) := by decide +kernel
theorem dX4_readFiles_69 : decode cX4_readFiles 69 = .ok (.iload 5, 2) := by decide +kernel
theorem dX4_readFiles_71 : decode cX4_readFiles 71 = .ok (.invokevirtual 85, 3) := by decide +kernel
theorem dX4_readFiles_74 : decode cX4_readFiles 74 = .ok (.aload_n 2, 1) := by decide +kernel
theorem dX4_readFiles_75 : decode cX4_readFiles 75 = .ok (.aload_n 0, 1) := by decide +kernel
theorem dX4_readFiles_76 : decode cX4_readFiles 76 = .ok (.getfield 65, 3) := by decide +kernel
theorem dX4_readFiles_79 : decode cX4_readFiles 79 = .ok (.invokevirtual 178, 3) := by decide +kernel
theorem dX4_readFiles_82 : decode cX4_readFiles 82 = .ok (.iconst 0, 1) := by decide +kernel
theorem dX4_readFiles_83 : decode cX4_readFiles 83 = .ok (.istore 8, 2) := by decide +kernel
theorem dX4_readFiles_85 : decode cX4_readFiles 85 = .ok (.iload 8, 2) := by decide +kernel
theorem dX4_readFiles_87 : decode cX4_readFiles 87 = .ok (.bipush 40, 2) := by decide +kernel
theorem dX4_readFiles_89 : decode cX4_readFiles 89 = .ok (.if_icmp .ge 76, 3) := by decide +kernel
theorem dX4_readFiles_92 : decode cX4_readFiles 92 = .ok (.iload 8, 2) := by decide +kernel
theorem dX4_readFiles_94 : decode cX4_readFiles 94 = .ok (.i2l, 1) := by decide +kernel
theorem dX4_readFiles_95 : decode cX4_readFiles 95 = .ok (.lload 6, 2) := by decide +kernel
theorem dX4_readFiles_97 : decode cX4_readFiles 97 = .ok (.lcmp, 1) := by decide +kernel
theorem dX4_readFiles_98 : decode cX4_readFiles 98 = .ok (.ifCond .ge 67, 3) := by decide +kernel
theorem dX4_readFiles_101 : decode cX4_readFiles 101 = .ok (.aload_n 1, 1) := by decide +kernel
theorem dX4_readFiles_102 : decode cX4_readFiles 102 = .ok (.invokevirtual 45, 3) := by decide +kernel
theorem dX4_readFiles_105 : decode cX4_readFiles 105 = .ok (.ifCond .eq 60, 3) := by decide +kernel
theorem dX4_readFiles_108 : decode cX4_readFiles 108 = .ok (.aload_n 1, 1) := by decide +kernel
theorem dX4_readFiles_109 : decode cX4_readFiles 109 = .ok (.invokevirtual 114, 3) := by decide +kernel
theorem dX4_readFiles_112 : decode cX4_readFiles 112 = .ok (.istore 9, 2) := by decide +kernel
theorem dX4_readFiles_114 : decode cX4_readFiles 114 = .ok (.aload_n 1, 1) := by decide +kernel
theorem dX4_readFiles_115 : decode cX4_readFiles 115 = .ok (.invokevirtual 168, 3) := by decide +kernel
theorem dX4_readFiles_118 : decode cX4_readFiles 118 = .ok (.istore 10, 2) := by decide +kernel
theorem dX4_readFiles_120 : decode cX4_readFiles 120 = .ok (.aload_n 1, 1) := by decide +kernel
theorem dX4_readFiles_121 : decode cX4_readFiles 121 = .ok (.invokevirtual 164, 3) := by decide +kernel
theorem dX4_readFiles_124 : decode cX4_readFiles 124 = .ok (.lstore 11, 2) := by decide +kernel
theorem dX4_readFiles_126 : decode cX4_readFiles 126 = .ok (.lload 11, 2) := by decide +kernel
theorem dX4_readFiles_128 : decode cX4_readFiles 128 = .ok (.lconst 0, 1) := by decide +kernel
theorem dX4_readFiles_129 : decode cX4_readFiles 129 = .ok (.lcmp, 1) := by decide +kernel
theorem dX4_readFiles_130 : decode cX4_readFiles 130 = .ok (.ifCond .lt 10, 3) := by decide +kernel
theorem dX4_readFiles_133 : decode cX4_readFiles 133 = .ok (.lload 11, 2) := by decide +kernel
theorem dX4_readFiles_135 : decode cX4_readFiles 135 = .ok (.lload_n 3, 1) := by decide +kernel
theorem dX4_readFiles_136 : decode cX4_readFiles 136 = .ok (.lcmp, 1) := by decide +kernel
theorem dX4_readFiles_137 : decode cX4_readFiles 137 = .ok (.ifCond .lt 10, 3) := by decide +kernel
theorem dX4_readFiles_140 : decode cX4_readFiles 140 = .ok (.aload_n 1, 1) := by decide +kernel
theorem dX4_readFiles_141 : decode cX4_readFiles 141 = .ok (.iconst 3, 1) := by decide +kernel
theorem dX4_readFiles_142 : decode cX4_readFiles 142 = .ok (.iload 9, 2) := by decide +kernel
theorem dX4_readFiles_144 : decode cX4_readFiles 144 = .ok (.invokevirtual 85, 3) := by decide +kernel
theorem dX4_readFiles_147 : decode cX4_readFiles 147 = .ok (.aload_n 2, 1) := by decide +kernel
theorem dX4_readFiles_148 : decode cX4_readFiles 148 = .ok (.aload_n 0, 1) := by decide +kernel
theorem dX4_readFiles_149 : decode cX4_readFiles 149 = .ok (.getfield 65, 3) := by decide +kernel
theorem dX4_readFiles_152 : decode cX4_readFiles 152 = .ok (.iload 9, 2) := by decide +kernel
theorem dX4_readFiles_154 : decode cX4_readFiles 154 = .ok (.iload 10, 2) := by decide +kernel
theorem dX4_readFiles_156 : decode cX4_readFiles 156 = .ok (.invokevirtual 182, 3) := by decide +kernel
theorem dX4_readFiles_159 : decode cX4_readFiles 159 = .ok (.iinc 8 1, 3) := by decide +kernel
theorem dX4_readFiles_162 : decode cX4_readFiles 162 = .ok (.goto (-77), 3) := by decide +kernel
theorem dX4_readFiles_165 : decode cX4_readFiles 165 = .ok (.return_, 1) := by decide +kernel
theorem dX4_runProgram_0 : decode cX4_runProgram 0 = .ok (.aload_n 0, 1) := by decide +kernel
theorem dX4_runProgram_1 : decode cX4_runProgram 1 = .ok (.invokevirtual 186, 3) := by decide +kernel
theorem dX4_runProgram_4 : decode cX4_runProgram 4 = .ok (.iconst 0, 1) := by decide +kernel
theorem dX4_runProgram_5 : decode cX4_runProgram 5 = .ok (.istore_n 2, 1) := by decide +kernel
theorem dX4_runProgram_6 : decode cX4_runProgram 6 = .ok (.iload_n 2, 1) := by decide +kernel
theorem dX4_runProgram_7 : decode cX4_runProgram 7 = .ok (.sipush 8000, 3) := by decide +kernel
theorem dX4_runProgram_10 : decode cX4_runProgram 10 = .ok (.if_icmp .ge 32, 3) := by decide +kernel
theorem dX4_runProgram_13 : decode cX4_runProgram 13 = .ok (.aload_n 1, 1) := by decide +kernel
theorem dX4_runProgram_14 : decode cX4_runProgram 14 = .ok (.invokevirtual 114, 3) := by decide +kernel
theorem dX4_runProgram_17 : decode cX4_runProgram 17 = .ok (.aload_n 1, 1) := by decide +kernel
theorem dX4_runProgram_18 : decode cX4_runProgram 18 = .ok (.invokevirtual 189, 3) := by decide +kernel
theorem dX4_runProgram_21 : decode cX4_runProgram 21 = .ok (.if_icmp .ge 21, 3) := by decide +kernel
theorem dX4_runProgram_24 : decode cX4_runProgram 24 = .ok (.aload_n 1, 1) := by decide +kernel
theorem dX4_runProgram_25 : decode cX4_runProgram 25 = .ok (.invokevirtual 45, 3) := by decide +kernel
theorem dX4_runProgram_28 : decode cX4_runProgram 28 = .ok (.ifCond .eq 14, 3) := by decide +kernel
theorem dX4_runProgram_31 : decode cX4_runProgram 31 = .ok (.aload_n 0, 1) := by decide +kernel
theorem dX4_runProgram_32 : decode cX4_runProgram 32 = .ok (.aload_n 1, 1) := by decide +kernel
theorem dX4_runProgram_33 : decode cX4_runProgram 33 = .ok (.invokevirtual 192, 3) := by decide +kernel
theorem dX4_runProgram_36 : decode cX4_runProgram 36 = .ok (.iinc 2 1, 3) := by decide +kernel
theorem dX4_runProgram_39 : decode cX4_runProgram 39 = .ok (.goto (-33), 3) := by decide +kernel
theorem dX4_runProgram_42 : decode cX4_runProgram 42 = .ok (.aload_n 0, 1) := by decide +kernel
theorem dX4_runProgram_43 : decode cX4_runProgram 43 = .ok (.getfield 195, 3) := by decide +kernel
theorem dX4_runProgram_46 : decode cX4_runProgram 46 = .ok (.ifCond .eq 12, 3) := by decide +kernel
theorem dX4_runProgram_49 : decode cX4_runProgram 49 = .ok (.aload_n 1, 1) := by decide +kernel
theorem dX4_runProgram_50 : decode cX4_runProgram 50 = .ok (.iconst 1, 1) := by decide +kernel
theorem dX4_runProgram_51 : decode cX4_runProgram 51 = .ok (.aload_n 1, 1) := by decide +kernel
theorem dX4_runProgram_52 : decode cX4_runProgram 52 = .ok (.invokevirtual 189, 3) := by decide +kernel
theorem dX4_runProgram_55 : decode cX4_runProgram 55 = .ok (.invokevirtual 85, 3) := by decide +kernel
theorem dX4_runProgram_58 : decode cX4_runProgram 58 = .ok (.return_, 1) := by decide +kernel
theorem dX4_beginSequence_0 : decode cX4_beginSequence 0 = .ok (.aload_n 0, 1) := by decide +kernel
theorem dX4_beginSequence_1 : decode cX4_beginSequence 1 = .ok (.lconst 0, 1) := by decide +kernel
theorem dX4_beginSequence_2 : decode cX4_beginSequence 2 = .ok (.invokevirtual 199, 3) := by decide +kernel
theorem dX4_beginSequence_5 : decode cX4_beginSequence 5 = .ok (.aload_n 0, 1) := by decide +kernel
theorem dX4_beginSequence_6 : decode cX4_beginSequence 6 = .ok (.lconst 1, 1) := by decide +kernel
theorem dX4_beginSequence_7 : decode cX4_beginSequence 7 = .ok (.putfield 202, 3) := by decide +kernel
theorem dX4_beginSequence_10 : decode cX4_beginSequence 10 = .ok (.aload_n 0, 1) := by decide +kernel
theorem dX4_beginSequence_11 : decode cX4_beginSequence 11 = .ok (.lconst 1, 1) := by decide +kernel
theorem dX4_beginSequence_12 : decode cX4_beginSequence 12 = .ok (.putfield 206, 3) := by decide +kernel
theorem dX4_beginSequence_15 : decode cX4_beginSequence 15 = .ok (.aload_n 0, 1) := by decide +kernel
theorem dX4_beginSequence_16 : decode cX4_beginSequence 16 = .ok (.iconst 0, 1) := by decide +kernel
theorem dX4_beginSequence_17 : decode cX4_beginSequence 17 = .ok (.putfield 209, 3) := by decide +kernel
theorem dX4_beginSequence_20 : decode cX4_beginSequence 20 = .ok (.aload_n 0, 1) := by decide +kernel
theorem dX4_beginSequence_21 : decode cX4_beginSequence 21 = .ok (.iconst 0, 1) := by decide +kernel
theorem dX4_beginSequence_22 : decode cX4_beginSequence 22 = .ok (.putfield 195, 3) := by decide +kernel
theorem dX4_beginSequence_25 : decode cX4_beginSequence 25 = .ok (.return_, 1) := by decide +kernel
theorem dX4_runOpcode_0 : decode cX4_runOpcode 0 = .ok (.aload_n 1, 1) := by decide +kernel
theorem dX4_runOpcode_1 : decode cX4_runOpcode 1 = .ok (.invokevirtual 114, 3) := by decide +kernel
theorem dX4_runOpcode_4 : decode cX4_runOpcode 4 = .ok (.istore_n 2, 1) := by decide +kernel
theorem dX4_runOpcode_5 : decode cX4_runOpcode 5 = .ok (.aload_n 1, 1) := by decide +kernel
theorem dX4_runOpcode_6 : decode cX4_runOpcode 6 = .ok (.iconst 1, 1) := by decide +kernel
theorem dX4_runOpcode_7 : decode cX4_runOpcode 7 = .ok (.invokevirtual 127, 3) := by decide +kernel
theorem dX4_runOpcode_10 : decode cX4_runOpcode 10 = .ok (.l2i, 1) := by decide +kernel
theorem dX4_runOpcode_11 : decode cX4_runOpcode 11 = .ok (.istore_n 3, 1) := by decide +kernel
theorem dX4_runOpcode_12 : decode cX4_runOpcode 12 = .ok (.iload_n 3, 1) := by decide +kernel
theorem dX4_runOpcode_13 : decode cX4_runOpcode 13 = .ok (.aload_n 0, 1) := by decide +kernel
theorem dX4_runOpcode_14 : decode cX4_runOpcode 14 = .ok (.getfield 144, 3) := by decide +kernel
theorem dX4_runOpcode_17 : decode cX4_runOpcode 17 = .ok (.if_icmp .lt 16, 3) := by decide +kernel
theorem dX4_runOpcode_20 : decode cX4_runOpcode 20 = .ok (.aload_n 0, 1) := by decide +kernel
theorem dX4_runOpcode_21 : decode cX4_runOpcode 21 = .ok (.aload_n 1, 1) := by decide +kernel
theorem dX4_runOpcode_22 : decode cX4_runOpcode 22 = .ok (.iload_n 2, 1) := by decide +kernel
theorem dX4_runOpcode_23 : decode cX4_runOpcode 23 = .ok (.iload_n 3, 1) := by decide +kernel
theorem dX4_runOpcode_24 : decode cX4_runOpcode 24 = .ok (.aload_n 0, 1) := by decide +kernel
theorem dX4_runOpcode_25 : decode cX4_runOpcode 25 = .ok (.getfield 144, 3) := by decide +kernel
theorem dX4_runOpcode_28 : decode cX4_runOpcode 28 = .ok (.isub, 1) := by decide +kernel
theorem dX4_runOpcode_29 : decode cX4_runOpcode 29 = .ok (.invokevirtual 212, 3) := by decide +kernel
theorem dX4_runOpcode_32 : decode cX4_runOpcode 32 = .ok (.return_, 1) := by decide +kernel
theorem dX4_runOpcode_33 : decode cX4_runOpcode 33 = .ok (.iload_n 3, 1) := by decide +kernel
theorem dX4_runOpcode_34 : decode cX4_runOpcode 34 = .ok (.tableswitch 138 0 9 #[54, 63, 73, 84, 95, 138, 138, 138, 106, 126], 54) := by decide +kernel
theorem dX4_runOpcode_88 : decode cX4_runOpcode 88 = .ok (.aload_n 0, 1) := by decide +kernel
theorem dX4_runOpcode_89 : decode cX4_runOpcode 89 = .ok (.aload_n 1, 1) := by decide +kernel
theorem dX4_runOpcode_90 : decode cX4_runOpcode 90 = .ok (.iload_n 2, 1) := by decide +kernel
theorem dX4_runOpcode_91 : decode cX4_runOpcode 91 = .ok (.invokevirtual 216, 3) := by decide +kernel
theorem dX4_runOpcode_94 : decode cX4_runOpcode 94 = .ok (.goto 91, 3) := by decide +kernel
theorem dX4_runOpcode_97 : decode cX4_runOpcode 97 = .ok (.aload_n 0, 1) := by decide +kernel
theorem dX4_runOpcode_98 : decode cX4_runOpcode 98 = .ok (.aload_n 1, 1) := by decide +kernel
theorem dX4_runOpcode_99 : decode cX4_runOpcode 99 = .ok (.iload_n 2, 1) := by decide +kernel
theorem dX4_runOpcode_100 : decode cX4_runOpcode 100 = .ok (.iconst 0, 1) := by decide +kernel
theorem dX4_runOpcode_101 : decode cX4_runOpcode 101 = .ok (.invokevirtual 220, 3) := by decide +kernel
theorem dX4_runOpcode_104 : decode cX4_runOpcode 104 = .ok (.goto 81, 3) := by decide +kernel
theorem dX4_runOpcode_107 : decode cX4_runOpcode 107 = .ok (.aload_n 0, 1) := by decide +kernel
theorem dX4_runOpcode_108 : decode cX4_runOpcode 108 = .ok (.aload_n 1, 1) := by decide +kernel
theorem dX4_runOpcode_109 : decode cX4_runOpcode 109 = .ok (.invokevirtual 164, 3) := by decide +kernel
theorem dX4_runOpcode_112 : decode cX4_runOpcode 112 = .ok (.invokevirtual 223, 3) := by decide +kernel
theorem dX4_runOpcode_115 : decode cX4_runOpcode 115 = .ok (.goto 70, 3) := by decide +kernel
theorem dX4_runOpcode_118 : decode cX4_runOpcode 118 = .ok (.aload_n 0, 1) := by decide +kernel
theorem dX4_runOpcode_119 : decode cX4_runOpcode 119 = .ok (.aload_n 1, 1) := by decide +kernel
theorem dX4_runOpcode_120 : decode cX4_runOpcode 120 = .ok (.invokevirtual 226, 3) := by decide +kernel
theorem dX4_runOpcode_123 : decode cX4_runOpcode 123 = .ok (.invokevirtual 229, 3) := by decide +kernel
theorem dX4_runOpcode_126 : decode cX4_runOpcode 126 = .ok (.goto 59, 3) := by decide +kernel
theorem dX4_runOpcode_129 : decode cX4_runOpcode 129 = .ok (.aload_n 0, 1) := by decide +kernel
theorem dX4_runOpcode_130 : decode cX4_runOpcode 130 = .ok (.aload_n 1, 1) := by decide +kernel
theorem dX4_runOpcode_131 : decode cX4_runOpcode 131 = .ok (.invokevirtual 164, 3) := by decide +kernel
theorem dX4_runOpcode_134 : decode cX4_runOpcode 134 = .ok (.putfield 202, 3) := by decide +kernel
theorem dX4_runOpcode_137 : decode cX4_runOpcode 137 = .ok (.goto 48, 3) := by decide +kernel
theorem dX4_runOpcode_140 : decode cX4_runOpcode 140 = .ok (.aload_n 0, 1) := by decide +kernel
theorem dX4_runOpcode_141 : decode cX4_runOpcode 141 = .ok (.aload_n 0, 1) := by decide +kernel
theorem dX4_runOpcode_142 : decode cX4_runOpcode 142 = .ok (.sipush 255, 3) := by decide +kernel
theorem dX4_runOpcode_145 : decode cX4_runOpcode 145 = .ok (.aload_n 0, 1) := by decide +kernel
theorem dX4_runOpcode_146 : decode cX4_runOpcode 146 = .ok (.getfield 144, 3) := by decide +kernel
theorem dX4_runOpcode_149 : decode cX4_runOpcode 149 = .ok (.isub, 1) := by decide +kernel
theorem dX4_runOpcode_150 : decode cX4_runOpcode 150 = .ok (.invokevirtual 232, 3) := by decide +kernel
theorem dX4_runOpcode_153 : decode cX4_runOpcode 153 = .ok (.i2l, 1) := by decide +kernel
theorem dX4_runOpcode_154 : decode cX4_runOpcode 154 = .ok (.invokevirtual 223, 3) := by decide +kernel
theorem dX4_runOpcode_157 : decode cX4_runOpcode 157 = .ok (.goto 28, 3) := by decide +kernel
theorem dX4_runOpcode_160 : decode cX4_runOpcode 160 = .ok (.aload_n 0, 1) := by decide +kernel
theorem dX4_runOpcode_161 : decode cX4_runOpcode 161 = .ok (.aload_n 1, 1) := by decide +kernel
theorem dX4_runOpcode_162 : decode cX4_runOpcode 162 = .ok (.iconst 2, 1) := by decide +kernel
theorem dX4_runOpcode_163 : decode cX4_runOpcode 163 = .ok (.invokevirtual 127, 3) := by decide +kernel
theorem dX4_runOpcode_166 : decode cX4_runOpcode 166 = .ok (.invokevirtual 235, 3) := by decide +kernel
theorem dX4_runOpcode_169 : decode cX4_runOpcode 169 = .ok (.goto 16, 3) := by decide +kernel
theorem dX4_runOpcode_172 : decode cX4_runOpcode 172 = .ok (.aload_n 0, 1) := by decide +kernel
theorem dX4_runOpcode_173 : decode cX4_runOpcode 173 = .ok (.aload_n 1, 1) := by decide +kernel
theorem dX4_runOpcode_174 : decode cX4_runOpcode 174 = .ok (.aload_n 0, 1) := by decide +kernel
theorem dX4_runOpcode_175 : decode cX4_runOpcode 175 = .ok (.getfield 28, 3) := by decide +kernel
theorem dX4_runOpcode_178 : decode cX4_runOpcode 178 = .ok (.iload_n 3, 1) := by decide +kernel
theorem dX4_runOpcode_179 : decode cX4_runOpcode 179 = .ok (.invokestatic 150, 3) := by decide +kernel
theorem dX4_runOpcode_182 : decode cX4_runOpcode 182 = .ok (.invokevirtual 238, 3) := by decide +kernel
theorem dX4_runOpcode_185 : decode cX4_runOpcode 185 = .ok (.return_, 1) := by decide +kernel
theorem dX4_rangesIn_0 : decode cX4_rangesIn 0 = .ok (.aload_n 0, 1) := by decide +kernel
theorem dX4_rangesIn_1 : decode cX4_rangesIn 1 = .ok (.getfield 141, 3) := by decide +kernel
theorem dX4_rangesIn_4 : decode cX4_rangesIn 4 = .ok (.ifCond .le 12, 3) := by decide +kernel
theorem dX4_rangesIn_7 : decode cX4_rangesIn 7 = .ok (.iload_n 1, 1) := by decide +kernel
theorem dX4_rangesIn_8 : decode cX4_rangesIn 8 = .ok (.aload_n 0, 1) := by decide +kernel
theorem dX4_rangesIn_9 : decode cX4_rangesIn 9 = .ok (.getfield 141, 3) := by decide +kernel
theorem dX4_rangesIn_12 : decode cX4_rangesIn 12 = .ok (.idiv, 1) := by decide +kernel
theorem dX4_rangesIn_13 : decode cX4_rangesIn 13 = .ok (.goto 4, 3) := by decide +kernel
theorem dX4_rangesIn_16 : decode cX4_rangesIn 16 = .ok (.iconst 0, 1) := by decide +kernel
theorem dX4_rangesIn_17 : decode cX4_rangesIn 17 = .ok (.ireturn, 1) := by decide +kernel
theorem dX4_runSpecial_0 : decode cX4_runSpecial 0 = .ok (.aload_n 0, 1) := by decide +kernel
theorem dX4_runSpecial_1 : decode cX4_runSpecial 1 = .ok (.iload_n 3, 1) := by decide +kernel
theorem dX4_runSpecial_2 : decode cX4_runSpecial 2 = .ok (.invokevirtual 232, 3) := by decide +kernel
theorem dX4_runSpecial_5 : decode cX4_runSpecial 5 = .ok (.istore 4, 2) := by decide +kernel
theorem dX4_runSpecial_7 : decode cX4_runSpecial 7 = .ok (.aload_n 0, 1) := by decide +kernel
theorem dX4_runSpecial_8 : decode cX4_runSpecial 8 = .ok (.iload 4, 2) := by decide +kernel
theorem dX4_runSpecial_10 : decode cX4_runSpecial 10 = .ok (.i2l, 1) := by decide +kernel
theorem dX4_runSpecial_11 : decode cX4_runSpecial 11 = .ok (.invokevirtual 223, 3) := by decide +kernel
theorem dX4_runSpecial_14 : decode cX4_runSpecial 14 = .ok (.aload_n 0, 1) := by decide +kernel
theorem dX4_runSpecial_15 : decode cX4_runSpecial 15 = .ok (.aload_n 0, 1) := by decide +kernel
theorem dX4_runSpecial_16 : decode cX4_runSpecial 16 = .ok (.getfield 138, 3) := by decide +kernel
theorem dX4_runSpecial_19 : decode cX4_runSpecial 19 = .ok (.iload_n 3, 1) := by decide +kernel
theorem dX4_runSpecial_20 : decode cX4_runSpecial 20 = .ok (.iload 4, 2) := by decide +kernel
theorem dX4_runSpecial_22 : decode cX4_runSpecial 22 = .ok (.aload_n 0, 1) := by decide +kernel
theorem dX4_runSpecial_23 : decode cX4_runSpecial 23 = .ok (.getfield 141, 3) := by decide +kernel
theorem dX4_runSpecial_26 : decode cX4_runSpecial 26 = .ok (.imul, 1) := by decide +kernel
theorem dX4_runSpecial_27 : decode cX4_runSpecial 27 = .ok (.isub, 1) := by decide +kernel
theorem dX4_runSpecial_28 : decode cX4_runSpecial 28 = .ok (.iadd, 1) := by decide +kernel
theorem dX4_runSpecial_29 : decode cX4_runSpecial 29 = .ok (.i2l, 1) := by decide +kernel
theorem dX4_runSpecial_30 : decode cX4_runSpecial 30 = .ok (.invokevirtual 229, 3) := by decide +kernel
theorem dX4_runSpecial_33 : decode cX4_runSpecial 33 = .ok (.aload_n 0, 1) := by decide +kernel
theorem dX4_runSpecial_34 : decode cX4_runSpecial 34 = .ok (.aload_n 1, 1) := by decide +kernel
theorem dX4_runSpecial_35 : decode cX4_runSpecial 35 = .ok (.iload_n 2, 1) := by decide +kernel
theorem dX4_runSpecial_36 : decode cX4_runSpecial 36 = .ok (.iconst 0, 1) := by decide +kernel
theorem dX4_runSpecial_37 : decode cX4_runSpecial 37 = .ok (.invokevirtual 220, 3) := by decide +kernel
theorem dX4_runSpecial_40 : decode cX4_runSpecial 40 = .ok (.return_, 1) := by decide +kernel
theorem dX4_setAddress_0 : decode cX4_setAddress 0 = .ok (.aload_n 0, 1) := by decide +kernel
theorem dX4_setAddress_1 : decode cX4_setAddress 1 = .ok (.lload_n 1, 1) := by decide +kernel
theorem dX4_setAddress_2 : decode cX4_setAddress 2 = .ok (.putfield 241, 3) := by decide +kernel
theorem dX4_setAddress_5 : decode cX4_setAddress 5 = .ok (.aload_n 0, 1) := by decide +kernel
theorem dX4_setAddress_6 : decode cX4_setAddress 6 = .ok (.iconst 0, 1) := by decide +kernel
theorem dX4_setAddress_7 : decode cX4_setAddress 7 = .ok (.putfield 244, 3) := by decide +kernel
theorem dX4_setAddress_10 : decode cX4_setAddress 10 = .ok (.return_, 1) := by decide +kernel
theorem dX4_advance_0 : decode cX4_advance 0 = .ok (.aload_n 0, 1) := by decide +kernel
theorem dX4_advance_1 : decode cX4_advance 1 = .ok (.getfield 241, 3) := by decide +kernel
theorem dX4_advance_4 : decode cX4_advance 4 = .ok (.lload_n 1, 1) := by decide +kernel
theorem dX4_advance_5 : decode cX4_advance 5 = .ok (.ladd, 1) := by decide +kernel
theorem dX4_advance_6 : decode cX4_advance 6 = .ok (.lstore_n 3, 1) := by decide +kernel
theorem dX4_advance_7 : decode cX4_advance 7 = .ok (.lload_n 3, 1) := by decide +kernel
theorem dX4_advance_8 : decode cX4_advance 8 = .ok (.aload_n 0, 1) := by decide +kernel
theorem dX4_advance_9 : decode cX4_advance 9 = .ok (.getfield 241, 3) := by decide +kernel
theorem dX4_advance_12 : decode cX4_advance 12 = .ok (.lcmp, 1) := by decide +kernel
theorem dX4_advance_13 : decode cX4_advance 13 = .ok (.ifCond .ge 13, 3) := by decide +kernel
theorem dX4_advance_16 : decode cX4_advance 16 = .ok (.aload_n 0, 1) := by decide +kernel
theorem dX4_advance_17 : decode cX4_advance 17 = .ok (.dup, 1) := by decide +kernel
theorem dX4_advance_18 : decode cX4_advance 18 = .ok (.getfield 244, 3) := by decide +kernel
theorem dX4_advance_21 : decode cX4_advance 21 = .ok (.iconst 1, 1) := by decide +kernel
theorem dX4_advance_22 : decode cX4_advance 22 = .ok (.iadd, 1) := by decide +kernel
theorem dX4_advance_23 : decode cX4_advance 23 = .ok (.putfield 244, 3) := by decide +kernel
theorem dX4_advance_26 : decode cX4_advance 26 = .ok (.aload_n 0, 1) := by decide +kernel
theorem dX4_advance_27 : decode cX4_advance 27 = .ok (.lload_n 3, 1) := by decide +kernel
theorem dX4_advance_28 : decode cX4_advance 28 = .ok (.putfield 241, 3) := by decide +kernel
theorem dX4_advance_31 : decode cX4_advance 31 = .ok (.return_, 1) := by decide +kernel
theorem dX4_advanceSteps_0 : decode cX4_advanceSteps 0 = .ok (.aload_n 0, 1) := by decide +kernel
theorem dX4_advanceSteps_1 : decode cX4_advanceSteps 1 = .ok (.getfield 135, 3) := by decide +kernel
theorem dX4_advanceSteps_4 : decode cX4_advanceSteps 4 = .ok (.i2l, 1) := by decide +kernel
theorem dX4_advanceSteps_5 : decode cX4_advanceSteps 5 = .ok (.lload_n 1, 1) := by decide +kernel
theorem dX4_advanceSteps_6 : decode cX4_advanceSteps 6 = .ok (.ldc2_w 247, 3) := by decide +kernel
theorem dX4_advanceSteps_9 : decode cX4_advanceSteps 9 = .ok (.land, 1) := by decide +kernel
theorem dX4_advanceSteps_10 : decode cX4_advanceSteps 10 = .ok (.lmul, 1) := by decide +kernel
theorem dX4_advanceSteps_11 : decode cX4_advanceSteps 11 = .ok (.lstore_n 3, 1) := by decide +kernel
theorem dX4_advanceSteps_12 : decode cX4_advanceSteps 12 = .ok (.aload_n 0, 1) := by decide +kernel
theorem dX4_advanceSteps_13 : decode cX4_advanceSteps 13 = .ok (.getfield 135, 3) := by decide +kernel
theorem dX4_advanceSteps_16 : decode cX4_advanceSteps 16 = .ok (.i2l, 1) := by decide +kernel
theorem dX4_advanceSteps_17 : decode cX4_advanceSteps 17 = .ok (.lload_n 1, 1) := by decide +kernel
theorem dX4_advanceSteps_18 : decode cX4_advanceSteps 18 = .ok (.bipush 32, 2) := by decide +kernel
theorem dX4_advanceSteps_20 : decode cX4_advanceSteps 20 = .ok (.lushr, 1) := by decide +kernel
theorem dX4_advanceSteps_21 : decode cX4_advanceSteps 21 = .ok (.lmul, 1) := by decide +kernel
theorem dX4_advanceSteps_22 : decode cX4_advanceSteps 22 = .ok (.lload_n 3, 1) := by decide +kernel
theorem dX4_advanceSteps_23 : decode cX4_advanceSteps 23 = .ok (.bipush 32, 2) := by decide +kernel
theorem dX4_advanceSteps_25 : decode cX4_advanceSteps 25 = .ok (.lushr, 1) := by decide +kernel
theorem dX4_advanceSteps_26 : decode cX4_advanceSteps 26 = .ok (.ladd, 1) := by decide +kernel
theorem dX4_advanceSteps_27 : decode cX4_advanceSteps 27 = .ok (.lstore 5, 2) := by decide +kernel
theorem dX4_advanceSteps_29 : decode cX4_advanceSteps 29 = .ok (.aload_n 0, 1) := by decide +kernel
theorem dX4_advanceSteps_30 : decode cX4_advanceSteps 30 = .ok (.dup, 1) := by decide +kernel
theorem dX4_advanceSteps_31 : decode cX4_advanceSteps 31 = .ok (.getfield 244, 3) := by decide +kernel
theorem dX4_advanceSteps_34 : decode cX4_advanceSteps 34 = .ok (.lload 5, 2) := by decide +kernel
theorem dX4_advanceSteps_36 : decode cX4_advanceSteps 36 = .ok (.bipush 32, 2) := by decide +kernel
theorem dX4_advanceSteps_38 : decode cX4_advanceSteps 38 = .ok (.lushr, 1) := by decide +kernel
theorem dX4_advanceSteps_39 : decode cX4_advanceSteps 39 = .ok (.l2i, 1) := by decide +kernel
theorem dX4_advanceSteps_40 : decode cX4_advanceSteps 40 = .ok (.iadd, 1) := by decide +kernel
theorem dX4_advanceSteps_41 : decode cX4_advanceSteps 41 = .ok (.putfield 244, 3) := by decide +kernel
theorem dX4_advanceSteps_44 : decode cX4_advanceSteps 44 = .ok (.aload_n 0, 1) := by decide +kernel
theorem dX4_advanceSteps_45 : decode cX4_advanceSteps 45 = .ok (.aload_n 0, 1) := by decide +kernel
theorem dX4_advanceSteps_46 : decode cX4_advanceSteps 46 = .ok (.getfield 135, 3) := by decide +kernel
theorem dX4_advanceSteps_49 : decode cX4_advanceSteps 49 = .ok (.i2l, 1) := by decide +kernel
theorem dX4_advanceSteps_50 : decode cX4_advanceSteps 50 = .ok (.lload_n 1, 1) := by decide +kernel
theorem dX4_advanceSteps_51 : decode cX4_advanceSteps 51 = .ok (.lmul, 1) := by decide +kernel
theorem dX4_advanceSteps_52 : decode cX4_advanceSteps 52 = .ok (.invokevirtual 235, 3) := by decide +kernel
theorem dX4_advanceSteps_55 : decode cX4_advanceSteps 55 = .ok (.return_, 1) := by decide +kernel
theorem dX4_advanceLine_0 : decode cX4_advanceLine 0 = .ok (.aload_n 0, 1) := by decide +kernel
theorem dX4_advanceLine_1 : decode cX4_advanceLine 1 = .ok (.getfield 206, 3) := by decide +kernel
theorem dX4_advanceLine_4 : decode cX4_advanceLine 4 = .ok (.lload_n 1, 1) := by decide +kernel
theorem dX4_advanceLine_5 : decode cX4_advanceLine 5 = .ok (.ladd, 1) := by decide +kernel
theorem dX4_advanceLine_6 : decode cX4_advanceLine 6 = .ok (.lstore_n 3, 1) := by decide +kernel
theorem dX4_advanceLine_7 : decode cX4_advanceLine 7 = .ok (.lload_n 1, 1) := by decide +kernel
theorem dX4_advanceLine_8 : decode cX4_advanceLine 8 = .ok (.lconst 0, 1) := by decide +kernel
theorem dX4_advanceLine_9 : decode cX4_advanceLine 9 = .ok (.lcmp, 1) := by decide +kernel
theorem dX4_advanceLine_10 : decode cX4_advanceLine 10 = .ok (.ifCond .lt 25, 3) := by decide +kernel
theorem dX4_advanceLine_13 : decode cX4_advanceLine 13 = .ok (.lload_n 3, 1) := by decide +kernel
theorem dX4_advanceLine_14 : decode cX4_advanceLine 14 = .ok (.aload_n 0, 1) := by decide +kernel
theorem dX4_advanceLine_15 : decode cX4_advanceLine 15 = .ok (.getfield 206, 3) := by decide +kernel
theorem dX4_advanceLine_18 : decode cX4_advanceLine 18 = .ok (.lcmp, 1) := by decide +kernel
theorem dX4_advanceLine_19 : decode cX4_advanceLine 19 = .ok (.ifCond .ge 16, 3) := by decide +kernel
theorem dX4_advanceLine_22 : decode cX4_advanceLine 22 = .ok (.aload_n 0, 1) := by decide +kernel
theorem dX4_advanceLine_23 : decode cX4_advanceLine 23 = .ok (.dup, 1) := by decide +kernel
theorem dX4_advanceLine_24 : decode cX4_advanceLine 24 = .ok (.getfield 209, 3) := by decide +kernel
theorem dX4_advanceLine_27 : decode cX4_advanceLine 27 = .ok (.iconst 1, 1) := by decide +kernel
theorem dX4_advanceLine_28 : decode cX4_advanceLine 28 = .ok (.iadd, 1) := by decide +kernel
theorem dX4_advanceLine_29 : decode cX4_advanceLine 29 = .ok (.putfield 209, 3) := by decide +kernel
theorem dX4_advanceLine_32 : decode cX4_advanceLine 32 = .ok (.goto 28, 3) := by decide +kernel
theorem dX4_advanceLine_35 : decode cX4_advanceLine 35 = .ok (.lload_n 1, 1) := by decide +kernel
theorem dX4_advanceLine_36 : decode cX4_advanceLine 36 = .ok (.lconst 0, 1) := by decide +kernel
theorem dX4_advanceLine_37 : decode cX4_advanceLine 37 = .ok (.lcmp, 1) := by decide +kernel
theorem dX4_advanceLine_38 : decode cX4_advanceLine 38 = .ok (.ifCond .ge 22, 3) := by decide +kernel
theorem dX4_advanceLine_41 : decode cX4_advanceLine 41 = .ok (.lload_n 3, 1) := by decide +kernel
theorem dX4_advanceLine_42 : decode cX4_advanceLine 42 = .ok (.aload_n 0, 1) := by decide +kernel
theorem dX4_advanceLine_43 : decode cX4_advanceLine 43 = .ok (.getfield 206, 3) := by decide +kernel
theorem dX4_advanceLine_46 : decode cX4_advanceLine 46 = .ok (.lcmp, 1) := by decide +kernel
theorem dX4_advanceLine_47 : decode cX4_advanceLine 47 = .ok (.ifCond .le 13, 3) := by decide +kernel
theorem dX4_advanceLine_50 : decode cX4_advanceLine 50 = .ok (.aload_n 0, 1) := by decide +kernel
theorem dX4_advanceLine_51 : decode cX4_advanceLine 51 = .ok (.dup, 1) := by decide +kernel
theorem dX4_advanceLine_52 : decode cX4_advanceLine 52 = .ok (.getfield 209, 3) := by decide +kernel
theorem dX4_advanceLine_55 : decode cX4_advanceLine 55 = .ok (.iconst 1, 1) := by decide +kernel
theorem dX4_advanceLine_56 : decode cX4_advanceLine 56 = .ok (.isub, 1) := by decide +kernel
theorem dX4_advanceLine_57 : decode cX4_advanceLine 57 = .ok (.putfield 209, 3) := by decide +kernel
theorem dX4_advanceLine_60 : decode cX4_advanceLine 60 = .ok (.aload_n 0, 1) := by decide +kernel
theorem dX4_advanceLine_61 : decode cX4_advanceLine 61 = .ok (.lload_n 3, 1) := by decide +kernel
theorem dX4_advanceLine_62 : decode cX4_advanceLine 62 = .ok (.putfield 206, 3) := by decide +kernel
theorem dX4_advanceLine_65 : decode cX4_advanceLine 65 = .ok (.return_, 1) := by decide +kernel
theorem dX4_runExtended_0 : decode cX4_runExtended 0 = .ok (.aload_n 1, 1) := by decide +kernel
theorem dX4_runExtended_1 : decode cX4_runExtended 1 = .ok (.invokevirtual 164, 3) := by decide +kernel
theorem dX4_runExtended_4 : decode cX4_runExtended 4 = .ok (.lstore_n 3, 1) := by decide +kernel
theorem dX4_runExtended_5 : decode cX4_runExtended 5 = .ok (.lload_n 3, 1) := by decide +kernel
theorem dX4_runExtended_6 : decode cX4_runExtended 6 = .ok (.lconst 0, 1) := by decide +kernel
theorem dX4_runExtended_7 : decode cX4_runExtended 7 = .ok (.lcmp, 1) := by decide +kernel
theorem dX4_runExtended_8 : decode cX4_runExtended 8 = .ok (.ifCond .ne 12, 3) := by decide +kernel
theorem dX4_runExtended_11 : decode cX4_runExtended 11 = .ok (.aload_n 1, 1) := by decide +kernel
theorem dX4_runExtended_12 : decode cX4_runExtended 12 = .ok (.iconst 2, 1) := by decide +kernel
theorem dX4_runExtended_13 : decode cX4_runExtended 13 = .ok (.iload_n 2, 1) := by decide +kernel
theorem dX4_runExtended_14 : decode cX4_runExtended 14 = .ok (.invokevirtual 85, 3) := by decide +kernel
theorem dX4_runExtended_17 : decode cX4_runExtended 17 = .ok (.goto 17, 3) := by decide +kernel
theorem dX4_runExtended_20 : decode cX4_runExtended 20 = .ok (.aload_n 1, 1) := by decide +kernel
theorem dX4_runExtended_21 : decode cX4_runExtended 21 = .ok (.lload_n 3, 1) := by decide +kernel
theorem dX4_runExtended_22 : decode cX4_runExtended 22 = .ok (.invokevirtual 131, 3) := by decide +kernel
theorem dX4_runExtended_25 : decode cX4_runExtended 25 = .ok (.ifCond .ne 9, 3) := by decide +kernel
theorem dX4_runExtended_28 : decode cX4_runExtended 28 = .ok (.aload_n 1, 1) := by decide +kernel
theorem dX4_runExtended_29 : decode cX4_runExtended 29 = .ok (.iconst 1, 1) := by decide +kernel
theorem dX4_runExtended_30 : decode cX4_runExtended 30 = .ok (.iload_n 2, 1) := by decide +kernel
theorem dX4_runExtended_31 : decode cX4_runExtended 31 = .ok (.invokevirtual 85, 3) := by decide +kernel
theorem dX4_runExtended_34 : decode cX4_runExtended 34 = .ok (.aload_n 1, 1) := by decide +kernel
theorem dX4_runExtended_35 : decode cX4_runExtended 35 = .ok (.invokevirtual 45, 3) := by decide +kernel
theorem dX4_runExtended_38 : decode cX4_runExtended 38 = .ok (.ifCond .ne 4, 3) := by decide +kernel
theorem dX4_runExtended_41 : decode cX4_runExtended 41 = .ok (.return_, 1) := by decide +kernel
theorem dX4_runExtended_42 : decode cX4_runExtended 42 = .ok (.aload_n 1, 1) := by decide +kernel
theorem dX4_runExtended_43 : decode cX4_runExtended 43 = .ok (.invokevirtual 114, 3) := by decide +kernel
theorem dX4_runExtended_46 : decode cX4_runExtended 46 = .ok (.istore 5, 2) := by decide +kernel
theorem dX4_runExtended_48 : decode cX4_runExtended 48 = .ok (.aload_n 1, 1) := by decide +kernel
theorem dX4_runExtended_49 : decode cX4_runExtended 49 = .ok (.iload 5, 2) := by decide +kernel
theorem dX4_runExtended_51 : decode cX4_runExtended 51 = .ok (.invokevirtual 249, 3) := by decide +kernel
theorem dX4_runExtended_54 : decode cX4_runExtended 54 = .ok (.istore 6, 2) := by decide +kernel
theorem dX4_runExtended_56 : decode cX4_runExtended 56 = .ok (.aload_n 1, 1) := by decide +kernel
theorem dX4_runExtended_57 : decode cX4_runExtended 57 = .ok (.iload 5, 2) := by decide +kernel
theorem dX4_runExtended_59 : decode cX4_runExtended 59 = .ok (.lload_n 3, 1) := by decide +kernel
theorem dX4_runExtended_60 : decode cX4_runExtended 60 = .ok (.l2i, 1) := by decide +kernel
theorem dX4_runExtended_61 : decode cX4_runExtended 61 = .ok (.iadd, 1) := by decide +kernel
theorem dX4_runExtended_62 : decode cX4_runExtended 62 = .ok (.aload_n 1, 1) := by decide +kernel
theorem dX4_runExtended_63 : decode cX4_runExtended 63 = .ok (.invokevirtual 189, 3) := by decide +kernel
theorem dX4_runExtended_66 : decode cX4_runExtended 66 = .ok (.invokevirtual 93, 3) := by decide +kernel
theorem dX4_runExtended_69 : decode cX4_runExtended 69 = .ok (.iload 6, 2) := by decide +kernel
theorem dX4_runExtended_71 : decode cX4_runExtended 71 = .ok (.iconst 1, 1) := by decide +kernel
theorem dX4_runExtended_72 : decode cX4_runExtended 72 = .ok (.if_icmp .ne 9, 3) := by decide +kernel
theorem dX4_runExtended_75 : decode cX4_runExtended 75 = .ok (.lload_n 3, 1) := by decide +kernel
theorem dX4_runExtended_76 : decode cX4_runExtended 76 = .ok (.lconst 1, 1) := by decide +kernel
theorem dX4_runExtended_77 : decode cX4_runExtended 77 = .ok (.lcmp, 1) := by decide +kernel
theorem dX4_runExtended_78 : decode cX4_runExtended 78 = .ok (.ifCond .ne 17, 3) := by decide +kernel
theorem dX4_runExtended_81 : decode cX4_runExtended 81 = .ok (.iload 6, 2) := by decide +kernel
theorem dX4_runExtended_83 : decode cX4_runExtended 83 = .ok (.iconst 2, 1) := by decide +kernel
theorem dX4_runExtended_84 : decode cX4_runExtended 84 = .ok (.if_icmp .ne 20, 3) := by decide +kernel
theorem dX4_runExtended_87 : decode cX4_runExtended 87 = .ok (.lload_n 3, 1) := by decide +kernel
theorem dX4_runExtended_88 : decode cX4_runExtended 88 = .ok (.ldc2_w 252, 3) := by decide +kernel
theorem dX4_runExtended_91 : decode cX4_runExtended 91 = .ok (.lcmp, 1) := by decide +kernel
theorem dX4_runExtended_92 : decode cX4_runExtended 92 = .ok (.ifCond .eq 12, 3) := by decide +kernel
theorem dX4_runExtended_95 : decode cX4_runExtended 95 = .ok (.aload_n 1, 1) := by decide +kernel
theorem dX4_runExtended_96 : decode cX4_runExtended 96 = .ok (.iconst 2, 1) := by decide +kernel
theorem dX4_runExtended_97 : decode cX4_runExtended 97 = .ok (.iload_n 2, 1) := by decide +kernel
theorem dX4_runExtended_98 : decode cX4_runExtended 98 = .ok (.invokevirtual 85, 3) := by decide +kernel
theorem dX4_runExtended_101 : decode cX4_runExtended 101 = .ok (.goto 43, 3) := by decide +kernel
theorem dX4_runExtended_104 : decode cX4_runExtended 104 = .ok (.iload 6, 2) := by decide +kernel
theorem dX4_runExtended_106 : decode cX4_runExtended 106 = .ok (.iconst 1, 1) := by decide +kernel
theorem dX4_runExtended_107 : decode cX4_runExtended 107 = .ok (.if_icmp .ne 17, 3) := by decide +kernel
theorem dX4_runExtended_110 : decode cX4_runExtended 110 = .ok (.aload_n 0, 1) := by decide +kernel
theorem dX4_runExtended_111 : decode cX4_runExtended 111 = .ok (.aload_n 1, 1) := by decide +kernel
theorem dX4_runExtended_112 : decode cX4_runExtended 112 = .ok (.iload_n 2, 1) := by decide +kernel
theorem dX4_runExtended_113 : decode cX4_runExtended 113 = .ok (.iconst 1, 1) := by decide +kernel
theorem dX4_runExtended_114 : decode cX4_runExtended 114 = .ok (.invokevirtual 220, 3) := by decide +kernel
theorem dX4_runExtended_117 : decode cX4_runExtended 117 = .ok (.aload_n 0, 1) := by decide +kernel
theorem dX4_runExtended_118 : decode cX4_runExtended 118 = .ok (.invokevirtual 186, 3) := by decide +kernel
theorem dX4_runExtended_121 : decode cX4_runExtended 121 = .ok (.goto 23, 3) := by decide +kernel
theorem dX4_runExtended_124 : decode cX4_runExtended 124 = .ok (.iload 6, 2) := by decide +kernel
theorem dX4_runExtended_126 : decode cX4_runExtended 126 = .ok (.iconst 2, 1) := by decide +kernel
theorem dX4_runExtended_127 : decode cX4_runExtended 127 = .ok (.if_icmp .ne 17, 3) := by decide +kernel
theorem dX4_runExtended_130 : decode cX4_runExtended 130 = .ok (.aload_n 0, 1) := by decide +kernel
theorem dX4_runExtended_131 : decode cX4_runExtended 131 = .ok (.aload_n 1, 1) := by decide +kernel
theorem dX4_runExtended_132 : decode cX4_runExtended 132 = .ok (.iload 5, 2) := by decide +kernel
theorem dX4_runExtended_134 : decode cX4_runExtended 134 = .ok (.iconst 1, 1) := by decide +kernel
theorem dX4_runExtended_135 : decode cX4_runExtended 135 = .ok (.iadd, 1) := by decide +kernel
theorem dX4_runExtended_136 : decode cX4_runExtended 136 = .ok (.bipush 8, 2) := by decide +kernel
theorem dX4_runExtended_138 : decode cX4_runExtended 138 = .ok (.invokevirtual 254, 3) := by decide +kernel
theorem dX4_runExtended_141 : decode cX4_runExtended 141 = .ok (.invokevirtual 199, 3) := by decide +kernel
theorem dX4_runExtended_144 : decode cX4_runExtended 144 = .ok (.return_, 1) := by decide +kernel
theorem dX4_skipOperands_0 : decode cX4_skipOperands 0 = .ok (.iconst 0, 1) := by decide +kernel
theorem dX4_skipOperands_1 : decode cX4_skipOperands 1 = .ok (.istore_n 3, 1) := by decide +kernel
theorem dX4_skipOperands_2 : decode cX4_skipOperands 2 = .ok (.iload_n 3, 1) := by decide +kernel
theorem dX4_skipOperands_3 : decode cX4_skipOperands 3 = .ok (.iload_n 2, 1) := by decide +kernel
theorem dX4_skipOperands_4 : decode cX4_skipOperands 4 = .ok (.if_icmp .ge 21, 3) := by decide +kernel
theorem dX4_skipOperands_7 : decode cX4_skipOperands 7 = .ok (.aload_n 1, 1) := by decide +kernel
theorem dX4_skipOperands_8 : decode cX4_skipOperands 8 = .ok (.invokevirtual 45, 3) := by decide +kernel
theorem dX4_skipOperands_11 : decode cX4_skipOperands 11 = .ok (.ifCond .eq 14, 3) := by decide +kernel
theorem dX4_skipOperands_14 : decode cX4_skipOperands 14 = .ok (.aload_n 1, 1) := by decide +kernel
theorem dX4_skipOperands_15 : decode cX4_skipOperands 15 = .ok (.invokevirtual 164, 3) := by decide +kernel
theorem dX4_skipOperands_18 : decode cX4_skipOperands 18 = .ok (.pop2, 1) := by decide +kernel
theorem dX4_skipOperands_19 : decode cX4_skipOperands 19 = .ok (.iinc 3 1, 3) := by decide +kernel
theorem dX4_skipOperands_22 : decode cX4_skipOperands 22 = .ok (.goto (-20), 3) := by decide +kernel
theorem dX4_skipOperands_25 : decode cX4_skipOperands 25 = .ok (.return_, 1) := by decide +kernel
theorem dX4_addRow_0 : decode cX4_addRow 0 = .ok (.aload_n 0, 1) := by decide +kernel
theorem dX4_addRow_1 : decode cX4_addRow 1 = .ok (.getfield 195, 3) := by decide +kernel
theorem dX4_addRow_4 : decode cX4_addRow 4 = .ok (.ifCond .eq 19, 3) := by decide +kernel
theorem dX4_addRow_7 : decode cX4_addRow 7 = .ok (.aload_n 0, 1) := by decide +kernel
theorem dX4_addRow_8 : decode cX4_addRow 8 = .ok (.getfield 24, 3) := by decide +kernel
theorem dX4_addRow_11 : decode cX4_addRow 11 = .ok (.aload_n 0, 1) := by decide +kernel
theorem dX4_addRow_12 : decode cX4_addRow 12 = .ok (.getfield 31, 3) := by decide +kernel
theorem dX4_addRow_15 : decode cX4_addRow 15 = .ok (.iconst 1, 1) := by decide +kernel
theorem dX4_addRow_16 : decode cX4_addRow 16 = .ok (.isub, 1) := by decide +kernel
theorem dX4_addRow_17 : decode cX4_addRow 17 = .ok (.invokestatic 258, 3) := by decide +kernel
theorem dX4_addRow_20 : decode cX4_addRow 20 = .ok (.goto 4, 3) := by decide +kernel
theorem dX4_addRow_23 : decode cX4_addRow 23 = .ok (.lconst 0, 1) := by decide +kernel
theorem dX4_addRow_24 : decode cX4_addRow 24 = .ok (.lstore 4, 2) := by decide +kernel
theorem dX4_addRow_26 : decode cX4_addRow 26 = .ok (.aload_n 0, 1) := by decide +kernel
theorem dX4_addRow_27 : decode cX4_addRow 27 = .ok (.getfield 244, 3) := by decide +kernel
theorem dX4_addRow_30 : decode cX4_addRow 30 = .ok (.ifCond .ne 17, 3) := by decide +kernel
theorem dX4_addRow_33 : decode cX4_addRow 33 = .ok (.aload_n 0, 1) := by decide +kernel
theorem dX4_addRow_34 : decode cX4_addRow 34 = .ok (.getfield 241, 3) := by decide +kernel
theorem dX4_addRow_37 : decode cX4_addRow 37 = .ok (.lload 4, 2) := by decide +kernel
theorem dX4_addRow_39 : decode cX4_addRow 39 = .ok (.lcmp, 1) := by decide +kernel
theorem dX4_addRow_40 : decode cX4_addRow 40 = .ok (.ifCond .lt 7, 3) := by decide +kernel
theorem dX4_addRow_43 : decode cX4_addRow 43 = .ok (.iconst 1, 1) := by decide +kernel
theorem dX4_addRow_44 : decode cX4_addRow 44 = .ok (.goto 4, 3) := by decide +kernel
theorem dX4_addRow_47 : decode cX4_addRow 47 = .ok (.iconst 0, 1) := by decide +kernel
theorem dX4_addRow_48 : decode cX4_addRow 48 = .ok (.istore 6, 2) := by decide +kernel
theorem dX4_addRow_50 : decode cX4_addRow 50 = .ok (.iload 6, 2) := by decide +kernel
theorem dX4_addRow_52 : decode cX4_addRow 52 = .ok (.ifCond .eq 30, 3) := by decide +kernel
theorem dX4_addRow_55 : decode cX4_addRow 55 = .ok (.aload_n 0, 1) := by decide +kernel
theorem dX4_addRow_56 : decode cX4_addRow 56 = .ok (.getfield 202, 3) := by decide +kernel
theorem dX4_addRow_59 : decode cX4_addRow 59 = .ok (.invokestatic 261, 3) := by decide +kernel
theorem dX4_addRow_62 : decode cX4_addRow 62 = .ok (.ifCond .eq 20, 3) := by decide +kernel
theorem dX4_addRow_65 : decode cX4_addRow 65 = .ok (.aload_n 0, 1) := by decide +kernel
theorem dX4_addRow_66 : decode cX4_addRow 66 = .ok (.getfield 209, 3) := by decide +kernel
theorem dX4_addRow_69 : decode cX4_addRow 69 = .ok (.ifCond .ne 13, 3) := by decide +kernel
theorem dX4_addRow_72 : decode cX4_addRow 72 = .ok (.aload_n 0, 1) := by decide +kernel
theorem dX4_addRow_73 : decode cX4_addRow 73 = .ok (.getfield 206, 3) := by decide +kernel
theorem dX4_addRow_76 : decode cX4_addRow 76 = .ok (.invokestatic 261, 3) := by decide +kernel
theorem dX4_addRow_79 : decode cX4_addRow 79 = .ok (.ifCond .ne 12, 3) := by decide +kernel
theorem dX4_addRow_82 : decode cX4_addRow 82 = .ok (.aload_n 1, 1) := by decide +kernel
theorem dX4_addRow_83 : decode cX4_addRow 83 = .ok (.iconst 2, 1) := by decide +kernel
theorem dX4_addRow_84 : decode cX4_addRow 84 = .ok (.iload_n 2, 1) := by decide +kernel
theorem dX4_addRow_85 : decode cX4_addRow 85 = .ok (.invokevirtual 85, 3) := by decide +kernel
theorem dX4_addRow_88 : decode cX4_addRow 88 = .ok (.goto 19, 3) := by decide +kernel
theorem dX4_addRow_91 : decode cX4_addRow 91 = .ok (.aload_n 0, 1) := by decide +kernel
theorem dX4_addRow_92 : decode cX4_addRow 92 = .ok (.getfield 31, 3) := by decide +kernel
theorem dX4_addRow_95 : decode cX4_addRow 95 = .ok (.sipush 600, 3) := by decide +kernel
theorem dX4_addRow_98 : decode cX4_addRow 98 = .ok (.if_icmp .lt 9, 3) := by decide +kernel
theorem dX4_addRow_101 : decode cX4_addRow 101 = .ok (.aload_n 1, 1) := by decide +kernel
theorem dX4_addRow_102 : decode cX4_addRow 102 = .ok (.iconst 4, 1) := by decide +kernel
theorem dX4_addRow_103 : decode cX4_addRow 103 = .ok (.iload_n 2, 1) := by decide +kernel
theorem dX4_addRow_104 : decode cX4_addRow 104 = .ok (.invokevirtual 85, 3) := by decide +kernel
theorem dX4_addRow_107 : decode cX4_addRow 107 = .ok (.aload_n 1, 1) := by decide +kernel
theorem dX4_addRow_108 : decode cX4_addRow 108 = .ok (.invokevirtual 45, 3) := by decide +kernel
theorem dX4_addRow_111 : decode cX4_addRow 111 = .ok (.ifCond .ne 4, 3) := by decide +kernel
theorem dX4_addRow_114 : decode cX4_addRow 114 = .ok (.return_, 1) := by decide +kernel
theorem dX4_addRow_115 : decode cX4_addRow 115 = .ok (.aload_n 0, 1) := by decide +kernel
theorem dX4_addRow_116 : decode cX4_addRow 116 = .ok (.getfield 9, 3) := by decide +kernel
theorem dX4_addRow_119 : decode cX4_addRow 119 = .ok (.aload_n 0, 1) := by decide +kernel
theorem dX4_addRow_120 : decode cX4_addRow 120 = .ok (.getfield 31, 3) := by decide +kernel
theorem dX4_addRow_123 : decode cX4_addRow 123 = .ok (.aload_n 0, 1) := by decide +kernel
theorem dX4_addRow_124 : decode cX4_addRow 124 = .ok (.getfield 65, 3) := by decide +kernel
theorem dX4_addRow_127 : decode cX4_addRow 127 = .ok (.invokestatic 154, 3) := by decide +kernel
theorem dX4_addRow_130 : decode cX4_addRow 130 = .ok (.aload_n 0, 1) := by decide +kernel
theorem dX4_addRow_131 : decode cX4_addRow 131 = .ok (.getfield 24, 3) := by decide +kernel
theorem dX4_addRow_134 : decode cX4_addRow 134 = .ok (.aload_n 0, 1) := by decide +kernel
theorem dX4_addRow_135 : decode cX4_addRow 135 = .ok (.getfield 31, 3) := by decide +kernel
theorem dX4_addRow_138 : decode cX4_addRow 138 = .ok (.aload_n 0, 1) := by decide +kernel
theorem dX4_addRow_139 : decode cX4_addRow 139 = .ok (.getfield 241, 3) := by decide +kernel
theorem dX4_addRow_142 : decode cX4_addRow 142 = .ok (.invokestatic 264, 3) := by decide +kernel
theorem dX4_addRow_145 : decode cX4_addRow 145 = .ok (.aload_n 0, 1) := by decide +kernel
theorem dX4_addRow_146 : decode cX4_addRow 146 = .ok (.getfield 15, 3) := by decide +kernel
theorem dX4_addRow_149 : decode cX4_addRow 149 = .ok (.aload_n 0, 1) := by decide +kernel
theorem dX4_addRow_150 : decode cX4_addRow 150 = .ok (.getfield 31, 3) := by decide +kernel
theorem dX4_addRow_153 : decode cX4_addRow 153 = .ok (.aload_n 0, 1) := by decide +kernel
theorem dX4_addRow_154 : decode cX4_addRow 154 = .ok (.getfield 202, 3) := by decide +kernel
theorem dX4_addRow_157 : decode cX4_addRow 157 = .ok (.l2i, 1) := by decide +kernel
theorem dX4_addRow_158 : decode cX4_addRow 158 = .ok (.invokestatic 154, 3) := by decide +kernel
theorem dX4_addRow_161 : decode cX4_addRow 161 = .ok (.aload_n 0, 1) := by decide +kernel
theorem dX4_addRow_162 : decode cX4_addRow 162 = .ok (.getfield 18, 3) := by decide +kernel
theorem dX4_addRow_165 : decode cX4_addRow 165 = .ok (.aload_n 0, 1) := by decide +kernel
theorem dX4_addRow_166 : decode cX4_addRow 166 = .ok (.getfield 31, 3) := by decide +kernel
theorem dX4_addRow_169 : decode cX4_addRow 169 = .ok (.aload_n 0, 1) := by decide +kernel
theorem dX4_addRow_170 : decode cX4_addRow 170 = .ok (.getfield 206, 3) := by decide +kernel
theorem dX4_addRow_173 : decode cX4_addRow 173 = .ok (.l2i, 1) := by decide +kernel
theorem dX4_addRow_174 : decode cX4_addRow 174 = .ok (.invokestatic 154, 3) := by decide +kernel
theorem dX4_addRow_177 : decode cX4_addRow 177 = .ok (.aload_n 0, 1) := by decide +kernel
theorem dX4_addRow_178 : decode cX4_addRow 178 = .ok (.getfield 21, 3) := by decide +kernel
theorem dX4_addRow_181 : decode cX4_addRow 181 = .ok (.aload_n 0, 1) := by decide +kernel
theorem dX4_addRow_182 : decode cX4_addRow 182 = .ok (.getfield 31, 3) := by decide +kernel
theorem dX4_addRow_185 : decode cX4_addRow 185 = .ok (.iload_n 3, 1) := by decide +kernel
theorem dX4_addRow_186 : decode cX4_addRow 186 = .ok (.invokestatic 154, 3) := by decide +kernel
theorem dX4_addRow_189 : decode cX4_addRow 189 = .ok (.aload_n 0, 1) := by decide +kernel
theorem dX4_addRow_190 : decode cX4_addRow 190 = .ok (.dup, 1) := by decide +kernel
theorem dX4_addRow_191 : decode cX4_addRow 191 = .ok (.getfield 31, 3) := by decide +kernel
theorem dX4_addRow_194 : decode cX4_addRow 194 = .ok (.iconst 1, 1) := by decide +kernel
theorem dX4_addRow_195 : decode cX4_addRow 195 = .ok (.iadd, 1) := by decide +kernel
theorem dX4_addRow_196 : decode cX4_addRow 196 = .ok (.putfield 31, 3) := by decide +kernel
theorem dX4_addRow_199 : decode cX4_addRow 199 = .ok (.aload_n 0, 1) := by decide +kernel
theorem dX4_addRow_200 : decode cX4_addRow 200 = .ok (.iconst 1, 1) := by decide +kernel
theorem dX4_addRow_201 : decode cX4_addRow 201 = .ok (.putfield 195, 3) := by decide +kernel
theorem dX4_addRow_204 : decode cX4_addRow 204 = .ok (.return_, 1) := by decide +kernel
theorem dX4_isRegister_0 : decode cX4_isRegister 0 = .ok (.lload_n 0, 1) := by decide +kernel
theorem dX4_isRegister_1 : decode cX4_isRegister 1 = .ok (.lconst 0, 1) := by decide +kernel
theorem dX4_isRegister_2 : decode cX4_isRegister 2 = .ok (.lcmp, 1) := by decide +kernel
theorem dX4_isRegister_3 : decode cX4_isRegister 3 = .ok (.ifCond .lt 15, 3) := by decide +kernel
theorem dX4_isRegister_6 : decode cX4_isRegister 6 = .ok (.lload_n 0, 1) := by decide +kernel
theorem dX4_isRegister_7 : decode cX4_isRegister 7 = .ok (.ldc2_w 267, 3) := by decide +kernel
theorem dX4_isRegister_10 : decode cX4_isRegister 10 = .ok (.lcmp, 1) := by decide +kernel
theorem dX4_isRegister_11 : decode cX4_isRegister 11 = .ok (.ifCond .gt 7, 3) := by decide +kernel
theorem dX4_isRegister_14 : decode cX4_isRegister 14 = .ok (.iconst 1, 1) := by decide +kernel
theorem dX4_isRegister_15 : decode cX4_isRegister 15 = .ok (.goto 4, 3) := by decide +kernel
theorem dX4_isRegister_18 : decode cX4_isRegister 18 = .ok (.iconst 0, 1) := by decide +kernel
theorem dX4_isRegister_19 : decode cX4_isRegister 19 = .ok (.ireturn, 1) := by decide +kernel
theorem dX4_total_0 : decode cX4_total 0 = .ok (.aload_n 0, 1) := by decide +kernel
theorem dX4_total_1 : decode cX4_total 1 = .ok (.getfield 31, 3) := by decide +kernel
theorem dX4_total_4 : decode cX4_total 4 = .ok (.ireturn, 1) := by decide +kernel
theorem dX4_has_0 : decode cX4_has 0 = .ok (.iload_n 1, 1) := by decide +kernel
theorem dX4_has_1 : decode cX4_has 1 = .ok (.ifCond .lt 15, 3) := by decide +kernel
theorem dX4_has_4 : decode cX4_has 4 = .ok (.iload_n 1, 1) := by decide +kernel
theorem dX4_has_5 : decode cX4_has 5 = .ok (.aload_n 0, 1) := by decide +kernel
theorem dX4_has_6 : decode cX4_has 6 = .ok (.getfield 31, 3) := by decide +kernel
theorem dX4_has_9 : decode cX4_has 9 = .ok (.if_icmp .ge 7, 3) := by decide +kernel
theorem dX4_has_12 : decode cX4_has 12 = .ok (.iconst 1, 1) := by decide +kernel
theorem dX4_has_13 : decode cX4_has 13 = .ok (.goto 4, 3) := by decide +kernel
theorem dX4_has_16 : decode cX4_has 16 = .ok (.iconst 0, 1) := by decide +kernel
theorem dX4_has_17 : decode cX4_has 17 = .ok (.ireturn, 1) := by decide +kernel
theorem dX4_unitOf_0 : decode cX4_unitOf 0 = .ok (.aload_n 0, 1) := by decide +kernel
theorem dX4_unitOf_1 : decode cX4_unitOf 1 = .ok (.getfield 9, 3) := by decide +kernel
theorem dX4_unitOf_4 : decode cX4_unitOf 4 = .ok (.iload_n 1, 1) := by decide +kernel
theorem dX4_unitOf_5 : decode cX4_unitOf 5 = .ok (.invokestatic 150, 3) := by decide +kernel
theorem dX4_unitOf_8 : decode cX4_unitOf 8 = .ok (.ireturn, 1) := by decide +kernel
theorem dX4_fileOf_0 : decode cX4_fileOf 0 = .ok (.aload_n 0, 1) := by decide +kernel
theorem dX4_fileOf_1 : decode cX4_fileOf 1 = .ok (.getfield 15, 3) := by decide +kernel
theorem dX4_fileOf_4 : decode cX4_fileOf 4 = .ok (.iload_n 1, 1) := by decide +kernel
theorem dX4_fileOf_5 : decode cX4_fileOf 5 = .ok (.invokestatic 150, 3) := by decide +kernel
theorem dX4_fileOf_8 : decode cX4_fileOf 8 = .ok (.ireturn, 1) := by decide +kernel
theorem dX4_lineOf_0 : decode cX4_lineOf 0 = .ok (.aload_n 0, 1) := by decide +kernel
theorem dX4_lineOf_1 : decode cX4_lineOf 1 = .ok (.getfield 18, 3) := by decide +kernel
theorem dX4_lineOf_4 : decode cX4_lineOf 4 = .ok (.iload_n 1, 1) := by decide +kernel
theorem dX4_lineOf_5 : decode cX4_lineOf 5 = .ok (.invokestatic 150, 3) := by decide +kernel
theorem dX4_lineOf_8 : decode cX4_lineOf 8 = .ok (.ireturn, 1) := by decide +kernel
theorem dX4_endsAt_0 : decode cX4_endsAt 0 = .ok (.aload_n 0, 1) := by decide +kernel
theorem dX4_endsAt_1 : decode cX4_endsAt 1 = .ok (.getfield 21, 3) := by decide +kernel
theorem dX4_endsAt_4 : decode cX4_endsAt 4 = .ok (.iload_n 1, 1) := by decide +kernel
theorem dX4_endsAt_5 : decode cX4_endsAt 5 = .ok (.invokestatic 150, 3) := by decide +kernel
theorem dX4_endsAt_8 : decode cX4_endsAt 8 = .ok (.iconst 1, 1) := by decide +kernel
theorem dX4_endsAt_9 : decode cX4_endsAt 9 = .ok (.if_icmp .ne 7, 3) := by decide +kernel
theorem dX4_endsAt_12 : decode cX4_endsAt 12 = .ok (.iconst 1, 1) := by decide +kernel
theorem dX4_endsAt_13 : decode cX4_endsAt 13 = .ok (.goto 4, 3) := by decide +kernel
theorem dX4_endsAt_16 : decode cX4_endsAt 16 = .ok (.iconst 0, 1) := by decide +kernel
theorem dX4_endsAt_17 : decode cX4_endsAt 17 = .ok (.ireturn, 1) := by decide +kernel
theorem dX4_addressOf_0 : decode cX4_addressOf 0 = .ok (.aload_n 0, 1) := by decide +kernel
theorem dX4_addressOf_1 : decode cX4_addressOf 1 = .ok (.getfield 24, 3) := by decide +kernel
theorem dX4_addressOf_4 : decode cX4_addressOf 4 = .ok (.iload_n 1, 1) := by decide +kernel
theorem dX4_addressOf_5 : decode cX4_addressOf 5 = .ok (.invokestatic 258, 3) := by decide +kernel
theorem dX4_addressOf_8 : decode cX4_addressOf 8 = .ok (.lreturn, 1) := by decide +kernel
theorem dX4_governing_0 : decode cX4_governing 0 = .ok (.iconst 0, 1) := by decide +kernel
theorem dX4_governing_1 : decode cX4_governing 1 = .ok (.istore 4, 2) := by decide +kernel
theorem dX4_governing_3 : decode cX4_governing 3 = .ok (.iload 4, 2) := by decide +kernel
theorem dX4_governing_5 : decode cX4_governing 5 = .ok (.sipush 599, 3) := by decide +kernel
theorem dX4_governing_8 : decode cX4_governing 8 = .ok (.if_icmp .ge 78, 3) := by decide +kernel
theorem dX4_governing_11 : decode cX4_governing 11 = .ok (.iload 4, 2) := by decide +kernel
theorem dX4_governing_13 : decode cX4_governing 13 = .ok (.aload_n 0, 1) := by decide +kernel
theorem dX4_governing_14 : decode cX4_governing 14 = .ok (.getfield 31, 3) := by decide +kernel
theorem dX4_governing_17 : decode cX4_governing 17 = .ok (.iconst 1, 1) := by decide +kernel
theorem dX4_governing_18 : decode cX4_governing 18 = .ok (.isub, 1) := by decide +kernel
theorem dX4_governing_19 : decode cX4_governing 19 = .ok (.if_icmp .ge 67, 3) := by decide +kernel
theorem dX4_governing_22 : decode cX4_governing 22 = .ok (.aload_n 0, 1) := by decide +kernel
theorem dX4_governing_23 : decode cX4_governing 23 = .ok (.iload 4, 2) := by decide +kernel
theorem dX4_governing_25 : decode cX4_governing 25 = .ok (.invokevirtual 269, 3) := by decide +kernel
theorem dX4_governing_28 : decode cX4_governing 28 = .ok (.iload_n 1, 1) := by decide +kernel
theorem dX4_governing_29 : decode cX4_governing 29 = .ok (.if_icmp .ne 16, 3) := by decide +kernel
theorem dX4_governing_32 : decode cX4_governing 32 = .ok (.aload_n 0, 1) := by decide +kernel
theorem dX4_governing_33 : decode cX4_governing 33 = .ok (.iload 4, 2) := by decide +kernel
theorem dX4_governing_35 : decode cX4_governing 35 = .ok (.invokevirtual 272, 3) := by decide +kernel
theorem dX4_governing_38 : decode cX4_governing 38 = .ok (.ifCond .ne 7, 3) := by decide +kernel
theorem dX4_governing_41 : decode cX4_governing 41 = .ok (.iconst 1, 1) := by decide +kernel
theorem dX4_governing_42 : decode cX4_governing 42 = .ok (.goto 4, 3) := by decide +kernel
theorem dX4_governing_45 : decode cX4_governing 45 = .ok (.iconst 0, 1) := by decide +kernel
theorem dX4_governing_46 : decode cX4_governing 46 = .ok (.istore 5, 2) := by decide +kernel
theorem dX4_governing_48 : decode cX4_governing 48 = .ok (.iload 5, 2) := by decide +kernel
theorem dX4_governing_50 : decode cX4_governing 50 = .ok (.ifCond .eq 30, 3) := by decide +kernel
theorem dX4_governing_53 : decode cX4_governing 53 = .ok (.lload_n 2, 1) := by decide +kernel
theorem dX4_governing_54 : decode cX4_governing 54 = .ok (.aload_n 0, 1) := by decide +kernel
theorem dX4_governing_55 : decode cX4_governing 55 = .ok (.iload 4, 2) := by decide +kernel
theorem dX4_governing_57 : decode cX4_governing 57 = .ok (.invokevirtual 276, 3) := by decide +kernel
theorem dX4_governing_60 : decode cX4_governing 60 = .ok (.lcmp, 1) := by decide +kernel
theorem dX4_governing_61 : decode cX4_governing 61 = .ok (.ifCond .lt 19, 3) := by decide +kernel
theorem dX4_governing_64 : decode cX4_governing 64 = .ok (.lload_n 2, 1) := by decide +kernel
theorem dX4_governing_65 : decode cX4_governing 65 = .ok (.aload_n 0, 1) := by decide +kernel
theorem dX4_governing_66 : decode cX4_governing 66 = .ok (.iload 4, 2) := by decide +kernel
theorem dX4_governing_68 : decode cX4_governing 68 = .ok (.iconst 1, 1) := by decide +kernel
theorem dX4_governing_69 : decode cX4_governing 69 = .ok (.iadd, 1) := by decide +kernel
theorem dX4_governing_70 : decode cX4_governing 70 = .ok (.invokevirtual 276, 3) := by decide +kernel
theorem dX4_governing_73 : decode cX4_governing 73 = .ok (.lcmp, 1) := by decide +kernel
theorem dX4_governing_74 : decode cX4_governing 74 = .ok (.ifCond .ge 6, 3) := by decide +kernel
theorem dX4_governing_77 : decode cX4_governing 77 = .ok (.iload 4, 2) := by decide +kernel
theorem dX4_governing_79 : decode cX4_governing 79 = .ok (.ireturn, 1) := by decide +kernel
theorem dX4_governing_80 : decode cX4_governing 80 = .ok (.iinc 4 1, 3) := by decide +kernel
theorem dX4_governing_83 : decode cX4_governing 83 = .ok (.goto (-80), 3) := by decide +kernel
theorem dX4_governing_86 : decode cX4_governing 86 = .ok (.iconst (-1), 1) := by decide +kernel
theorem dX4_governing_87 : decode cX4_governing 87 = .ok (.ireturn, 1) := by decide +kernel
theorem dX5_init_0 : decode cX5_init 0 = .ok (.aload_n 0, 1) := by decide +kernel
theorem dX5_init_1 : decode cX5_init 1 = .ok (.invokespecial 3, 3) := by decide +kernel
theorem dX5_init_4 : decode cX5_init 4 = .ok (.aload_n 0, 1) := by decide +kernel
theorem dX5_init_5 : decode cX5_init 5 = .ok (.bipush 24, 2) := by decide +kernel
theorem dX5_init_7 : decode cX5_init 7 = .ok (.newarray .int, 2) := by decide +kernel
theorem dX5_init_9 : decode cX5_init 9 = .ok (.putfield 9, 3) := by decide +kernel
theorem dX5_init_12 : decode cX5_init 12 = .ok (.aload_n 0, 1) := by decide +kernel
theorem dX5_init_13 : decode cX5_init 13 = .ok (.iconst (-1), 1) := by decide +kernel
theorem dX5_init_14 : decode cX5_init 14 = .ok (.putfield 15, 3) := by decide +kernel
theorem dX5_init_17 : decode cX5_init 17 = .ok (.aload_n 0, 1) := by decide +kernel
theorem dX5_init_18 : decode cX5_init 18 = .ok (.iconst (-1), 1) := by decide +kernel
theorem dX5_init_19 : decode cX5_init 19 = .ok (.putfield 19, 3) := by decide +kernel
theorem dX5_init_22 : decode cX5_init 22 = .ok (.return_, 1) := by decide +kernel
theorem dX5_forget_0 : decode cX5_forget 0 = .ok (.aload_n 0, 1) := by decide +kernel
theorem dX5_forget_1 : decode cX5_forget 1 = .ok (.iconst 0, 1) := by decide +kernel
theorem dX5_forget_2 : decode cX5_forget 2 = .ok (.putfield 22, 3) := by decide +kernel
theorem dX5_forget_5 : decode cX5_forget 5 = .ok (.aload_n 0, 1) := by decide +kernel
theorem dX5_forget_6 : decode cX5_forget 6 = .ok (.iconst (-1), 1) := by decide +kernel
theorem dX5_forget_7 : decode cX5_forget 7 = .ok (.putfield 15, 3) := by decide +kernel
theorem dX5_forget_10 : decode cX5_forget 10 = .ok (.aload_n 0, 1) := by decide +kernel
theorem dX5_forget_11 : decode cX5_forget 11 = .ok (.iconst (-1), 1) := by decide +kernel
theorem dX5_forget_12 : decode cX5_forget 12 = .ok (.putfield 19, 3) := by decide +kernel
theorem dX5_forget_15 : decode cX5_forget 15 = .ok (.return_, 1) := by decide +kernel
theorem dX5_seek_0 : decode cX5_seek 0 = .ok (.aload_n 0, 1) := by decide +kernel
theorem dX5_seek_1 : decode cX5_seek 1 = .ok (.invokevirtual 25, 3) := by decide +kernel
theorem dX5_seek_4 : decode cX5_seek 4 = .ok (.aload_n 1, 1) := by decide +kernel
theorem dX5_seek_5 : decode cX5_seek 5 = .ok (.lload_n 2, 1) := by decide +kernel
theorem dX5_seek_6 : decode cX5_seek 6 = .ok (.invokevirtual 28, 3) := by decide +kernel
theorem dX5_seek_9 : decode cX5_seek 9 = .ok (.istore 4, 2) := by decide +kernel
theorem dX5_seek_11 : decode cX5_seek 11 = .ok (.iconst 0, 1) := by decide +kernel
theorem dX5_seek_12 : decode cX5_seek 12 = .ok (.istore 5, 2) := by decide +kernel
theorem dX5_seek_14 : decode cX5_seek 14 = .ok (.iload 5, 2) := by decide +kernel
theorem dX5_seek_16 : decode cX5_seek 16 = .ok (.bipush 24, 2) := by decide +kernel
theorem dX5_seek_18 : decode cX5_seek 18 = .ok (.if_icmp .ge 63, 3) := by decide +kernel
theorem dX5_seek_21 : decode cX5_seek 21 = .ok (.iload 4, 2) := by decide +kernel
theorem dX5_seek_23 : decode cX5_seek 23 = .ok (.iconst (-1), 1) := by decide +kernel
theorem dX5_seek_24 : decode cX5_seek 24 = .ok (.if_icmp .eq 57, 3) := by decide +kernel
theorem dX5_seek_27 : decode cX5_seek 27 = .ok (.aload_n 1, 1) := by decide +kernel
theorem dX5_seek_28 : decode cX5_seek 28 = .ok (.getfield 34, 3) := by decide +kernel
theorem dX5_seek_31 : decode cX5_seek 31 = .ok (.iload 4, 2) := by decide +kernel
theorem dX5_seek_33 : decode cX5_seek 33 = .ok (.invokevirtual 38, 3) := by decide +kernel
theorem dX5_seek_36 : decode cX5_seek 36 = .ok (.ldc2_w 44, 3) := by decide +kernel
theorem dX5_seek_39 : decode cX5_seek 39 = .ok (.lcmp, 1) := by decide +kernel
theorem dX5_seek_40 : decode cX5_seek 40 = .ok (.ifCond .eq 26, 3) := by decide +kernel
theorem dX5_seek_43 : decode cX5_seek 43 = .ok (.aload_n 0, 1) := by decide +kernel
theorem dX5_seek_44 : decode cX5_seek 44 = .ok (.getfield 9, 3) := by decide +kernel
theorem dX5_seek_47 : decode cX5_seek 47 = .ok (.aload_n 0, 1) := by decide +kernel
theorem dX5_seek_48 : decode cX5_seek 48 = .ok (.getfield 22, 3) := by decide +kernel
theorem dX5_seek_51 : decode cX5_seek 51 = .ok (.iload 4, 2) := by decide +kernel
theorem dX5_seek_53 : decode cX5_seek 53 = .ok (.invokestatic 46, 3) := by decide +kernel
theorem dX5_seek_56 : decode cX5_seek 56 = .ok (.aload_n 0, 1) := by decide +kernel
theorem dX5_seek_57 : decode cX5_seek 57 = .ok (.dup, 1) := by decide +kernel
theorem dX5_seek_58 : decode cX5_seek 58 = .ok (.getfield 22, 3) := by decide +kernel
theorem dX5_seek_61 : decode cX5_seek 61 = .ok (.iconst 1, 1) := by decide +kernel
theorem dX5_seek_62 : decode cX5_seek 62 = .ok (.iadd, 1) := by decide +kernel
theorem dX5_seek_63 : decode cX5_seek 63 = .ok (.putfield 22, 3) := by decide +kernel
theorem dX5_seek_66 : decode cX5_seek 66 = .ok (.aload_n 1, 1) := by decide +kernel
theorem dX5_seek_67 : decode cX5_seek 67 = .ok (.iload 4, 2) := by decide +kernel
theorem dX5_seek_69 : decode cX5_seek 69 = .ok (.lload_n 2, 1) := by decide +kernel
theorem dX5_seek_70 : decode cX5_seek 70 = .ok (.invokevirtual 50, 3) := by decide +kernel
theorem dX5_seek_73 : decode cX5_seek 73 = .ok (.istore 4, 2) := by decide +kernel
theorem dX5_seek_75 : decode cX5_seek 75 = .ok (.iinc 5 1, 3) := by decide +kernel
theorem dX5_seek_78 : decode cX5_seek 78 = .ok (.goto (-64), 3) := by decide +kernel
theorem dX5_seek_81 : decode cX5_seek 81 = .ok (.aload_n 0, 1) := by decide +kernel
theorem dX5_seek_82 : decode cX5_seek 82 = .ok (.getfield 22, 3) := by decide +kernel
theorem dX5_seek_85 : decode cX5_seek 85 = .ok (.ifCond .le 30, 3) := by decide +kernel
theorem dX5_seek_88 : decode cX5_seek 88 = .ok (.aload_n 0, 1) := by decide +kernel
theorem dX5_seek_89 : decode cX5_seek 89 = .ok (.aload_n 1, 1) := by decide +kernel
theorem dX5_seek_90 : decode cX5_seek 90 = .ok (.getfield 54, 3) := by decide +kernel
theorem dX5_seek_93 : decode cX5_seek 93 = .ok (.aload_n 1, 1) := by decide +kernel
theorem dX5_seek_94 : decode cX5_seek 94 = .ok (.getfield 34, 3) := by decide +kernel
theorem dX5_seek_97 : decode cX5_seek 97 = .ok (.aload_n 0, 1) := by decide +kernel
theorem dX5_seek_98 : decode cX5_seek 98 = .ok (.iconst 0, 1) := by decide +kernel
theorem dX5_seek_99 : decode cX5_seek 99 = .ok (.invokevirtual 58, 3) := by decide +kernel
theorem dX5_seek_102 : decode cX5_seek 102 = .ok (.invokevirtual 62, 3) := by decide +kernel
theorem dX5_seek_105 : decode cX5_seek 105 = .ok (.lload_n 2, 1) := by decide +kernel
theorem dX5_seek_106 : decode cX5_seek 106 = .ok (.invokevirtual 65, 3) := by decide +kernel
theorem dX5_seek_109 : decode cX5_seek 109 = .ok (.putfield 15, 3) := by decide +kernel
theorem dX5_seek_112 : decode cX5_seek 112 = .ok (.goto 12, 3) := by decide +kernel
theorem dX5_seek_115 : decode cX5_seek 115 = .ok (.aload_n 0, 1) := by decide +kernel
theorem dX5_seek_116 : decode cX5_seek 116 = .ok (.aload_n 1, 1) := by decide +kernel
theorem dX5_seek_117 : decode cX5_seek 117 = .ok (.getfield 69, 3) := by decide +kernel
theorem dX5_seek_120 : decode cX5_seek 120 = .ok (.lload_n 2, 1) := by decide +kernel
theorem dX5_seek_121 : decode cX5_seek 121 = .ok (.invokevirtual 73, 3) := by decide +kernel
theorem dX5_seek_124 : decode cX5_seek 124 = .ok (.aload_n 0, 1) := by decide +kernel
theorem dX5_seek_125 : decode cX5_seek 125 = .ok (.getfield 22, 3) := by decide +kernel
theorem dX5_seek_128 : decode cX5_seek 128 = .ok (.ireturn, 1) := by decide +kernel
theorem dX5_seekSymbol_0 : decode cX5_seekSymbol 0 = .ok (.aload_n 0, 1) := by decide +kernel
theorem dX5_seekSymbol_1 : decode cX5_seekSymbol 1 = .ok (.aload_n 1, 1) := by decide +kernel
theorem dX5_seekSymbol_2 : decode cX5_seekSymbol 2 = .ok (.lload_n 2, 1) := by decide +kernel
theorem dX5_seekSymbol_3 : decode cX5_seekSymbol 3 = .ok (.invokevirtual 77, 3) := by decide +kernel
theorem dX5_seekSymbol_6 : decode cX5_seekSymbol 6 = .ok (.putfield 19, 3) := by decide +kernel
theorem dX5_seekSymbol_9 : decode cX5_seekSymbol 9 = .ok (.aload_n 0, 1) := by decide +kernel
theorem dX5_seekSymbol_10 : decode cX5_seekSymbol 10 = .ok (.getfield 19, 3) := by decide +kernel
theorem dX5_seekSymbol_13 : decode cX5_seekSymbol 13 = .ok (.iconst (-1), 1) := by decide +kernel
theorem dX5_seekSymbol_14 : decode cX5_seekSymbol 14 = .ok (.if_icmp .eq 18, 3) := by decide +kernel
theorem dX5_seekSymbol_17 : decode cX5_seekSymbol 17 = .ok (.aload_n 0, 1) := by decide +kernel
theorem dX5_seekSymbol_18 : decode cX5_seekSymbol 18 = .ok (.lload_n 2, 1) := by decide +kernel
theorem dX5_seekSymbol_19 : decode cX5_seekSymbol 19 = .ok (.aload_n 1, 1) := by decide +kernel
theorem dX5_seekSymbol_20 : decode cX5_seekSymbol 20 = .ok (.aload_n 0, 1) := by decide +kernel
theorem dX5_seekSymbol_21 : decode cX5_seekSymbol 21 = .ok (.getfield 19, 3) := by decide +kernel
theorem dX5_seekSymbol_24 : decode cX5_seekSymbol 24 = .ok (.invokevirtual 82, 3) := by decide +kernel
theorem dX5_seekSymbol_27 : decode cX5_seekSymbol 27 = .ok (.lsub, 1) := by decide +kernel
theorem dX5_seekSymbol_28 : decode cX5_seekSymbol 28 = .ok (.l2i, 1) := by decide +kernel
theorem dX5_seekSymbol_29 : decode cX5_seekSymbol 29 = .ok (.putfield 85, 3) := by decide +kernel
theorem dX5_seekSymbol_32 : decode cX5_seekSymbol 32 = .ok (.return_, 1) := by decide +kernel
theorem dX5_entryOf_0 : decode cX5_entryOf 0 = .ok (.iload_n 1, 1) := by decide +kernel
theorem dX5_entryOf_1 : decode cX5_entryOf 1 = .ok (.ifCond .lt 29, 3) := by decide +kernel
theorem dX5_entryOf_4 : decode cX5_entryOf 4 = .ok (.iload_n 1, 1) := by decide +kernel
theorem dX5_entryOf_5 : decode cX5_entryOf 5 = .ok (.aload_n 0, 1) := by decide +kernel
theorem dX5_entryOf_6 : decode cX5_entryOf 6 = .ok (.getfield 22, 3) := by decide +kernel
theorem dX5_entryOf_9 : decode cX5_entryOf 9 = .ok (.if_icmp .ge 21, 3) := by decide +kernel
theorem dX5_entryOf_12 : decode cX5_entryOf 12 = .ok (.aload_n 0, 1) := by decide +kernel
theorem dX5_entryOf_13 : decode cX5_entryOf 13 = .ok (.getfield 9, 3) := by decide +kernel
theorem dX5_entryOf_16 : decode cX5_entryOf 16 = .ok (.aload_n 0, 1) := by decide +kernel
theorem dX5_entryOf_17 : decode cX5_entryOf 17 = .ok (.getfield 22, 3) := by decide +kernel
theorem dX5_entryOf_20 : decode cX5_entryOf 20 = .ok (.iconst 1, 1) := by decide +kernel
theorem dX5_entryOf_21 : decode cX5_entryOf 21 = .ok (.isub, 1) := by decide +kernel
theorem dX5_entryOf_22 : decode cX5_entryOf 22 = .ok (.iload_n 1, 1) := by decide +kernel
theorem dX5_entryOf_23 : decode cX5_entryOf 23 = .ok (.isub, 1) := by decide +kernel
theorem dX5_entryOf_24 : decode cX5_entryOf 24 = .ok (.invokestatic 88, 3) := by decide +kernel
theorem dX5_entryOf_27 : decode cX5_entryOf 27 = .ok (.goto 4, 3) := by decide +kernel
theorem dX5_entryOf_30 : decode cX5_entryOf 30 = .ok (.iconst (-1), 1) := by decide +kernel
theorem dX5_entryOf_31 : decode cX5_entryOf 31 = .ok (.ireturn, 1) := by decide +kernel
theorem dX5_fileNumberOf_0 : decode cX5_fileNumberOf 0 = .ok (.iload_n 2, 1) := by decide +kernel
theorem dX5_fileNumberOf_1 : decode cX5_fileNumberOf 1 = .ok (.ifCond .le 22, 3) := by decide +kernel
theorem dX5_fileNumberOf_4 : decode cX5_fileNumberOf 4 = .ok (.aload_n 1, 1) := by decide +kernel
theorem dX5_fileNumberOf_5 : decode cX5_fileNumberOf 5 = .ok (.getfield 34, 3) := by decide +kernel
theorem dX5_fileNumberOf_8 : decode cX5_fileNumberOf 8 = .ok (.aload_n 0, 1) := by decide +kernel
theorem dX5_fileNumberOf_9 : decode cX5_fileNumberOf 9 = .ok (.iload_n 2, 1) := by decide +kernel
theorem dX5_fileNumberOf_10 : decode cX5_fileNumberOf 10 = .ok (.iconst 1, 1) := by decide +kernel
theorem dX5_fileNumberOf_11 : decode cX5_fileNumberOf 11 = .ok (.isub, 1) := by decide +kernel
theorem dX5_fileNumberOf_12 : decode cX5_fileNumberOf 12 = .ok (.invokevirtual 58, 3) := by decide +kernel
theorem dX5_fileNumberOf_15 : decode cX5_fileNumberOf 15 = .ok (.bipush 7, 2) := by decide +kernel
theorem dX5_fileNumberOf_17 : decode cX5_fileNumberOf 17 = .ok (.lconst 0, 1) := by decide +kernel
theorem dX5_fileNumberOf_18 : decode cX5_fileNumberOf 18 = .ok (.invokevirtual 92, 3) := by decide +kernel
theorem dX5_fileNumberOf_21 : decode cX5_fileNumberOf 21 = .ok (.l2i, 1) := by decide +kernel
theorem dX5_fileNumberOf_22 : decode cX5_fileNumberOf 22 = .ok (.ireturn, 1) := by decide +kernel
theorem dX5_fileNumberOf_23 : decode cX5_fileNumberOf 23 = .ok (.aload_n 0, 1) := by decide +kernel
theorem dX5_fileNumberOf_24 : decode cX5_fileNumberOf 24 = .ok (.getfield 15, 3) := by decide +kernel
theorem dX5_fileNumberOf_27 : decode cX5_fileNumberOf 27 = .ok (.iconst (-1), 1) := by decide +kernel
theorem dX5_fileNumberOf_28 : decode cX5_fileNumberOf 28 = .ok (.if_icmp .ne 7, 3) := by decide +kernel
theorem dX5_fileNumberOf_31 : decode cX5_fileNumberOf 31 = .ok (.iconst 0, 1) := by decide +kernel
theorem dX5_fileNumberOf_32 : decode cX5_fileNumberOf 32 = .ok (.goto 14, 3) := by decide +kernel
theorem dX5_fileNumberOf_35 : decode cX5_fileNumberOf 35 = .ok (.aload_n 1, 1) := by decide +kernel
theorem dX5_fileNumberOf_36 : decode cX5_fileNumberOf 36 = .ok (.getfield 54, 3) := by decide +kernel
theorem dX5_fileNumberOf_39 : decode cX5_fileNumberOf 39 = .ok (.aload_n 0, 1) := by decide +kernel
theorem dX5_fileNumberOf_40 : decode cX5_fileNumberOf 40 = .ok (.getfield 15, 3) := by decide +kernel
theorem dX5_fileNumberOf_43 : decode cX5_fileNumberOf 43 = .ok (.invokevirtual 96, 3) := by decide +kernel
theorem dX5_fileNumberOf_46 : decode cX5_fileNumberOf 46 = .ok (.ireturn, 1) := by decide +kernel
theorem dX5_lineNumberOf_0 : decode cX5_lineNumberOf 0 = .ok (.iload_n 2, 1) := by decide +kernel
theorem dX5_lineNumberOf_1 : decode cX5_lineNumberOf 1 = .ok (.ifCond .le 22, 3) := by decide +kernel
theorem dX5_lineNumberOf_4 : decode cX5_lineNumberOf 4 = .ok (.aload_n 1, 1) := by decide +kernel
theorem dX5_lineNumberOf_5 : decode cX5_lineNumberOf 5 = .ok (.getfield 34, 3) := by decide +kernel
theorem dX5_lineNumberOf_8 : decode cX5_lineNumberOf 8 = .ok (.aload_n 0, 1) := by decide +kernel
theorem dX5_lineNumberOf_9 : decode cX5_lineNumberOf 9 = .ok (.iload_n 2, 1) := by decide +kernel
theorem dX5_lineNumberOf_10 : decode cX5_lineNumberOf 10 = .ok (.iconst 1, 1) := by decide +kernel
theorem dX5_lineNumberOf_11 : decode cX5_lineNumberOf 11 = .ok (.isub, 1) := by decide +kernel
theorem dX5_lineNumberOf_12 : decode cX5_lineNumberOf 12 = .ok (.invokevirtual 58, 3) := by decide +kernel
theorem dX5_lineNumberOf_15 : decode cX5_lineNumberOf 15 = .ok (.bipush 8, 2) := by decide +kernel
theorem dX5_lineNumberOf_17 : decode cX5_lineNumberOf 17 = .ok (.lconst 0, 1) := by decide +kernel
theorem dX5_lineNumberOf_18 : decode cX5_lineNumberOf 18 = .ok (.invokevirtual 92, 3) := by decide +kernel
theorem dX5_lineNumberOf_21 : decode cX5_lineNumberOf 21 = .ok (.l2i, 1) := by decide +kernel
theorem dX5_lineNumberOf_22 : decode cX5_lineNumberOf 22 = .ok (.ireturn, 1) := by decide +kernel
theorem dX5_lineNumberOf_23 : decode cX5_lineNumberOf 23 = .ok (.aload_n 0, 1) := by decide +kernel
theorem dX5_lineNumberOf_24 : decode cX5_lineNumberOf 24 = .ok (.getfield 15, 3) := by decide +kernel
theorem dX5_lineNumberOf_27 : decode cX5_lineNumberOf 27 = .ok (.iconst (-1), 1) := by decide +kernel
theorem dX5_lineNumberOf_28 : decode cX5_lineNumberOf 28 = .ok (.if_icmp .ne 7, 3) := by decide +kernel
theorem dX5_lineNumberOf_31 : decode cX5_lineNumberOf 31 = .ok (.iconst 0, 1) := by decide +kernel
theorem dX5_lineNumberOf_32 : decode cX5_lineNumberOf 32 = .ok (.goto 14, 3) := by decide +kernel
theorem dX5_lineNumberOf_35 : decode cX5_lineNumberOf 35 = .ok (.aload_n 1, 1) := by decide +kernel
theorem dX5_lineNumberOf_36 : decode cX5_lineNumberOf 36 = .ok (.getfield 54, 3) := by decide +kernel
theorem dX5_lineNumberOf_39 : decode cX5_lineNumberOf 39 = .ok (.aload_n 0, 1) := by decide +kernel
theorem dX5_lineNumberOf_40 : decode cX5_lineNumberOf 40 = .ok (.getfield 15, 3) := by decide +kernel
theorem dX5_lineNumberOf_43 : decode cX5_lineNumberOf 43 = .ok (.invokevirtual 99, 3) := by decide +kernel
theorem dX5_lineNumberOf_46 : decode cX5_lineNumberOf 46 = .ok (.ireturn, 1) := by decide +kernel
theorem dX5_fileOf_0 : decode cX5_fileOf 0 = .ok (.aload_n 0, 1) := by decide +kernel
theorem dX5_fileOf_1 : decode cX5_fileOf 1 = .ok (.iload_n 2, 1) := by decide +kernel
theorem dX5_fileOf_2 : decode cX5_fileOf 2 = .ok (.invokevirtual 58, 3) := by decide +kernel
theorem dX5_fileOf_5 : decode cX5_fileOf 5 = .ok (.istore_n 3, 1) := by decide +kernel
theorem dX5_fileOf_6 : decode cX5_fileOf 6 = .ok (.iload_n 3, 1) := by decide +kernel
theorem dX5_fileOf_7 : decode cX5_fileOf 7 = .ok (.iconst (-1), 1) := by decide +kernel
theorem dX5_fileOf_8 : decode cX5_fileOf 8 = .ok (.if_icmp .ne 5, 3) := by decide +kernel
theorem dX5_fileOf_11 : decode cX5_fileOf 11 = .ok (.iconst (-1), 1) := by decide +kernel
theorem dX5_fileOf_12 : decode cX5_fileOf 12 = .ok (.ireturn, 1) := by decide +kernel
theorem dX5_fileOf_13 : decode cX5_fileOf 13 = .ok (.aload_n 1, 1) := by decide +kernel
theorem dX5_fileOf_14 : decode cX5_fileOf 14 = .ok (.getfield 102, 3) := by decide +kernel
theorem dX5_fileOf_17 : decode cX5_fileOf 17 = .ok (.aload_n 1, 1) := by decide +kernel
theorem dX5_fileOf_18 : decode cX5_fileOf 18 = .ok (.getfield 34, 3) := by decide +kernel
theorem dX5_fileOf_21 : decode cX5_fileOf 21 = .ok (.iload_n 3, 1) := by decide +kernel
theorem dX5_fileOf_22 : decode cX5_fileOf 22 = .ok (.invokevirtual 62, 3) := by decide +kernel
theorem dX5_fileOf_25 : decode cX5_fileOf 25 = .ok (.aload_n 0, 1) := by decide +kernel
theorem dX5_fileOf_26 : decode cX5_fileOf 26 = .ok (.aload_n 1, 1) := by decide +kernel
theorem dX5_fileOf_27 : decode cX5_fileOf 27 = .ok (.iload_n 2, 1) := by decide +kernel
theorem dX5_fileOf_28 : decode cX5_fileOf 28 = .ok (.invokevirtual 106, 3) := by decide +kernel
theorem dX5_fileOf_31 : decode cX5_fileOf 31 = .ok (.invokevirtual 110, 3) := by decide +kernel
theorem dX5_fileOf_34 : decode cX5_fileOf 34 = .ok (.ireturn, 1) := by decide +kernel
theorem dX5_symbolFound_0 : decode cX5_symbolFound 0 = .ok (.aload_n 0, 1) := by decide +kernel
theorem dX5_symbolFound_1 : decode cX5_symbolFound 1 = .ok (.getfield 19, 3) := by decide +kernel
theorem dX5_symbolFound_4 : decode cX5_symbolFound 4 = .ok (.ireturn, 1) := by decide +kernel
theorem dX5_aboveSymbol_0 : decode cX5_aboveSymbol 0 = .ok (.aload_n 0, 1) := by decide +kernel
theorem dX5_aboveSymbol_1 : decode cX5_aboveSymbol 1 = .ok (.getfield 85, 3) := by decide +kernel
theorem dX5_aboveSymbol_4 : decode cX5_aboveSymbol 4 = .ok (.ireturn, 1) := by decide +kernel
theorem dX6_init_0 : decode cX6_init 0 = .ok (.aload_n 0, 1) := by decide +kernel
theorem dX6_init_1 : decode cX6_init 1 = .ok (.invokespecial 3, 3) := by decide +kernel
theorem dX6_init_4 : decode cX6_init 4 = .ok (.aload_n 0, 1) := by decide +kernel
theorem dX6_init_5 : decode cX6_init 5 = .ok (.sipush 200, 3) := by decide +kernel
theorem dX6_init_8 : decode cX6_init 8 = .ok (.newarray .long, 2) := by decide +kernel
theorem dX6_init_10 : decode cX6_init 10 = .ok (.putfield 9, 3) := by decide +kernel
theorem dX6_init_13 : decode cX6_init 13 = .ok (.aload_n 0, 1) := by decide +kernel
theorem dX6_init_14 : decode cX6_init 14 = .ok (.sipush 200, 3) := by decide +kernel
theorem dX6_init_17 : decode cX6_init 17 = .ok (.newarray .long, 2) := by decide +kernel
theorem dX6_init_19 : decode cX6_init 19 = .ok (.putfield 15, 3) := by decide +kernel
theorem dX6_init_22 : decode cX6_init 22 = .ok (.return_, 1) := by decide +kernel
theorem dX6_readAll_0 : decode cX6_readAll 0 = .ok (.aload_n 0, 1) := by decide +kernel
theorem dX6_readAll_1 : decode cX6_readAll 1 = .ok (.iconst 0, 1) := by decide +kernel
theorem dX6_readAll_2 : decode cX6_readAll 2 = .ok (.putfield 18, 3) := by decide +kernel
theorem dX6_readAll_5 : decode cX6_readAll 5 = .ok (.aload_n 3, 1) := by decide +kernel
theorem dX6_readAll_6 : decode cX6_readAll 6 = .ok (.getfield 22, 3) := by decide +kernel
theorem dX6_readAll_9 : decode cX6_readAll 9 = .ok (.astore 4, 2) := by decide +kernel
theorem dX6_readAll_11 : decode cX6_readAll 11 = .ok (.iconst 0, 1) := by decide +kernel
theorem dX6_readAll_12 : decode cX6_readAll 12 = .ok (.istore 5, 2) := by decide +kernel
theorem dX6_readAll_14 : decode cX6_readAll 14 = .ok (.iload 5, 2) := by decide +kernel
theorem dX6_readAll_16 : decode cX6_readAll 16 = .ok (.sipush 400, 3) := by decide +kernel
theorem dX6_readAll_19 : decode cX6_readAll 19 = .ok (.if_icmp .ge 222, 3) := by decide +kernel
theorem dX6_readAll_22 : decode cX6_readAll 22 = .ok (.iload 5, 2) := by decide +kernel
theorem dX6_readAll_24 : decode cX6_readAll 24 = .ok (.aload 4, 2) := by decide +kernel
theorem dX6_readAll_26 : decode cX6_readAll 26 = .ok (.invokevirtual 28, 3) := by decide +kernel
theorem dX6_readAll_29 : decode cX6_readAll 29 = .ok (.if_icmp .ge 212, 3) := by decide +kernel
theorem dX6_readAll_32 : decode cX6_readAll 32 = .ok (.aload_n 1, 1) := by decide +kernel
theorem dX6_readAll_33 : decode cX6_readAll 33 = .ok (.invokevirtual 33, 3) := by decide +kernel
theorem dX6_readAll_36 : decode cX6_readAll 36 = .ok (.ifCond .eq 205, 3) := by decide +kernel
theorem dX6_readAll_39 : decode cX6_readAll 39 = .ok (.aload_n 0, 1) := by decide +kernel
theorem dX6_readAll_40 : decode cX6_readAll 40 = .ok (.getfield 18, 3) := by decide +kernel
theorem dX6_readAll_43 : decode cX6_readAll 43 = .ok (.istore 6, 2) := by decide +kernel
theorem dX6_readAll_45 : decode cX6_readAll 45 = .ok (.aload 4, 2) := by decide +kernel
theorem dX6_readAll_47 : decode cX6_readAll 47 = .ok (.iload 5, 2) := by decide +kernel
theorem dX6_readAll_49 : decode cX6_readAll 49 = .ok (.iconst 1, 1) := by decide +kernel
theorem dX6_readAll_50 : decode cX6_readAll 50 = .ok (.lconst 0, 1) := by decide +kernel
theorem dX6_readAll_51 : decode cX6_readAll 51 = .ok (.invokevirtual 39, 3) := by decide +kernel
theorem dX6_readAll_54 : decode cX6_readAll 54 = .ok (.lstore 7, 2) := by decide +kernel
theorem dX6_readAll_56 : decode cX6_readAll 56 = .ok (.aload 4, 2) := by decide +kernel
theorem dX6_readAll_58 : decode cX6_readAll 58 = .ok (.iload 5, 2) := by decide +kernel
theorem dX6_readAll_60 : decode cX6_readAll 60 = .ok (.iconst 1, 1) := by decide +kernel
theorem dX6_readAll_61 : decode cX6_readAll 61 = .ok (.invokevirtual 43, 3) := by decide +kernel
theorem dX6_readAll_64 : decode cX6_readAll 64 = .ok (.ifCond .eq 40, 3) := by decide +kernel
theorem dX6_readAll_67 : decode cX6_readAll 67 = .ok (.aload 4, 2) := by decide +kernel
theorem dX6_readAll_69 : decode cX6_readAll 69 = .ok (.iload 5, 2) := by decide +kernel
theorem dX6_readAll_71 : decode cX6_readAll 71 = .ok (.iconst 2, 1) := by decide +kernel
theorem dX6_readAll_72 : decode cX6_readAll 72 = .ok (.invokevirtual 43, 3) := by decide +kernel
theorem dX6_readAll_75 : decode cX6_readAll 75 = .ok (.ifCond .eq 29, 3) := by decide +kernel
theorem dX6_readAll_78 : decode cX6_readAll 78 = .ok (.aload_n 0, 1) := by decide +kernel
theorem dX6_readAll_79 : decode cX6_readAll 79 = .ok (.aload_n 1, 1) := by decide +kernel
theorem dX6_readAll_80 : decode cX6_readAll 80 = .ok (.lload 7, 2) := by decide +kernel
theorem dX6_readAll_82 : decode cX6_readAll 82 = .ok (.aload 4, 2) := by decide +kernel
theorem dX6_readAll_84 : decode cX6_readAll 84 = .ok (.iload 5, 2) := by decide +kernel
theorem dX6_readAll_86 : decode cX6_readAll 86 = .ok (.iconst 2, 1) := by decide +kernel
theorem dX6_readAll_87 : decode cX6_readAll 87 = .ok (.lconst 0, 1) := by decide +kernel
theorem dX6_readAll_88 : decode cX6_readAll 88 = .ok (.invokevirtual 39, 3) := by decide +kernel
theorem dX6_readAll_91 : decode cX6_readAll 91 = .ok (.aload 4, 2) := by decide +kernel
theorem dX6_readAll_93 : decode cX6_readAll 93 = .ok (.iload 5, 2) := by decide +kernel
theorem dX6_readAll_95 : decode cX6_readAll 95 = .ok (.invokevirtual 47, 3) := by decide +kernel
theorem dX6_readAll_98 : decode cX6_readAll 98 = .ok (.invokevirtual 51, 3) := by decide +kernel
theorem dX6_readAll_101 : decode cX6_readAll 101 = .ok (.goto 118, 3) := by decide +kernel
theorem dX6_readAll_104 : decode cX6_readAll 104 = .ok (.aload 4, 2) := by decide +kernel
theorem dX6_readAll_106 : decode cX6_readAll 106 = .ok (.iload 5, 2) := by decide +kernel
theorem dX6_readAll_108 : decode cX6_readAll 108 = .ok (.iconst 1, 1) := by decide +kernel
theorem dX6_readAll_109 : decode cX6_readAll 109 = .ok (.invokevirtual 43, 3) := by decide +kernel
theorem dX6_readAll_112 : decode cX6_readAll 112 = .ok (.ifCond .eq 49, 3) := by decide +kernel
theorem dX6_readAll_115 : decode cX6_readAll 115 = .ok (.aload 4, 2) := by decide +kernel
theorem dX6_readAll_117 : decode cX6_readAll 117 = .ok (.iload 5, 2) := by decide +kernel
theorem dX6_readAll_119 : decode cX6_readAll 119 = .ok (.iconst 3, 1) := by decide +kernel
theorem dX6_readAll_120 : decode cX6_readAll 120 = .ok (.invokevirtual 43, 3) := by decide +kernel
theorem dX6_readAll_123 : decode cX6_readAll 123 = .ok (.ifCond .eq 38, 3) := by decide +kernel
theorem dX6_readAll_126 : decode cX6_readAll 126 = .ok (.aload 4, 2) := by decide +kernel
theorem dX6_readAll_128 : decode cX6_readAll 128 = .ok (.iload 5, 2) := by decide +kernel
theorem dX6_readAll_130 : decode cX6_readAll 130 = .ok (.iconst 3, 1) := by decide +kernel
theorem dX6_readAll_131 : decode cX6_readAll 131 = .ok (.lconst 0, 1) := by decide +kernel
theorem dX6_readAll_132 : decode cX6_readAll 132 = .ok (.invokevirtual 39, 3) := by decide +kernel
theorem dX6_readAll_135 : decode cX6_readAll 135 = .ok (.lstore 9, 2) := by decide +kernel
theorem dX6_readAll_137 : decode cX6_readAll 137 = .ok (.aload_n 0, 1) := by decide +kernel
theorem dX6_readAll_138 : decode cX6_readAll 138 = .ok (.aload_n 1, 1) := by decide +kernel
theorem dX6_readAll_139 : decode cX6_readAll 139 = .ok (.lload 7, 2) := by decide +kernel
theorem dX6_readAll_141 : decode cX6_readAll 141 = .ok (.lload 7, 2) := by decide +kernel
theorem dX6_readAll_143 : decode cX6_readAll 143 = .ok (.lload 9, 2) := by decide +kernel
theorem dX6_readAll_145 : decode cX6_readAll 145 = .ok (.invokestatic 55, 3) := by decide +kernel
theorem dX6_readAll_148 : decode cX6_readAll 148 = .ok (.aload 4, 2) := by decide +kernel
theorem dX6_readAll_150 : decode cX6_readAll 150 = .ok (.iload 5, 2) := by decide +kernel
theorem dX6_readAll_152 : decode cX6_readAll 152 = .ok (.invokevirtual 47, 3) := by decide +kernel
theorem dX6_readAll_155 : decode cX6_readAll 155 = .ok (.invokevirtual 51, 3) := by decide +kernel
theorem dX6_readAll_158 : decode cX6_readAll 158 = .ok (.goto 61, 3) := by decide +kernel
theorem dX6_readAll_161 : decode cX6_readAll 161 = .ok (.aload 4, 2) := by decide +kernel
theorem dX6_readAll_163 : decode cX6_readAll 163 = .ok (.iload 5, 2) := by decide +kernel
theorem dX6_readAll_165 : decode cX6_readAll 165 = .ok (.iconst 4, 1) := by decide +kernel
theorem dX6_readAll_166 : decode cX6_readAll 166 = .ok (.invokevirtual 43, 3) := by decide +kernel
theorem dX6_readAll_169 : decode cX6_readAll 169 = .ok (.ifCond .eq 50, 3) := by decide +kernel
theorem dX6_readAll_172 : decode cX6_readAll 172 = .ok (.aload_n 0, 1) := by decide +kernel
theorem dX6_readAll_173 : decode cX6_readAll 173 = .ok (.aload 4, 2) := by decide +kernel
theorem dX6_readAll_175 : decode cX6_readAll 175 = .ok (.aload_n 3, 1) := by decide +kernel
theorem dX6_readAll_176 : decode cX6_readAll 176 = .ok (.getfield 59, 3) := by decide +kernel
theorem dX6_readAll_179 : decode cX6_readAll 179 = .ok (.aload 4, 2) := by decide +kernel
theorem dX6_readAll_181 : decode cX6_readAll 181 = .ok (.iload 5, 2) := by decide +kernel
theorem dX6_readAll_183 : decode cX6_readAll 183 = .ok (.invokevirtual 63, 3) := by decide +kernel
theorem dX6_readAll_186 : decode cX6_readAll 186 = .ok (.invokevirtual 66, 3) := by decide +kernel
theorem dX6_readAll_189 : decode cX6_readAll 189 = .ok (.iconst 1, 1) := by decide +kernel
theorem dX6_readAll_190 : decode cX6_readAll 190 = .ok (.lconst 0, 1) := by decide +kernel
theorem dX6_readAll_191 : decode cX6_readAll 191 = .ok (.invokevirtual 39, 3) := by decide +kernel
theorem dX6_readAll_194 : decode cX6_readAll 194 = .ok (.putfield 71, 3) := by decide +kernel
theorem dX6_readAll_197 : decode cX6_readAll 197 = .ok (.aload_n 0, 1) := by decide +kernel
theorem dX6_readAll_198 : decode cX6_readAll 198 = .ok (.aload_n 1, 1) := by decide +kernel
theorem dX6_readAll_199 : decode cX6_readAll 199 = .ok (.aload_n 2, 1) := by decide +kernel
theorem dX6_readAll_200 : decode cX6_readAll 200 = .ok (.aload 4, 2) := by decide +kernel
theorem dX6_readAll_202 : decode cX6_readAll 202 = .ok (.iload 5, 2) := by decide +kernel
theorem dX6_readAll_204 : decode cX6_readAll 204 = .ok (.iconst 4, 1) := by decide +kernel
theorem dX6_readAll_205 : decode cX6_readAll 205 = .ok (.lconst 0, 1) := by decide +kernel
theorem dX6_readAll_206 : decode cX6_readAll 206 = .ok (.invokevirtual 39, 3) := by decide +kernel
theorem dX6_readAll_209 : decode cX6_readAll 209 = .ok (.aload 4, 2) := by decide +kernel
theorem dX6_readAll_211 : decode cX6_readAll 211 = .ok (.iload 5, 2) := by decide +kernel
theorem dX6_readAll_213 : decode cX6_readAll 213 = .ok (.invokevirtual 47, 3) := by decide +kernel
theorem dX6_readAll_216 : decode cX6_readAll 216 = .ok (.invokevirtual 75, 3) := by decide +kernel
theorem dX6_readAll_219 : decode cX6_readAll 219 = .ok (.aload 4, 2) := by decide +kernel
theorem dX6_readAll_221 : decode cX6_readAll 221 = .ok (.iload 5, 2) := by decide +kernel
theorem dX6_readAll_223 : decode cX6_readAll 223 = .ok (.iload 6, 2) := by decide +kernel
theorem dX6_readAll_225 : decode cX6_readAll 225 = .ok (.aload_n 0, 1) := by decide +kernel
theorem dX6_readAll_226 : decode cX6_readAll 226 = .ok (.getfield 18, 3) := by decide +kernel
theorem dX6_readAll_229 : decode cX6_readAll 229 = .ok (.iload 6, 2) := by decide +kernel
theorem dX6_readAll_231 : decode cX6_readAll 231 = .ok (.isub, 1) := by decide +kernel
theorem dX6_readAll_232 : decode cX6_readAll 232 = .ok (.invokevirtual 79, 3) := by decide +kernel
theorem dX6_readAll_235 : decode cX6_readAll 235 = .ok (.iinc 5 1, 3) := by decide +kernel
theorem dX6_readAll_238 : decode cX6_readAll 238 = .ok (.goto (-224), 3) := by decide +kernel
theorem dX6_readAll_241 : decode cX6_readAll 241 = .ok (.return_, 1) := by decide +kernel
theorem dX6_readList_0 : decode cX6_readList 0 = .ok (.aload_n 2, 1) := by decide +kernel
theorem dX6_readList_1 : decode cX6_readList 1 = .ok (.bipush 6, 2) := by decide +kernel
theorem dX6_readList_3 : decode cX6_readList 3 = .ok (.lload_n 3, 1) := by decide +kernel
theorem dX6_readList_4 : decode cX6_readList 4 = .ok (.invokevirtual 83, 3) := by decide +kernel
theorem dX6_readList_7 : decode cX6_readList 7 = .ok (.ifCond .ne 11, 3) := by decide +kernel
theorem dX6_readList_10 : decode cX6_readList 10 = .ok (.aload_n 1, 1) := by decide +kernel
theorem dX6_readList_11 : decode cX6_readList 11 = .ok (.iconst 3, 1) := by decide +kernel
theorem dX6_readList_12 : decode cX6_readList 12 = .ok (.iload 5, 2) := by decide +kernel
theorem dX6_readList_14 : decode cX6_readList 14 = .ok (.invokevirtual 89, 3) := by decide +kernel
theorem dX6_readList_17 : decode cX6_readList 17 = .ok (.return_, 1) := by decide +kernel
theorem dX6_readList_18 : decode cX6_readList 18 = .ok (.aload_n 1, 1) := by decide +kernel
theorem dX6_readList_19 : decode cX6_readList 19 = .ok (.aload_n 2, 1) := by decide +kernel
theorem dX6_readList_20 : decode cX6_readList 20 = .ok (.bipush 6, 2) := by decide +kernel
theorem dX6_readList_22 : decode cX6_readList 22 = .ok (.invokevirtual 93, 3) := by decide +kernel
theorem dX6_readList_25 : decode cX6_readList 25 = .ok (.lload_n 3, 1) := by decide +kernel
theorem dX6_readList_26 : decode cX6_readList 26 = .ok (.l2i, 1) := by decide +kernel
theorem dX6_readList_27 : decode cX6_readList 27 = .ok (.iadd, 1) := by decide +kernel
theorem dX6_readList_28 : decode cX6_readList 28 = .ok (.aload_n 2, 1) := by decide +kernel
theorem dX6_readList_29 : decode cX6_readList 29 = .ok (.bipush 6, 2) := by decide +kernel
theorem dX6_readList_31 : decode cX6_readList 31 = .ok (.invokevirtual 96, 3) := by decide +kernel
theorem dX6_readList_34 : decode cX6_readList 34 = .ok (.invokevirtual 99, 3) := by decide +kernel
theorem dX6_readList_37 : decode cX6_readList 37 = .ok (.iconst 1, 1) := by decide +kernel
theorem dX6_readList_38 : decode cX6_readList 38 = .ok (.istore 6, 2) := by decide +kernel
theorem dX6_readList_40 : decode cX6_readList 40 = .ok (.iconst 0, 1) := by decide +kernel
theorem dX6_readList_41 : decode cX6_readList 41 = .ok (.istore 7, 2) := by decide +kernel
theorem dX6_readList_43 : decode cX6_readList 43 = .ok (.iload 7, 2) := by decide +kernel
theorem dX6_readList_45 : decode cX6_readList 45 = .ok (.sipush 8000, 3) := by decide +kernel
theorem dX6_readList_48 : decode cX6_readList 48 = .ok (.if_icmp .ge 28, 3) := by decide +kernel
theorem dX6_readList_51 : decode cX6_readList 51 = .ok (.iload 6, 2) := by decide +kernel
theorem dX6_readList_53 : decode cX6_readList 53 = .ok (.ifCond .eq 23, 3) := by decide +kernel
theorem dX6_readList_56 : decode cX6_readList 56 = .ok (.aload_n 1, 1) := by decide +kernel
theorem dX6_readList_57 : decode cX6_readList 57 = .ok (.invokevirtual 33, 3) := by decide +kernel
theorem dX6_readList_60 : decode cX6_readList 60 = .ok (.ifCond .eq 16, 3) := by decide +kernel
theorem dX6_readList_63 : decode cX6_readList 63 = .ok (.aload_n 0, 1) := by decide +kernel
theorem dX6_readList_64 : decode cX6_readList 64 = .ok (.aload_n 1, 1) := by decide +kernel
