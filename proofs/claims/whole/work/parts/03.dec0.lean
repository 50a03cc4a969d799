theorem dX0_init_0 : decode cX0_init 0 = .ok (.aload_n 0, 1) := by decide +kernel
theorem dX0_init_1 : decode cX0_init 1 = .ok (.invokespecial 3, 3) := by decide +kernel
theorem dX0_init_4 : decode cX0_init 4 = .ok (.aload_n 0, 1) := by decide +kernel
theorem dX0_init_5 : decode cX0_init 5 = .ok (.new 9, 3) := by decide +kernel
theorem dX0_init_8 : decode cX0_init 8 = .ok (.dup, 1) := by decide +kernel
theorem dX0_init_9 : decode cX0_init 9 = .ok (.invokespecial 11, 3) := by decide +kernel
theorem dX0_init_12 : decode cX0_init 12 = .ok (.putfield 12, 3) := by decide +kernel
theorem dX0_init_15 : decode cX0_init 15 = .ok (.aload_n 0, 1) := by decide +kernel
theorem dX0_init_16 : decode cX0_init 16 = .ok (.iconst (-1), 1) := by decide +kernel
theorem dX0_init_17 : decode cX0_init 17 = .ok (.putfield 18, 3) := by decide +kernel
theorem dX0_init_20 : decode cX0_init 20 = .ok (.aload_n 0, 1) := by decide +kernel
theorem dX0_init_21 : decode cX0_init 21 = .ok (.bipush 6, 2) := by decide +kernel
theorem dX0_init_23 : decode cX0_init 23 = .ok (.newarray .int, 2) := by decide +kernel
theorem dX0_init_25 : decode cX0_init 25 = .ok (.putfield 22, 3) := by decide +kernel
theorem dX0_init_28 : decode cX0_init 28 = .ok (.aload_n 0, 1) := by decide +kernel
theorem dX0_init_29 : decode cX0_init 29 = .ok (.bipush 6, 2) := by decide +kernel
theorem dX0_init_31 : decode cX0_init 31 = .ok (.newarray .int, 2) := by decide +kernel
theorem dX0_init_33 : decode cX0_init 33 = .ok (.putfield 26, 3) := by decide +kernel
theorem dX0_init_36 : decode cX0_init 36 = .ok (.aload_n 0, 1) := by decide +kernel
theorem dX0_init_37 : decode cX0_init 37 = .ok (.bipush 8, 2) := by decide +kernel
theorem dX0_init_39 : decode cX0_init 39 = .ok (.newarray .long, 2) := by decide +kernel
theorem dX0_init_41 : decode cX0_init 41 = .ok (.putfield 29, 3) := by decide +kernel
theorem dX0_init_44 : decode cX0_init 44 = .ok (.aload_n 0, 1) := by decide +kernel
theorem dX0_init_45 : decode cX0_init 45 = .ok (.bipush 40, 2) := by decide +kernel
theorem dX0_init_47 : decode cX0_init 47 = .ok (.newarray .int, 2) := by decide +kernel
theorem dX0_init_49 : decode cX0_init 49 = .ok (.putfield 33, 3) := by decide +kernel
theorem dX0_init_52 : decode cX0_init 52 = .ok (.aload_n 0, 1) := by decide +kernel
theorem dX0_init_53 : decode cX0_init 53 = .ok (.bipush 40, 2) := by decide +kernel
theorem dX0_init_55 : decode cX0_init 55 = .ok (.newarray .int, 2) := by decide +kernel
theorem dX0_init_57 : decode cX0_init 57 = .ok (.putfield 36, 3) := by decide +kernel
theorem dX0_init_60 : decode cX0_init 60 = .ok (.aload_n 0, 1) := by decide +kernel
theorem dX0_init_61 : decode cX0_init 61 = .ok (.bipush 40, 2) := by decide +kernel
theorem dX0_init_63 : decode cX0_init 63 = .ok (.newarray .long, 2) := by decide +kernel
theorem dX0_init_65 : decode cX0_init 65 = .ok (.putfield 39, 3) := by decide +kernel
theorem dX0_init_68 : decode cX0_init 68 = .ok (.aload_n 0, 1) := by decide +kernel
theorem dX0_init_69 : decode cX0_init 69 = .ok (.aload_n 1, 1) := by decide +kernel
theorem dX0_init_70 : decode cX0_init 70 = .ok (.putfield 42, 3) := by decide +kernel
theorem dX0_init_73 : decode cX0_init 73 = .ok (.aload_n 0, 1) := by decide +kernel
theorem dX0_init_74 : decode cX0_init 74 = .ok (.aload_n 2, 1) := by decide +kernel
theorem dX0_init_75 : decode cX0_init 75 = .ok (.putfield 46, 3) := by decide +kernel
theorem dX0_init_78 : decode cX0_init 78 = .ok (.return_, 1) := by decide +kernel
theorem dX0_begin_0 : decode cX0_begin 0 = .ok (.aload_n 0, 1) := by decide +kernel
theorem dX0_begin_1 : decode cX0_begin 1 = .ok (.getfield 12, 3) := by decide +kernel
theorem dX0_begin_4 : decode cX0_begin 4 = .ok (.aload_n 1, 1) := by decide +kernel
theorem dX0_begin_5 : decode cX0_begin 5 = .ok (.invokevirtual 50, 3) := by decide +kernel
theorem dX0_begin_8 : decode cX0_begin 8 = .ok (.aload_n 0, 1) := by decide +kernel
theorem dX0_begin_9 : decode cX0_begin 9 = .ok (.iconst 0, 1) := by decide +kernel
theorem dX0_begin_10 : decode cX0_begin 10 = .ok (.putfield 54, 3) := by decide +kernel
theorem dX0_begin_13 : decode cX0_begin 13 = .ok (.aload_n 0, 1) := by decide +kernel
theorem dX0_begin_14 : decode cX0_begin 14 = .ok (.iconst 0, 1) := by decide +kernel
theorem dX0_begin_15 : decode cX0_begin 15 = .ok (.putfield 57, 3) := by decide +kernel
theorem dX0_begin_18 : decode cX0_begin 18 = .ok (.aload_n 0, 1) := by decide +kernel
theorem dX0_begin_19 : decode cX0_begin 19 = .ok (.lconst 0, 1) := by decide +kernel
theorem dX0_begin_20 : decode cX0_begin 20 = .ok (.putfield 60, 3) := by decide +kernel
theorem dX0_begin_23 : decode cX0_begin 23 = .ok (.aload_n 0, 1) := by decide +kernel
theorem dX0_begin_24 : decode cX0_begin 24 = .ok (.lconst 0, 1) := by decide +kernel
theorem dX0_begin_25 : decode cX0_begin 25 = .ok (.putfield 64, 3) := by decide +kernel
theorem dX0_begin_28 : decode cX0_begin 28 = .ok (.aload_n 0, 1) := by decide +kernel
theorem dX0_begin_29 : decode cX0_begin 29 = .ok (.lconst 0, 1) := by decide +kernel
theorem dX0_begin_30 : decode cX0_begin 30 = .ok (.putfield 67, 3) := by decide +kernel
theorem dX0_begin_33 : decode cX0_begin 33 = .ok (.aload_n 0, 1) := by decide +kernel
theorem dX0_begin_34 : decode cX0_begin 34 = .ok (.iconst 0, 1) := by decide +kernel
theorem dX0_begin_35 : decode cX0_begin 35 = .ok (.putfield 70, 3) := by decide +kernel
theorem dX0_begin_38 : decode cX0_begin 38 = .ok (.aload_n 0, 1) := by decide +kernel
theorem dX0_begin_39 : decode cX0_begin 39 = .ok (.iconst 0, 1) := by decide +kernel
theorem dX0_begin_40 : decode cX0_begin 40 = .ok (.putfield 73, 3) := by decide +kernel
theorem dX0_begin_43 : decode cX0_begin 43 = .ok (.aload_n 0, 1) := by decide +kernel
theorem dX0_begin_44 : decode cX0_begin 44 = .ok (.iconst 0, 1) := by decide +kernel
theorem dX0_begin_45 : decode cX0_begin 45 = .ok (.putfield 76, 3) := by decide +kernel
theorem dX0_begin_48 : decode cX0_begin 48 = .ok (.aload_n 0, 1) := by decide +kernel
theorem dX0_begin_49 : decode cX0_begin 49 = .ok (.iconst 0, 1) := by decide +kernel
theorem dX0_begin_50 : decode cX0_begin 50 = .ok (.putfield 79, 3) := by decide +kernel
theorem dX0_begin_53 : decode cX0_begin 53 = .ok (.return_, 1) := by decide +kernel
theorem dX0_doTrade_0 : decode cX0_doTrade 0 = .ok (.iload_n 2, 1) := by decide +kernel
theorem dX0_doTrade_1 : decode cX0_doTrade 1 = .ok (.bipush 6, 2) := by decide +kernel
theorem dX0_doTrade_3 : decode cX0_doTrade 3 = .ok (.if_icmp .lt 6, 3) := by decide +kernel
theorem dX0_doTrade_6 : decode cX0_doTrade 6 = .ok (.bipush 9, 2) := by decide +kernel
theorem dX0_doTrade_8 : decode cX0_doTrade 8 = .ok (.ireturn, 1) := by decide +kernel
theorem dX0_doTrade_9 : decode cX0_doTrade 9 = .ok (.iconst 0, 1) := by decide +kernel
theorem dX0_doTrade_10 : decode cX0_doTrade 10 = .ok (.istore_n 3, 1) := by decide +kernel
theorem dX0_doTrade_11 : decode cX0_doTrade 11 = .ok (.iconst 0, 1) := by decide +kernel
theorem dX0_doTrade_12 : decode cX0_doTrade 12 = .ok (.istore 4, 2) := by decide +kernel
theorem dX0_doTrade_14 : decode cX0_doTrade 14 = .ok (.iload 4, 2) := by decide +kernel
theorem dX0_doTrade_16 : decode cX0_doTrade 16 = .ok (.aload_n 0, 1) := by decide +kernel
theorem dX0_doTrade_17 : decode cX0_doTrade 17 = .ok (.getfield 42, 3) := by decide +kernel
theorem dX0_doTrade_20 : decode cX0_doTrade 20 = .ok (.getfield 82, 3) := by decide +kernel
theorem dX0_doTrade_23 : decode cX0_doTrade 23 = .ok (.iload_n 1, 1) := by decide +kernel
theorem dX0_doTrade_24 : decode cX0_doTrade 24 = .ok (.iaload, 1) := by decide +kernel
theorem dX0_doTrade_25 : decode cX0_doTrade 25 = .ok (.if_icmp .ge 195, 3) := by decide +kernel
theorem dX0_doTrade_28 : decode cX0_doTrade 28 = .ok (.iload_n 3, 1) := by decide +kernel
theorem dX0_doTrade_29 : decode cX0_doTrade 29 = .ok (.ifCond .ne 191, 3) := by decide +kernel
theorem dX0_doTrade_32 : decode cX0_doTrade 32 = .ok (.aload_n 0, 1) := by decide +kernel
theorem dX0_doTrade_33 : decode cX0_doTrade 33 = .ok (.getfield 22, 3) := by decide +kernel
theorem dX0_doTrade_36 : decode cX0_doTrade 36 = .ok (.iload_n 2, 1) := by decide +kernel
theorem dX0_doTrade_37 : decode cX0_doTrade 37 = .ok (.iload_n 1, 1) := by decide +kernel
theorem dX0_doTrade_38 : decode cX0_doTrade 38 = .ok (.iastore, 1) := by decide +kernel
theorem dX0_doTrade_39 : decode cX0_doTrade 39 = .ok (.aload_n 0, 1) := by decide +kernel
theorem dX0_doTrade_40 : decode cX0_doTrade 40 = .ok (.getfield 26, 3) := by decide +kernel
theorem dX0_doTrade_43 : decode cX0_doTrade 43 = .ok (.iload_n 2, 1) := by decide +kernel
theorem dX0_doTrade_44 : decode cX0_doTrade 44 = .ok (.iload 4, 2) := by decide +kernel
theorem dX0_doTrade_46 : decode cX0_doTrade 46 = .ok (.iastore, 1) := by decide +kernel
theorem dX0_doTrade_47 : decode cX0_doTrade 47 = .ok (.aload_n 0, 1) := by decide +kernel
theorem dX0_doTrade_48 : decode cX0_doTrade 48 = .ok (.iload_n 2, 1) := by decide +kernel
theorem dX0_doTrade_49 : decode cX0_doTrade 49 = .ok (.iconst 1, 1) := by decide +kernel
theorem dX0_doTrade_50 : decode cX0_doTrade 50 = .ok (.iadd, 1) := by decide +kernel
theorem dX0_doTrade_51 : decode cX0_doTrade 51 = .ok (.putfield 73, 3) := by decide +kernel
theorem dX0_doTrade_54 : decode cX0_doTrade 54 = .ok (.aload_n 0, 1) := by decide +kernel
theorem dX0_doTrade_55 : decode cX0_doTrade 55 = .ok (.getfield 57, 3) := by decide +kernel
theorem dX0_doTrade_58 : decode cX0_doTrade 58 = .ok (.bipush 40, 2) := by decide +kernel
theorem dX0_doTrade_60 : decode cX0_doTrade 60 = .ok (.if_icmp .lt 6, 3) := by decide +kernel
theorem dX0_doTrade_63 : decode cX0_doTrade 63 = .ok (.bipush 10, 2) := by decide +kernel
theorem dX0_doTrade_65 : decode cX0_doTrade 65 = .ok (.ireturn, 1) := by decide +kernel
theorem dX0_doTrade_66 : decode cX0_doTrade 66 = .ok (.aload_n 0, 1) := by decide +kernel
theorem dX0_doTrade_67 : decode cX0_doTrade 67 = .ok (.dup, 1) := by decide +kernel
theorem dX0_doTrade_68 : decode cX0_doTrade 68 = .ok (.getfield 57, 3) := by decide +kernel
theorem dX0_doTrade_71 : decode cX0_doTrade 71 = .ok (.iconst 1, 1) := by decide +kernel
theorem dX0_doTrade_72 : decode cX0_doTrade 72 = .ok (.iadd, 1) := by decide +kernel
theorem dX0_doTrade_73 : decode cX0_doTrade 73 = .ok (.putfield 57, 3) := by decide +kernel
theorem dX0_doTrade_76 : decode cX0_doTrade 76 = .ok (.iload_n 1, 1) := by decide +kernel
theorem dX0_doTrade_77 : decode cX0_doTrade 77 = .ok (.bipush 24, 2) := by decide +kernel
theorem dX0_doTrade_79 : decode cX0_doTrade 79 = .ok (.imul, 1) := by decide +kernel
theorem dX0_doTrade_80 : decode cX0_doTrade 80 = .ok (.iload 4, 2) := by decide +kernel
theorem dX0_doTrade_82 : decode cX0_doTrade 82 = .ok (.iadd, 1) := by decide +kernel
theorem dX0_doTrade_83 : decode cX0_doTrade 83 = .ok (.istore 5, 2) := by decide +kernel
theorem dX0_doTrade_85 : decode cX0_doTrade 85 = .ok (.aload_n 0, 1) := by decide +kernel
theorem dX0_doTrade_86 : decode cX0_doTrade 86 = .ok (.getfield 42, 3) := by decide +kernel
theorem dX0_doTrade_89 : decode cX0_doTrade 89 = .ok (.getfield 87, 3) := by decide +kernel
theorem dX0_doTrade_92 : decode cX0_doTrade 92 = .ok (.iload 5, 2) := by decide +kernel
theorem dX0_doTrade_94 : decode cX0_doTrade 94 = .ok (.iaload, 1) := by decide +kernel
theorem dX0_doTrade_95 : decode cX0_doTrade 95 = .ok (.istore 6, 2) := by decide +kernel
theorem dX0_doTrade_97 : decode cX0_doTrade 97 = .ok (.iload 6, 2) := by decide +kernel
theorem dX0_doTrade_99 : decode cX0_doTrade 99 = .ok (.bipush 13, 2) := by decide +kernel
theorem dX0_doTrade_101 : decode cX0_doTrade 101 = .ok (.if_icmp .ne 34, 3) := by decide +kernel
theorem dX0_doTrade_104 : decode cX0_doTrade 104 = .ok (.iload 4, 2) := by decide +kernel
theorem dX0_doTrade_106 : decode cX0_doTrade 106 = .ok (.aload_n 0, 1) := by decide +kernel
theorem dX0_doTrade_107 : decode cX0_doTrade 107 = .ok (.getfield 60, 3) := by decide +kernel
theorem dX0_doTrade_110 : decode cX0_doTrade 110 = .ok (.lconst 0, 1) := by decide +kernel
theorem dX0_doTrade_111 : decode cX0_doTrade 111 = .ok (.lcmp, 1) := by decide +kernel
theorem dX0_doTrade_112 : decode cX0_doTrade 112 = .ok (.ifCond .ne 16, 3) := by decide +kernel
theorem dX0_doTrade_115 : decode cX0_doTrade 115 = .ok (.aload_n 0, 1) := by decide +kernel
theorem dX0_doTrade_116 : decode cX0_doTrade 116 = .ok (.getfield 42, 3) := by decide +kernel
theorem dX0_doTrade_119 : decode cX0_doTrade 119 = .ok (.getfield 90, 3) := by decide +kernel
theorem dX0_doTrade_122 : decode cX0_doTrade 122 = .ok (.iload 5, 2) := by decide +kernel
theorem dX0_doTrade_124 : decode cX0_doTrade 124 = .ok (.iaload, 1) := by decide +kernel
theorem dX0_doTrade_125 : decode cX0_doTrade 125 = .ok (.goto 4, 3) := by decide +kernel
theorem dX0_doTrade_128 : decode cX0_doTrade 128 = .ok (.iconst 0, 1) := by decide +kernel
theorem dX0_doTrade_129 : decode cX0_doTrade 129 = .ok (.iadd, 1) := by decide +kernel
theorem dX0_doTrade_130 : decode cX0_doTrade 130 = .ok (.istore 4, 2) := by decide +kernel
theorem dX0_doTrade_132 : decode cX0_doTrade 132 = .ok (.goto 82, 3) := by decide +kernel
theorem dX0_doTrade_135 : decode cX0_doTrade 135 = .ok (.iload 6, 2) := by decide +kernel
theorem dX0_doTrade_137 : decode cX0_doTrade 137 = .ok (.bipush 16, 2) := by decide +kernel
theorem dX0_doTrade_139 : decode cX0_doTrade 139 = .ok (.if_icmp .eq 17, 3) := by decide +kernel
theorem dX0_doTrade_142 : decode cX0_doTrade 142 = .ok (.iload 6, 2) := by decide +kernel
theorem dX0_doTrade_144 : decode cX0_doTrade 144 = .ok (.bipush 17, 2) := by decide +kernel
theorem dX0_doTrade_146 : decode cX0_doTrade 146 = .ok (.if_icmp .eq 10, 3) := by decide +kernel
theorem dX0_doTrade_149 : decode cX0_doTrade 149 = .ok (.iload 6, 2) := by decide +kernel
theorem dX0_doTrade_151 : decode cX0_doTrade 151 = .ok (.bipush 18, 2) := by decide +kernel
theorem dX0_doTrade_153 : decode cX0_doTrade 153 = .ok (.if_icmp .ne 34, 3) := by decide +kernel
theorem dX0_doTrade_156 : decode cX0_doTrade 156 = .ok (.aload_n 0, 1) := by decide +kernel
theorem dX0_doTrade_157 : decode cX0_doTrade 157 = .ok (.iload 6, 2) := by decide +kernel
theorem dX0_doTrade_159 : decode cX0_doTrade 159 = .ok (.aload_n 0, 1) := by decide +kernel
theorem dX0_doTrade_160 : decode cX0_doTrade 160 = .ok (.getfield 42, 3) := by decide +kernel
theorem dX0_doTrade_163 : decode cX0_doTrade 163 = .ok (.getfield 90, 3) := by decide +kernel
theorem dX0_doTrade_166 : decode cX0_doTrade 166 = .ok (.iload 5, 2) := by decide +kernel
theorem dX0_doTrade_168 : decode cX0_doTrade 168 = .ok (.iaload, 1) := by decide +kernel
theorem dX0_doTrade_169 : decode cX0_doTrade 169 = .ok (.aload_n 0, 1) := by decide +kernel
theorem dX0_doTrade_170 : decode cX0_doTrade 170 = .ok (.getfield 42, 3) := by decide +kernel
theorem dX0_doTrade_173 : decode cX0_doTrade 173 = .ok (.getfield 93, 3) := by decide +kernel
theorem dX0_doTrade_176 : decode cX0_doTrade 176 = .ok (.iload 5, 2) := by decide +kernel
theorem dX0_doTrade_178 : decode cX0_doTrade 178 = .ok (.iaload, 1) := by decide +kernel
theorem dX0_doTrade_179 : decode cX0_doTrade 179 = .ok (.iload_n 2, 1) := by decide +kernel
theorem dX0_doTrade_180 : decode cX0_doTrade 180 = .ok (.invokevirtual 96, 3) := by decide +kernel
theorem dX0_doTrade_183 : decode cX0_doTrade 183 = .ok (.istore_n 3, 1) := by decide +kernel
theorem dX0_doTrade_184 : decode cX0_doTrade 184 = .ok (.goto 30, 3) := by decide +kernel
theorem dX0_doTrade_187 : decode cX0_doTrade 187 = .ok (.aload_n 0, 1) := by decide +kernel
theorem dX0_doTrade_188 : decode cX0_doTrade 188 = .ok (.iload 6, 2) := by decide +kernel
theorem dX0_doTrade_190 : decode cX0_doTrade 190 = .ok (.aload_n 0, 1) := by decide +kernel
theorem dX0_doTrade_191 : decode cX0_doTrade 191 = .ok (.getfield 42, 3) := by decide +kernel
theorem dX0_doTrade_194 : decode cX0_doTrade 194 = .ok (.getfield 90, 3) := by decide +kernel
theorem dX0_doTrade_197 : decode cX0_doTrade 197 = .ok (.iload 5, 2) := by decide +kernel
theorem dX0_doTrade_199 : decode cX0_doTrade 199 = .ok (.iaload, 1) := by decide +kernel
theorem dX0_doTrade_200 : decode cX0_doTrade 200 = .ok (.aload_n 0, 1) := by decide +kernel
theorem dX0_doTrade_201 : decode cX0_doTrade 201 = .ok (.getfield 42, 3) := by decide +kernel
theorem dX0_doTrade_204 : decode cX0_doTrade 204 = .ok (.getfield 93, 3) := by decide +kernel
theorem dX0_doTrade_207 : decode cX0_doTrade 207 = .ok (.iload 5, 2) := by decide +kernel
theorem dX0_doTrade_209 : decode cX0_doTrade 209 = .ok (.iaload, 1) := by decide +kernel
theorem dX0_doTrade_210 : decode cX0_doTrade 210 = .ok (.invokevirtual 100, 3) := by decide +kernel
theorem dX0_doTrade_213 : decode cX0_doTrade 213 = .ok (.istore_n 3, 1) := by decide +kernel
theorem dX0_doTrade_214 : decode cX0_doTrade 214 = .ok (.iinc 4 1, 3) := by decide +kernel
theorem dX0_doTrade_217 : decode cX0_doTrade 217 = .ok (.goto (-203), 3) := by decide +kernel
theorem dX0_doTrade_220 : decode cX0_doTrade 220 = .ok (.iload_n 3, 1) := by decide +kernel
theorem dX0_doTrade_221 : decode cX0_doTrade 221 = .ok (.ireturn, 1) := by decide +kernel
theorem dX0_doPart_0 : decode cX0_doPart 0 = .ok (.iload_n 1, 1) := by decide +kernel
theorem dX0_doPart_1 : decode cX0_doPart 1 = .ok (.bipush 16, 2) := by decide +kernel
theorem dX0_doPart_3 : decode cX0_doPart 3 = .ok (.if_icmp .ne 13, 3) := by decide +kernel
theorem dX0_doPart_6 : decode cX0_doPart 6 = .ok (.aload_n 0, 1) := by decide +kernel
theorem dX0_doPart_7 : decode cX0_doPart 7 = .ok (.iload_n 2, 1) := by decide +kernel
theorem dX0_doPart_8 : decode cX0_doPart 8 = .ok (.iload 4, 2) := by decide +kernel
theorem dX0_doPart_10 : decode cX0_doPart 10 = .ok (.iconst 1, 1) := by decide +kernel
theorem dX0_doPart_11 : decode cX0_doPart 11 = .ok (.iadd, 1) := by decide +kernel
theorem dX0_doPart_12 : decode cX0_doPart 12 = .ok (.invokevirtual 104, 3) := by decide +kernel
theorem dX0_doPart_15 : decode cX0_doPart 15 = .ok (.ireturn, 1) := by decide +kernel
theorem dX0_doPart_16 : decode cX0_doPart 16 = .ok (.aload_n 0, 1) := by decide +kernel
theorem dX0_doPart_17 : decode cX0_doPart 17 = .ok (.getfield 46, 3) := by decide +kernel
theorem dX0_doPart_20 : decode cX0_doPart 20 = .ok (.iload 4, 2) := by decide +kernel
theorem dX0_doPart_22 : decode cX0_doPart 22 = .ok (.aaload, 1) := by decide +kernel
theorem dX0_doPart_23 : decode cX0_doPart 23 = .ok (.astore 5, 2) := by decide +kernel
theorem dX0_doPart_25 : decode cX0_doPart 25 = .ok (.aload_n 0, 1) := by decide +kernel
theorem dX0_doPart_26 : decode cX0_doPart 26 = .ok (.aload 5, 2) := by decide +kernel
theorem dX0_doPart_28 : decode cX0_doPart 28 = .ok (.invokevirtual 108, 3) := by decide +kernel
theorem dX0_doPart_31 : decode cX0_doPart 31 = .ok (.aload_n 0, 1) := by decide +kernel
theorem dX0_doPart_32 : decode cX0_doPart 32 = .ok (.iload_n 2, 1) := by decide +kernel
theorem dX0_doPart_33 : decode cX0_doPart 33 = .ok (.iload 4, 2) := by decide +kernel
theorem dX0_doPart_35 : decode cX0_doPart 35 = .ok (.iconst 1, 1) := by decide +kernel
theorem dX0_doPart_36 : decode cX0_doPart 36 = .ok (.iadd, 1) := by decide +kernel
theorem dX0_doPart_37 : decode cX0_doPart 37 = .ok (.invokevirtual 104, 3) := by decide +kernel
theorem dX0_doPart_40 : decode cX0_doPart 40 = .ok (.istore 6, 2) := by decide +kernel
theorem dX0_doPart_42 : decode cX0_doPart 42 = .ok (.iload_n 1, 1) := by decide +kernel
theorem dX0_doPart_43 : decode cX0_doPart 43 = .ok (.iload 6, 2) := by decide +kernel
theorem dX0_doPart_45 : decode cX0_doPart 45 = .ok (.invokestatic 112, 3) := by decide +kernel
theorem dX0_doPart_48 : decode cX0_doPart 48 = .ok (.ifCond .ne 6, 3) := by decide +kernel
theorem dX0_doPart_51 : decode cX0_doPart 51 = .ok (.iload 6, 2) := by decide +kernel
theorem dX0_doPart_53 : decode cX0_doPart 53 = .ok (.ireturn, 1) := by decide +kernel
theorem dX0_doPart_54 : decode cX0_doPart 54 = .ok (.aload_n 0, 1) := by decide +kernel
theorem dX0_doPart_55 : decode cX0_doPart 55 = .ok (.aload 5, 2) := by decide +kernel
theorem dX0_doPart_57 : decode cX0_doPart 57 = .ok (.invokevirtual 116, 3) := by decide +kernel
theorem dX0_doPart_60 : decode cX0_doPart 60 = .ok (.iload_n 1, 1) := by decide +kernel
theorem dX0_doPart_61 : decode cX0_doPart 61 = .ok (.bipush 17, 2) := by decide +kernel
theorem dX0_doPart_63 : decode cX0_doPart 63 = .ok (.if_icmp .ne 14, 3) := by decide +kernel
theorem dX0_doPart_66 : decode cX0_doPart 66 = .ok (.aload_n 0, 1) := by decide +kernel
theorem dX0_doPart_67 : decode cX0_doPart 67 = .ok (.iconst (-1), 1) := by decide +kernel
theorem dX0_doPart_68 : decode cX0_doPart 68 = .ok (.iload 6, 2) := by decide +kernel
theorem dX0_doPart_70 : decode cX0_doPart 70 = .ok (.isub, 1) := by decide +kernel
theorem dX0_doPart_71 : decode cX0_doPart 71 = .ok (.i2l, 1) := by decide +kernel
theorem dX0_doPart_72 : decode cX0_doPart 72 = .ok (.putfield 60, 3) := by decide +kernel
theorem dX0_doPart_75 : decode cX0_doPart 75 = .ok (.iconst 0, 1) := by decide +kernel
theorem dX0_doPart_76 : decode cX0_doPart 76 = .ok (.ireturn, 1) := by decide +kernel
theorem dX0_doPart_77 : decode cX0_doPart 77 = .ok (.aload_n 0, 1) := by decide +kernel
theorem dX0_doPart_78 : decode cX0_doPart 78 = .ok (.aload 5, 2) := by decide +kernel
theorem dX0_doPart_80 : decode cX0_doPart 80 = .ok (.getfield 119, 3) := by decide +kernel
theorem dX0_doPart_83 : decode cX0_doPart 83 = .ok (.putfield 60, 3) := by decide +kernel
theorem dX0_doPart_86 : decode cX0_doPart 86 = .ok (.aload_n 0, 1) := by decide +kernel
theorem dX0_doPart_87 : decode cX0_doPart 87 = .ok (.iload_n 3, 1) := by decide +kernel
theorem dX0_doPart_88 : decode cX0_doPart 88 = .ok (.iload 4, 2) := by decide +kernel
theorem dX0_doPart_90 : decode cX0_doPart 90 = .ok (.iconst 1, 1) := by decide +kernel
theorem dX0_doPart_91 : decode cX0_doPart 91 = .ok (.iadd, 1) := by decide +kernel
theorem dX0_doPart_92 : decode cX0_doPart 92 = .ok (.invokevirtual 104, 3) := by decide +kernel
theorem dX0_doPart_95 : decode cX0_doPart 95 = .ok (.ireturn, 1) := by decide +kernel
theorem dX0_isUndone_0 : decode cX0_isUndone 0 = .ok (.iload_n 0, 1) := by decide +kernel
theorem dX0_isUndone_1 : decode cX0_isUndone 1 = .ok (.bipush 17, 2) := by decide +kernel
theorem dX0_isUndone_3 : decode cX0_isUndone 3 = .ok (.if_icmp .ne 25, 3) := by decide +kernel
theorem dX0_isUndone_6 : decode cX0_isUndone 6 = .ok (.iload_n 1, 1) := by decide +kernel
theorem dX0_isUndone_7 : decode cX0_isUndone 7 = .ok (.ifCond .eq 19, 3) := by decide +kernel
theorem dX0_isUndone_10 : decode cX0_isUndone 10 = .ok (.iload_n 1, 1) := by decide +kernel
theorem dX0_isUndone_11 : decode cX0_isUndone 11 = .ok (.bipush 11, 2) := by decide +kernel
theorem dX0_isUndone_13 : decode cX0_isUndone 13 = .ok (.if_icmp .eq 13, 3) := by decide +kernel
theorem dX0_isUndone_16 : decode cX0_isUndone 16 = .ok (.iload_n 1, 1) := by decide +kernel
theorem dX0_isUndone_17 : decode cX0_isUndone 17 = .ok (.bipush 10, 2) := by decide +kernel
theorem dX0_isUndone_19 : decode cX0_isUndone 19 = .ok (.if_icmp .eq 7, 3) := by decide +kernel
theorem dX0_isUndone_22 : decode cX0_isUndone 22 = .ok (.iconst 1, 1) := by decide +kernel
theorem dX0_isUndone_23 : decode cX0_isUndone 23 = .ok (.goto 4, 3) := by decide +kernel
theorem dX0_isUndone_26 : decode cX0_isUndone 26 = .ok (.iconst 0, 1) := by decide +kernel
theorem dX0_isUndone_27 : decode cX0_isUndone 27 = .ok (.ireturn, 1) := by decide +kernel
theorem dX0_isUndone_28 : decode cX0_isUndone 28 = .ok (.iload_n 1, 1) := by decide +kernel
theorem dX0_isUndone_29 : decode cX0_isUndone 29 = .ok (.bipush 11, 2) := by decide +kernel
theorem dX0_isUndone_31 : decode cX0_isUndone 31 = .ok (.if_icmp .eq 9, 3) := by decide +kernel
theorem dX0_isUndone_34 : decode cX0_isUndone 34 = .ok (.iload_n 1, 1) := by decide +kernel
theorem dX0_isUndone_35 : decode cX0_isUndone 35 = .ok (.bipush 8, 2) := by decide +kernel
theorem dX0_isUndone_37 : decode cX0_isUndone 37 = .ok (.if_icmp .ne 7, 3) := by decide +kernel
theorem dX0_isUndone_40 : decode cX0_isUndone 40 = .ok (.iconst 1, 1) := by decide +kernel
theorem dX0_isUndone_41 : decode cX0_isUndone 41 = .ok (.goto 4, 3) := by decide +kernel
theorem dX0_isUndone_44 : decode cX0_isUndone 44 = .ok (.iconst 0, 1) := by decide +kernel
theorem dX0_isUndone_45 : decode cX0_isUndone 45 = .ok (.ireturn, 1) := by decide +kernel
theorem dX0_mark_0 : decode cX0_mark 0 = .ok (.aload_n 1, 1) := by decide +kernel
theorem dX0_mark_1 : decode cX0_mark 1 = .ok (.getfield 122, 3) := by decide +kernel
theorem dX0_mark_4 : decode cX0_mark 4 = .ok (.aload_n 0, 1) := by decide +kernel
theorem dX0_mark_5 : decode cX0_mark 5 = .ok (.getfield 12, 3) := by decide +kernel
theorem dX0_mark_8 : decode cX0_mark 8 = .ok (.invokevirtual 50, 3) := by decide +kernel
theorem dX0_mark_11 : decode cX0_mark 11 = .ok (.aload_n 1, 1) := by decide +kernel
theorem dX0_mark_12 : decode cX0_mark 12 = .ok (.aload_n 0, 1) := by decide +kernel
theorem dX0_mark_13 : decode cX0_mark 13 = .ok (.getfield 60, 3) := by decide +kernel
theorem dX0_mark_16 : decode cX0_mark 16 = .ok (.putfield 119, 3) := by decide +kernel
theorem dX0_mark_19 : decode cX0_mark 19 = .ok (.aload_n 1, 1) := by decide +kernel
theorem dX0_mark_20 : decode cX0_mark 20 = .ok (.aload_n 0, 1) := by decide +kernel
theorem dX0_mark_21 : decode cX0_mark 21 = .ok (.getfield 67, 3) := by decide +kernel
theorem dX0_mark_24 : decode cX0_mark 24 = .ok (.putfield 123, 3) := by decide +kernel
theorem dX0_mark_27 : decode cX0_mark 27 = .ok (.aload_n 1, 1) := by decide +kernel
theorem dX0_mark_28 : decode cX0_mark 28 = .ok (.aload_n 0, 1) := by decide +kernel
theorem dX0_mark_29 : decode cX0_mark 29 = .ok (.getfield 76, 3) := by decide +kernel
theorem dX0_mark_32 : decode cX0_mark 32 = .ok (.putfield 124, 3) := by decide +kernel
theorem dX0_mark_35 : decode cX0_mark 35 = .ok (.aload_n 1, 1) := by decide +kernel
theorem dX0_mark_36 : decode cX0_mark 36 = .ok (.aload_n 0, 1) := by decide +kernel
theorem dX0_mark_37 : decode cX0_mark 37 = .ok (.getfield 79, 3) := by decide +kernel
theorem dX0_mark_40 : decode cX0_mark 40 = .ok (.putfield 125, 3) := by decide +kernel
theorem dX0_mark_43 : decode cX0_mark 43 = .ok (.return_, 1) := by decide +kernel
theorem dX0_undo_0 : decode cX0_undo 0 = .ok (.aload_n 0, 1) := by decide +kernel
theorem dX0_undo_1 : decode cX0_undo 1 = .ok (.getfield 12, 3) := by decide +kernel
theorem dX0_undo_4 : decode cX0_undo 4 = .ok (.aload_n 1, 1) := by decide +kernel
theorem dX0_undo_5 : decode cX0_undo 5 = .ok (.getfield 122, 3) := by decide +kernel
theorem dX0_undo_8 : decode cX0_undo 8 = .ok (.invokevirtual 50, 3) := by decide +kernel
theorem dX0_undo_11 : decode cX0_undo 11 = .ok (.aload_n 0, 1) := by decide +kernel
theorem dX0_undo_12 : decode cX0_undo 12 = .ok (.aload_n 1, 1) := by decide +kernel
theorem dX0_undo_13 : decode cX0_undo 13 = .ok (.getfield 123, 3) := by decide +kernel
theorem dX0_undo_16 : decode cX0_undo 16 = .ok (.putfield 67, 3) := by decide +kernel
theorem dX0_undo_19 : decode cX0_undo 19 = .ok (.aload_n 0, 1) := by decide +kernel
theorem dX0_undo_20 : decode cX0_undo 20 = .ok (.aload_n 1, 1) := by decide +kernel
theorem dX0_undo_21 : decode cX0_undo 21 = .ok (.getfield 124, 3) := by decide +kernel
theorem dX0_undo_24 : decode cX0_undo 24 = .ok (.putfield 76, 3) := by decide +kernel
theorem dX0_undo_27 : decode cX0_undo 27 = .ok (.aload_n 0, 1) := by decide +kernel
theorem dX0_undo_28 : decode cX0_undo 28 = .ok (.aload_n 1, 1) := by decide +kernel
theorem dX0_undo_29 : decode cX0_undo 29 = .ok (.getfield 125, 3) := by decide +kernel
theorem dX0_undo_32 : decode cX0_undo 32 = .ok (.putfield 79, 3) := by decide +kernel
theorem dX0_undo_35 : decode cX0_undo 35 = .ok (.return_, 1) := by decide +kernel
theorem dX0_doStep_0 : decode cX0_doStep 0 = .ok (.iload_n 1, 1) := by decide +kernel
theorem dX0_doStep_1 : decode cX0_doStep 1 = .ok (.tableswitch 195 0 19 #[95, 103, 110, 103, 116, 123, 103, 129, 103, 154, 160, 167, 174, 195, 179, 185, 195, 195, 195, 188], 95) := by decide +kernel
theorem dX0_doStep_96 : decode cX0_doStep 96 = .ok (.aload_n 0, 1) := by decide +kernel
theorem dX0_doStep_97 : decode cX0_doStep 97 = .ok (.iload_n 2, 1) := by decide +kernel
theorem dX0_doStep_98 : decode cX0_doStep 98 = .ok (.i2l, 1) := by decide +kernel
theorem dX0_doStep_99 : decode cX0_doStep 99 = .ok (.putfield 60, 3) := by decide +kernel
theorem dX0_doStep_102 : decode cX0_doStep 102 = .ok (.iconst 0, 1) := by decide +kernel
theorem dX0_doStep_103 : decode cX0_doStep 103 = .ok (.ireturn, 1) := by decide +kernel
theorem dX0_doStep_104 : decode cX0_doStep 104 = .ok (.aload_n 0, 1) := by decide +kernel
theorem dX0_doStep_105 : decode cX0_doStep 105 = .ok (.iload_n 1, 1) := by decide +kernel
theorem dX0_doStep_106 : decode cX0_doStep 106 = .ok (.iload_n 2, 1) := by decide +kernel
theorem dX0_doStep_107 : decode cX0_doStep 107 = .ok (.invokevirtual 126, 3) := by decide +kernel
theorem dX0_doStep_110 : decode cX0_doStep 110 = .ok (.ireturn, 1) := by decide +kernel
theorem dX0_doStep_111 : decode cX0_doStep 111 = .ok (.aload_n 0, 1) := by decide +kernel
theorem dX0_doStep_112 : decode cX0_doStep 112 = .ok (.iload_n 2, 1) := by decide +kernel
theorem dX0_doStep_113 : decode cX0_doStep 113 = .ok (.invokevirtual 129, 3) := by decide +kernel
theorem dX0_doStep_116 : decode cX0_doStep 116 = .ok (.ireturn, 1) := by decide +kernel
theorem dX0_doStep_117 : decode cX0_doStep 117 = .ok (.aload_n 0, 1) := by decide +kernel
theorem dX0_doStep_118 : decode cX0_doStep 118 = .ok (.iload_n 2, 1) := by decide +kernel
theorem dX0_doStep_119 : decode cX0_doStep 119 = .ok (.i2l, 1) := by decide +kernel
theorem dX0_doStep_120 : decode cX0_doStep 120 = .ok (.invokevirtual 133, 3) := by decide +kernel
theorem dX0_doStep_123 : decode cX0_doStep 123 = .ok (.ireturn, 1) := by decide +kernel
theorem dX0_doStep_124 : decode cX0_doStep 124 = .ok (.aload_n 0, 1) := by decide +kernel
theorem dX0_doStep_125 : decode cX0_doStep 125 = .ok (.iload_n 2, 1) := by decide +kernel
theorem dX0_doStep_126 : decode cX0_doStep 126 = .ok (.invokevirtual 137, 3) := by decide +kernel
theorem dX0_doStep_129 : decode cX0_doStep 129 = .ok (.ireturn, 1) := by decide +kernel
theorem dX0_doStep_130 : decode cX0_doStep 130 = .ok (.aload_n 0, 1) := by decide +kernel
theorem dX0_doStep_131 : decode cX0_doStep 131 = .ok (.getfield 60, 3) := by decide +kernel
theorem dX0_doStep_134 : decode cX0_doStep 134 = .ok (.invokestatic 140, 3) := by decide +kernel
theorem dX0_doStep_137 : decode cX0_doStep 137 = .ok (.ifCond .eq 16, 3) := by decide +kernel
theorem dX0_doStep_140 : decode cX0_doStep 140 = .ok (.aload_n 0, 1) := by decide +kernel
theorem dX0_doStep_141 : decode cX0_doStep 141 = .ok (.iconst 1, 1) := by decide +kernel
theorem dX0_doStep_142 : decode cX0_doStep 142 = .ok (.aload_n 0, 1) := by decide +kernel
theorem dX0_doStep_143 : decode cX0_doStep 143 = .ok (.getfield 60, 3) := by decide +kernel
theorem dX0_doStep_146 : decode cX0_doStep 146 = .ok (.l2i, 1) := by decide +kernel
theorem dX0_doStep_147 : decode cX0_doStep 147 = .ok (.invokevirtual 126, 3) := by decide +kernel
theorem dX0_doStep_150 : decode cX0_doStep 150 = .ok (.goto 4, 3) := by decide +kernel
theorem dX0_doStep_153 : decode cX0_doStep 153 = .ok (.iconst 2, 1) := by decide +kernel
theorem dX0_doStep_154 : decode cX0_doStep 154 = .ok (.ireturn, 1) := by decide +kernel
theorem dX0_doStep_155 : decode cX0_doStep 155 = .ok (.aload_n 0, 1) := by decide +kernel
theorem dX0_doStep_156 : decode cX0_doStep 156 = .ok (.iload_n 2, 1) := by decide +kernel
theorem dX0_doStep_157 : decode cX0_doStep 157 = .ok (.invokevirtual 144, 3) := by decide +kernel
theorem dX0_doStep_160 : decode cX0_doStep 160 = .ok (.ireturn, 1) := by decide +kernel
theorem dX0_doStep_161 : decode cX0_doStep 161 = .ok (.aload_n 0, 1) := by decide +kernel
theorem dX0_doStep_162 : decode cX0_doStep 162 = .ok (.iload_n 2, 1) := by decide +kernel
theorem dX0_doStep_163 : decode cX0_doStep 163 = .ok (.iload_n 3, 1) := by decide +kernel
theorem dX0_doStep_164 : decode cX0_doStep 164 = .ok (.invokevirtual 147, 3) := by decide +kernel
theorem dX0_doStep_167 : decode cX0_doStep 167 = .ok (.ireturn, 1) := by decide +kernel
theorem dX0_doStep_168 : decode cX0_doStep 168 = .ok (.aload_n 0, 1) := by decide +kernel
theorem dX0_doStep_169 : decode cX0_doStep 169 = .ok (.iload_n 2, 1) := by decide +kernel
theorem dX0_doStep_170 : decode cX0_doStep 170 = .ok (.iload_n 3, 1) := by decide +kernel
theorem dX0_doStep_171 : decode cX0_doStep 171 = .ok (.invokevirtual 150, 3) := by decide +kernel
theorem dX0_doStep_174 : decode cX0_doStep 174 = .ok (.ireturn, 1) := by decide +kernel
theorem dX0_doStep_175 : decode cX0_doStep 175 = .ok (.aload_n 0, 1) := by decide +kernel
theorem dX0_doStep_176 : decode cX0_doStep 176 = .ok (.invokevirtual 153, 3) := by decide +kernel
theorem dX0_doStep_179 : decode cX0_doStep 179 = .ok (.ireturn, 1) := by decide +kernel
theorem dX0_doStep_180 : decode cX0_doStep 180 = .ok (.aload_n 0, 1) := by decide +kernel
theorem dX0_doStep_181 : decode cX0_doStep 181 = .ok (.iload_n 2, 1) := by decide +kernel
theorem dX0_doStep_182 : decode cX0_doStep 182 = .ok (.invokevirtual 157, 3) := by decide +kernel
theorem dX0_doStep_185 : decode cX0_doStep 185 = .ok (.ireturn, 1) := by decide +kernel
theorem dX0_doStep_186 : decode cX0_doStep 186 = .ok (.bipush 11, 2) := by decide +kernel
theorem dX0_doStep_188 : decode cX0_doStep 188 = .ok (.ireturn, 1) := by decide +kernel
theorem dX0_doStep_189 : decode cX0_doStep 189 = .ok (.aload_n 0, 1) := by decide +kernel
theorem dX0_doStep_190 : decode cX0_doStep 190 = .ok (.iload_n 2, 1) := by decide +kernel
theorem dX0_doStep_191 : decode cX0_doStep 191 = .ok (.iload_n 3, 1) := by decide +kernel
theorem dX0_doStep_192 : decode cX0_doStep 192 = .ok (.invokevirtual 160, 3) := by decide +kernel
theorem dX0_doStep_195 : decode cX0_doStep 195 = .ok (.ireturn, 1) := by decide +kernel
theorem dX0_doStep_196 : decode cX0_doStep 196 = .ok (.iconst 0, 1) := by decide +kernel
theorem dX0_doStep_197 : decode cX0_doStep 197 = .ok (.ireturn, 1) := by decide +kernel
theorem dX0_write_0 : decode cX0_write 0 = .ok (.aload_n 0, 1) := by decide +kernel
theorem dX0_write_1 : decode cX0_write 1 = .ok (.getfield 12, 3) := by decide +kernel
theorem dX0_write_4 : decode cX0_write 4 = .ok (.iload_n 1, 1) := by decide +kernel
theorem dX0_write_5 : decode cX0_write 5 = .ok (.iconst 1, 1) := by decide +kernel
theorem dX0_write_6 : decode cX0_write 6 = .ok (.aload_n 0, 1) := by decide +kernel
theorem dX0_write_7 : decode cX0_write 7 = .ok (.getfield 60, 3) := by decide +kernel
theorem dX0_write_10 : decode cX0_write 10 = .ok (.iconst (-1), 1) := by decide +kernel
theorem dX0_write_11 : decode cX0_write 11 = .ok (.iconst (-1), 1) := by decide +kernel
theorem dX0_write_12 : decode cX0_write 12 = .ok (.invokevirtual 163, 3) := by decide +kernel
theorem dX0_write_15 : decode cX0_write 15 = .ok (.aload_n 0, 1) := by decide +kernel
theorem dX0_write_16 : decode cX0_write 16 = .ok (.dup, 1) := by decide +kernel
theorem dX0_write_17 : decode cX0_write 17 = .ok (.getfield 67, 3) := by decide +kernel
theorem dX0_write_20 : decode cX0_write 20 = .ok (.lconst 1, 1) := by decide +kernel
theorem dX0_write_21 : decode cX0_write 21 = .ok (.iload_n 1, 1) := by decide +kernel
theorem dX0_write_22 : decode cX0_write 22 = .ok (.lshl, 1) := by decide +kernel
theorem dX0_write_23 : decode cX0_write 23 = .ok (.lor, 1) := by decide +kernel
theorem dX0_write_24 : decode cX0_write 24 = .ok (.putfield 67, 3) := by decide +kernel
theorem dX0_write_27 : decode cX0_write 27 = .ok (.iconst 0, 1) := by decide +kernel
theorem dX0_write_28 : decode cX0_write 28 = .ok (.ireturn, 1) := by decide +kernel
theorem dX0_look_0 : decode cX0_look 0 = .ok (.aload_n 0, 1) := by decide +kernel
theorem dX0_look_1 : decode cX0_look 1 = .ok (.dup, 1) := by decide +kernel
theorem dX0_look_2 : decode cX0_look 2 = .ok (.getfield 64, 3) := by decide +kernel
theorem dX0_look_5 : decode cX0_look 5 = .ok (.lconst 1, 1) := by decide +kernel
theorem dX0_look_6 : decode cX0_look 6 = .ok (.iload_n 1, 1) := by decide +kernel
theorem dX0_look_7 : decode cX0_look 7 = .ok (.lshl, 1) := by decide +kernel
theorem dX0_look_8 : decode cX0_look 8 = .ok (.aload_n 0, 1) := by decide +kernel
theorem dX0_look_9 : decode cX0_look 9 = .ok (.getfield 67, 3) := by decide +kernel
theorem dX0_look_12 : decode cX0_look 12 = .ok (.ldc2_w 167, 3) := by decide +kernel
theorem dX0_look_15 : decode cX0_look 15 = .ok (.lxor, 1) := by decide +kernel
theorem dX0_look_16 : decode cX0_look 16 = .ok (.land, 1) := by decide +kernel
theorem dX0_look_17 : decode cX0_look 17 = .ok (.lor, 1) := by decide +kernel
theorem dX0_look_18 : decode cX0_look 18 = .ok (.putfield 64, 3) := by decide +kernel
theorem dX0_look_21 : decode cX0_look 21 = .ok (.aload_n 0, 1) := by decide +kernel
theorem dX0_look_22 : decode cX0_look 22 = .ok (.getfield 12, 3) := by decide +kernel
theorem dX0_look_25 : decode cX0_look 25 = .ok (.getfield 169, 3) := by decide +kernel
theorem dX0_look_28 : decode cX0_look 28 = .ok (.iload_n 1, 1) := by decide +kernel
theorem dX0_look_29 : decode cX0_look 29 = .ok (.iaload, 1) := by decide +kernel
theorem dX0_look_30 : decode cX0_look 30 = .ok (.iload_n 2, 1) := by decide +kernel
theorem dX0_look_31 : decode cX0_look 31 = .ok (.if_icmp .ne 5, 3) := by decide +kernel
theorem dX0_look_34 : decode cX0_look 34 = .ok (.iconst 0, 1) := by decide +kernel
theorem dX0_look_35 : decode cX0_look 35 = .ok (.ireturn, 1) := by decide +kernel
theorem dX0_look_36 : decode cX0_look 36 = .ok (.aload_n 0, 1) := by decide +kernel
theorem dX0_look_37 : decode cX0_look 37 = .ok (.getfield 12, 3) := by decide +kernel
theorem dX0_look_40 : decode cX0_look 40 = .ok (.getfield 169, 3) := by decide +kernel
theorem dX0_look_43 : decode cX0_look 43 = .ok (.iload_n 1, 1) := by decide +kernel
theorem dX0_look_44 : decode cX0_look 44 = .ok (.iaload, 1) := by decide +kernel
theorem dX0_look_45 : decode cX0_look 45 = .ok (.ifCond .ne 7, 3) := by decide +kernel
theorem dX0_look_48 : decode cX0_look 48 = .ok (.iconst 1, 1) := by decide +kernel
theorem dX0_look_49 : decode cX0_look 49 = .ok (.goto 4, 3) := by decide +kernel
theorem dX0_look_52 : decode cX0_look 52 = .ok (.iconst 3, 1) := by decide +kernel
theorem dX0_look_53 : decode cX0_look 53 = .ok (.ireturn, 1) := by decide +kernel
theorem dX0_reckon_0 : decode cX0_reckon 0 = .ok (.aload_n 0, 1) := by decide +kernel
theorem dX0_reckon_1 : decode cX0_reckon 1 = .ok (.iload_n 2, 1) := by decide +kernel
theorem dX0_reckon_2 : decode cX0_reckon 2 = .ok (.iconst 1, 1) := by decide +kernel
theorem dX0_reckon_3 : decode cX0_reckon 3 = .ok (.invokevirtual 172, 3) := by decide +kernel
theorem dX0_reckon_6 : decode cX0_reckon 6 = .ok (.istore_n 3, 1) := by decide +kernel
theorem dX0_reckon_7 : decode cX0_reckon 7 = .ok (.iload_n 3, 1) := by decide +kernel
theorem dX0_reckon_8 : decode cX0_reckon 8 = .ok (.ifCond .eq 5, 3) := by decide +kernel
theorem dX0_reckon_11 : decode cX0_reckon 11 = .ok (.iload_n 3, 1) := by decide +kernel
theorem dX0_reckon_12 : decode cX0_reckon 12 = .ok (.ireturn, 1) := by decide +kernel
theorem dX0_reckon_13 : decode cX0_reckon 13 = .ok (.aload_n 0, 1) := by decide +kernel
theorem dX0_reckon_14 : decode cX0_reckon 14 = .ok (.getfield 12, 3) := by decide +kernel
theorem dX0_reckon_17 : decode cX0_reckon 17 = .ok (.getfield 175, 3) := by decide +kernel
theorem dX0_reckon_20 : decode cX0_reckon 20 = .ok (.iload_n 2, 1) := by decide +kernel
theorem dX0_reckon_21 : decode cX0_reckon 21 = .ok (.laload, 1) := by decide +kernel
theorem dX0_reckon_22 : decode cX0_reckon 22 = .ok (.lstore 4, 2) := by decide +kernel
theorem dX0_reckon_24 : decode cX0_reckon 24 = .ok (.iload_n 1, 1) := by decide +kernel
theorem dX0_reckon_25 : decode cX0_reckon 25 = .ok (.lookupswitch 97 #[(3, 35), (6, 42), (8, 76)], 35) := by decide +kernel
theorem dX0_reckon_60 : decode cX0_reckon 60 = .ok (.aload_n 0, 1) := by decide +kernel
theorem dX0_reckon_61 : decode cX0_reckon 61 = .ok (.lload 4, 2) := by decide +kernel
theorem dX0_reckon_63 : decode cX0_reckon 63 = .ok (.invokevirtual 133, 3) := by decide +kernel
theorem dX0_reckon_66 : decode cX0_reckon 66 = .ok (.ireturn, 1) := by decide +kernel
theorem dX0_reckon_67 : decode cX0_reckon 67 = .ok (.aload_n 0, 1) := by decide +kernel
theorem dX0_reckon_68 : decode cX0_reckon 68 = .ok (.getfield 60, 3) := by decide +kernel
theorem dX0_reckon_71 : decode cX0_reckon 71 = .ok (.lload 4, 2) := by decide +kernel
theorem dX0_reckon_73 : decode cX0_reckon 73 = .ok (.invokestatic 178, 3) := by decide +kernel
theorem dX0_reckon_76 : decode cX0_reckon 76 = .ok (.istore_n 3, 1) := by decide +kernel
theorem dX0_reckon_77 : decode cX0_reckon 77 = .ok (.aload_n 0, 1) := by decide +kernel
theorem dX0_reckon_78 : decode cX0_reckon 78 = .ok (.iload_n 3, 1) := by decide +kernel
theorem dX0_reckon_79 : decode cX0_reckon 79 = .ok (.ifCond .ne 13, 3) := by decide +kernel
theorem dX0_reckon_82 : decode cX0_reckon 82 = .ok (.aload_n 0, 1) := by decide +kernel
theorem dX0_reckon_83 : decode cX0_reckon 83 = .ok (.getfield 60, 3) := by decide +kernel
theorem dX0_reckon_86 : decode cX0_reckon 86 = .ok (.lload 4, 2) := by decide +kernel
theorem dX0_reckon_88 : decode cX0_reckon 88 = .ok (.ldiv, 1) := by decide +kernel
theorem dX0_reckon_89 : decode cX0_reckon 89 = .ok (.goto 7, 3) := by decide +kernel
theorem dX0_reckon_92 : decode cX0_reckon 92 = .ok (.aload_n 0, 1) := by decide +kernel
theorem dX0_reckon_93 : decode cX0_reckon 93 = .ok (.getfield 60, 3) := by decide +kernel
theorem dX0_reckon_96 : decode cX0_reckon 96 = .ok (.putfield 60, 3) := by decide +kernel
theorem dX0_reckon_99 : decode cX0_reckon 99 = .ok (.iload_n 3, 1) := by decide +kernel
theorem dX0_reckon_100 : decode cX0_reckon 100 = .ok (.ireturn, 1) := by decide +kernel
theorem dX0_reckon_101 : decode cX0_reckon 101 = .ok (.aload_n 0, 1) := by decide +kernel
theorem dX0_reckon_102 : decode cX0_reckon 102 = .ok (.aload_n 0, 1) := by decide +kernel
theorem dX0_reckon_103 : decode cX0_reckon 103 = .ok (.getfield 60, 3) := by decide +kernel
theorem dX0_reckon_106 : decode cX0_reckon 106 = .ok (.lload 4, 2) := by decide +kernel
theorem dX0_reckon_108 : decode cX0_reckon 108 = .ok (.lcmp, 1) := by decide +kernel
theorem dX0_reckon_109 : decode cX0_reckon 109 = .ok (.ifCond .ge 7, 3) := by decide +kernel
theorem dX0_reckon_112 : decode cX0_reckon 112 = .ok (.lconst 1, 1) := by decide +kernel
theorem dX0_reckon_113 : decode cX0_reckon 113 = .ok (.goto 4, 3) := by decide +kernel
theorem dX0_reckon_116 : decode cX0_reckon 116 = .ok (.lconst 0, 1) := by decide +kernel
theorem dX0_reckon_117 : decode cX0_reckon 117 = .ok (.putfield 60, 3) := by decide +kernel
theorem dX0_reckon_120 : decode cX0_reckon 120 = .ok (.iconst 0, 1) := by decide +kernel
theorem dX0_reckon_121 : decode cX0_reckon 121 = .ok (.ireturn, 1) := by decide +kernel
theorem dX0_reckon_122 : decode cX0_reckon 122 = .ok (.aload_n 0, 1) := by decide +kernel
theorem dX0_reckon_123 : decode cX0_reckon 123 = .ok (.lload 4, 2) := by decide +kernel
theorem dX0_reckon_125 : decode cX0_reckon 125 = .ok (.putfield 60, 3) := by decide +kernel
theorem dX0_reckon_128 : decode cX0_reckon 128 = .ok (.iconst 0, 1) := by decide +kernel
theorem dX0_reckon_129 : decode cX0_reckon 129 = .ok (.ireturn, 1) := by decide +kernel
theorem dX0_add_0 : decode cX0_add 0 = .ok (.aload_n 0, 1) := by decide +kernel
theorem dX0_add_1 : decode cX0_add 1 = .ok (.getfield 60, 3) := by decide +kernel
theorem dX0_add_4 : decode cX0_add 4 = .ok (.lload_n 1, 1) := by decide +kernel
theorem dX0_add_5 : decode cX0_add 5 = .ok (.ladd, 1) := by decide +kernel
theorem dX0_add_6 : decode cX0_add 6 = .ok (.lstore_n 3, 1) := by decide +kernel
theorem dX0_add_7 : decode cX0_add 7 = .ok (.aload_n 0, 1) := by decide +kernel
theorem dX0_add_8 : decode cX0_add 8 = .ok (.getfield 60, 3) := by decide +kernel
theorem dX0_add_11 : decode cX0_add 11 = .ok (.lload_n 3, 1) := by decide +kernel
theorem dX0_add_12 : decode cX0_add 12 = .ok (.lxor, 1) := by decide +kernel
theorem dX0_add_13 : decode cX0_add 13 = .ok (.lload_n 1, 1) := by decide +kernel
theorem dX0_add_14 : decode cX0_add 14 = .ok (.lload_n 3, 1) := by decide +kernel
theorem dX0_add_15 : decode cX0_add 15 = .ok (.lxor, 1) := by decide +kernel
theorem dX0_add_16 : decode cX0_add 16 = .ok (.land, 1) := by decide +kernel
theorem dX0_add_17 : decode cX0_add 17 = .ok (.lconst 0, 1) := by decide +kernel
theorem dX0_add_18 : decode cX0_add 18 = .ok (.lcmp, 1) := by decide +kernel
theorem dX0_add_19 : decode cX0_add 19 = .ok (.ifCond .ge 5, 3) := by decide +kernel
theorem dX0_add_22 : decode cX0_add 22 = .ok (.iconst 5, 1) := by decide +kernel
theorem dX0_add_23 : decode cX0_add 23 = .ok (.ireturn, 1) := by decide +kernel
theorem dX0_add_24 : decode cX0_add 24 = .ok (.aload_n 0, 1) := by decide +kernel
theorem dX0_add_25 : decode cX0_add 25 = .ok (.lload_n 3, 1) := by decide +kernel
theorem dX0_add_26 : decode cX0_add 26 = .ok (.putfield 60, 3) := by decide +kernel
theorem dX0_add_29 : decode cX0_add 29 = .ok (.iconst 0, 1) := by decide +kernel
theorem dX0_add_30 : decode cX0_add 30 = .ok (.ireturn, 1) := by decide +kernel
theorem dX0_multiply_0 : decode cX0_multiply 0 = .ok (.aload_n 0, 1) := by decide +kernel
theorem dX0_multiply_1 : decode cX0_multiply 1 = .ok (.getfield 60, 3) := by decide +kernel
theorem dX0_multiply_4 : decode cX0_multiply 4 = .ok (.iload_n 1, 1) := by decide +kernel
theorem dX0_multiply_5 : decode cX0_multiply 5 = .ok (.i2l, 1) := by decide +kernel
theorem dX0_multiply_6 : decode cX0_multiply 6 = .ok (.lmul, 1) := by decide +kernel
theorem dX0_multiply_7 : decode cX0_multiply 7 = .ok (.lstore_n 2, 1) := by decide +kernel
theorem dX0_multiply_8 : decode cX0_multiply 8 = .ok (.iload_n 1, 1) := by decide +kernel
theorem dX0_multiply_9 : decode cX0_multiply 9 = .ok (.ifCond .eq 22, 3) := by decide +kernel
theorem dX0_multiply_12 : decode cX0_multiply 12 = .ok (.iload_n 1, 1) := by decide +kernel
theorem dX0_multiply_13 : decode cX0_multiply 13 = .ok (.iconst (-1), 1) := by decide +kernel
theorem dX0_multiply_14 : decode cX0_multiply 14 = .ok (.if_icmp .eq 17, 3) := by decide +kernel
theorem dX0_multiply_17 : decode cX0_multiply 17 = .ok (.lload_n 2, 1) := by decide +kernel
theorem dX0_multiply_18 : decode cX0_multiply 18 = .ok (.iload_n 1, 1) := by decide +kernel
theorem dX0_multiply_19 : decode cX0_multiply 19 = .ok (.i2l, 1) := by decide +kernel
theorem dX0_multiply_20 : decode cX0_multiply 20 = .ok (.ldiv, 1) := by decide +kernel
theorem dX0_multiply_21 : decode cX0_multiply 21 = .ok (.aload_n 0, 1) := by decide +kernel
theorem dX0_multiply_22 : decode cX0_multiply 22 = .ok (.getfield 60, 3) := by decide +kernel
theorem dX0_multiply_25 : decode cX0_multiply 25 = .ok (.lcmp, 1) := by decide +kernel
theorem dX0_multiply_26 : decode cX0_multiply 26 = .ok (.ifCond .eq 5, 3) := by decide +kernel
theorem dX0_multiply_29 : decode cX0_multiply 29 = .ok (.iconst 5, 1) := by decide +kernel
theorem dX0_multiply_30 : decode cX0_multiply 30 = .ok (.ireturn, 1) := by decide +kernel
theorem dX0_multiply_31 : decode cX0_multiply 31 = .ok (.iload_n 1, 1) := by decide +kernel
theorem dX0_multiply_32 : decode cX0_multiply 32 = .ok (.iconst (-1), 1) := by decide +kernel
theorem dX0_multiply_33 : decode cX0_multiply 33 = .ok (.if_icmp .ne 16, 3) := by decide +kernel
theorem dX0_multiply_36 : decode cX0_multiply 36 = .ok (.aload_n 0, 1) := by decide +kernel
theorem dX0_multiply_37 : decode cX0_multiply 37 = .ok (.getfield 60, 3) := by decide +kernel
theorem dX0_multiply_40 : decode cX0_multiply 40 = .ok (.ldc2_w 184, 3) := by decide +kernel
theorem dX0_multiply_43 : decode cX0_multiply 43 = .ok (.lcmp, 1) := by decide +kernel
theorem dX0_multiply_44 : decode cX0_multiply 44 = .ok (.ifCond .ne 5, 3) := by decide +kernel
theorem dX0_multiply_47 : decode cX0_multiply 47 = .ok (.iconst 5, 1) := by decide +kernel
theorem dX0_multiply_48 : decode cX0_multiply 48 = .ok (.ireturn, 1) := by decide +kernel
theorem dX0_multiply_49 : decode cX0_multiply 49 = .ok (.aload_n 0, 1) := by decide +kernel
theorem dX0_multiply_50 : decode cX0_multiply 50 = .ok (.lload_n 2, 1) := by decide +kernel
theorem dX0_multiply_51 : decode cX0_multiply 51 = .ok (.putfield 60, 3) := by decide +kernel
theorem dX0_multiply_54 : decode cX0_multiply 54 = .ok (.iconst 0, 1) := by decide +kernel
theorem dX0_multiply_55 : decode cX0_multiply 55 = .ok (.ireturn, 1) := by decide +kernel
theorem dX0_weigh_0 : decode cX0_weigh 0 = .ok (.aload_n 0, 1) := by decide +kernel
theorem dX0_weigh_1 : decode cX0_weigh 1 = .ok (.iload_n 1, 1) := by decide +kernel
theorem dX0_weigh_2 : decode cX0_weigh 2 = .ok (.iconst 2, 1) := by decide +kernel
theorem dX0_weigh_3 : decode cX0_weigh 3 = .ok (.invokevirtual 172, 3) := by decide +kernel
theorem dX0_weigh_6 : decode cX0_weigh 6 = .ok (.istore_n 2, 1) := by decide +kernel
theorem dX0_weigh_7 : decode cX0_weigh 7 = .ok (.iload_n 2, 1) := by decide +kernel
theorem dX0_weigh_8 : decode cX0_weigh 8 = .ok (.ifCond .ne 16, 3) := by decide +kernel
theorem dX0_weigh_11 : decode cX0_weigh 11 = .ok (.aload_n 0, 1) := by decide +kernel
theorem dX0_weigh_12 : decode cX0_weigh 12 = .ok (.aload_n 0, 1) := by decide +kernel
theorem dX0_weigh_13 : decode cX0_weigh 13 = .ok (.getfield 12, 3) := by decide +kernel
theorem dX0_weigh_16 : decode cX0_weigh 16 = .ok (.getfield 175, 3) := by decide +kernel
theorem dX0_weigh_19 : decode cX0_weigh 19 = .ok (.iload_n 1, 1) := by decide +kernel
theorem dX0_weigh_20 : decode cX0_weigh 20 = .ok (.laload, 1) := by decide +kernel
theorem dX0_weigh_21 : decode cX0_weigh 21 = .ok (.putfield 60, 3) := by decide +kernel
theorem dX0_weigh_24 : decode cX0_weigh 24 = .ok (.iload_n 2, 1) := by decide +kernel
theorem dX0_weigh_25 : decode cX0_weigh 25 = .ok (.ireturn, 1) := by decide +kernel
theorem dX0_give_0 : decode cX0_give 0 = .ok (.aload_n 0, 1) := by decide +kernel
theorem dX0_give_1 : decode cX0_give 1 = .ok (.iload_n 1, 1) := by decide +kernel
theorem dX0_give_2 : decode cX0_give 2 = .ok (.iconst 2, 1) := by decide +kernel
theorem dX0_give_3 : decode cX0_give 3 = .ok (.invokevirtual 172, 3) := by decide +kernel
theorem dX0_give_6 : decode cX0_give 6 = .ok (.istore_n 3, 1) := by decide +kernel
theorem dX0_give_7 : decode cX0_give 7 = .ok (.iload_n 3, 1) := by decide +kernel
theorem dX0_give_8 : decode cX0_give 8 = .ok (.ifCond .ne 10, 3) := by decide +kernel
theorem dX0_give_11 : decode cX0_give 11 = .ok (.aload_n 0, 1) := by decide +kernel
theorem dX0_give_12 : decode cX0_give 12 = .ok (.iload_n 2, 1) := by decide +kernel
theorem dX0_give_13 : decode cX0_give 13 = .ok (.iconst 2, 1) := by decide +kernel
theorem dX0_give_14 : decode cX0_give 14 = .ok (.invokevirtual 172, 3) := by decide +kernel
theorem dX0_give_17 : decode cX0_give 17 = .ok (.istore_n 3, 1) := by decide +kernel
theorem dX0_give_18 : decode cX0_give 18 = .ok (.iload_n 3, 1) := by decide +kernel
theorem dX0_give_19 : decode cX0_give 19 = .ok (.ifCond .eq 5, 3) := by decide +kernel
theorem dX0_give_22 : decode cX0_give 22 = .ok (.iload_n 3, 1) := by decide +kernel
theorem dX0_give_23 : decode cX0_give 23 = .ok (.ireturn, 1) := by decide +kernel
theorem dX0_give_24 : decode cX0_give 24 = .ok (.aload_n 0, 1) := by decide +kernel
theorem dX0_give_25 : decode cX0_give 25 = .ok (.getfield 12, 3) := by decide +kernel
theorem dX0_give_28 : decode cX0_give 28 = .ok (.getfield 186, 3) := by decide +kernel
theorem dX0_give_31 : decode cX0_give 31 = .ok (.iload_n 1, 1) := by decide +kernel
theorem dX0_give_32 : decode cX0_give 32 = .ok (.iaload, 1) := by decide +kernel
theorem dX0_give_33 : decode cX0_give 33 = .ok (.aload_n 0, 1) := by decide +kernel
theorem dX0_give_34 : decode cX0_give 34 = .ok (.getfield 12, 3) := by decide +kernel
theorem dX0_give_37 : decode cX0_give 37 = .ok (.getfield 186, 3) := by decide +kernel
theorem dX0_give_40 : decode cX0_give 40 = .ok (.iload_n 2, 1) := by decide +kernel
theorem dX0_give_41 : decode cX0_give 41 = .ok (.iaload, 1) := by decide +kernel
theorem dX0_give_42 : decode cX0_give 42 = .ok (.if_icmp .eq 6, 3) := by decide +kernel
theorem dX0_give_45 : decode cX0_give 45 = .ok (.bipush 7, 2) := by decide +kernel
theorem dX0_give_47 : decode cX0_give 47 = .ok (.ireturn, 1) := by decide +kernel
theorem dX0_give_48 : decode cX0_give 48 = .ok (.aload_n 0, 1) := by decide +kernel
theorem dX0_give_49 : decode cX0_give 49 = .ok (.getfield 60, 3) := by decide +kernel
theorem dX0_give_52 : decode cX0_give 52 = .ok (.lconst 0, 1) := by decide +kernel
theorem dX0_give_53 : decode cX0_give 53 = .ok (.lcmp, 1) := by decide +kernel
theorem dX0_give_54 : decode cX0_give 54 = .ok (.ifCond .lt 46, 3) := by decide +kernel
theorem dX0_give_57 : decode cX0_give 57 = .ok (.aload_n 0, 1) := by decide +kernel
theorem dX0_give_58 : decode cX0_give 58 = .ok (.getfield 60, 3) := by decide +kernel
theorem dX0_give_61 : decode cX0_give 61 = .ok (.aload_n 0, 1) := by decide +kernel
theorem dX0_give_62 : decode cX0_give 62 = .ok (.getfield 12, 3) := by decide +kernel
theorem dX0_give_65 : decode cX0_give 65 = .ok (.getfield 175, 3) := by decide +kernel
theorem dX0_give_68 : decode cX0_give 68 = .ok (.iload_n 1, 1) := by decide +kernel
theorem dX0_give_69 : decode cX0_give 69 = .ok (.laload, 1) := by decide +kernel
theorem dX0_give_70 : decode cX0_give 70 = .ok (.lcmp, 1) := by decide +kernel
theorem dX0_give_71 : decode cX0_give 71 = .ok (.ifCond .gt 29, 3) := by decide +kernel
theorem dX0_give_74 : decode cX0_give 74 = .ok (.iload_n 1, 1) := by decide +kernel
theorem dX0_give_75 : decode cX0_give 75 = .ok (.iload_n 2, 1) := by decide +kernel
theorem dX0_give_76 : decode cX0_give 76 = .ok (.if_icmp .eq 27, 3) := by decide +kernel
theorem dX0_give_79 : decode cX0_give 79 = .ok (.aload_n 0, 1) := by decide +kernel
theorem dX0_give_80 : decode cX0_give 80 = .ok (.getfield 12, 3) := by decide +kernel
theorem dX0_give_83 : decode cX0_give 83 = .ok (.getfield 175, 3) := by decide +kernel
theorem dX0_give_86 : decode cX0_give 86 = .ok (.iload_n 2, 1) := by decide +kernel
theorem dX0_give_87 : decode cX0_give 87 = .ok (.laload, 1) := by decide +kernel
theorem dX0_give_88 : decode cX0_give 88 = .ok (.aload_n 0, 1) := by decide +kernel
theorem dX0_give_89 : decode cX0_give 89 = .ok (.getfield 60, 3) := by decide +kernel
theorem dX0_give_92 : decode cX0_give 92 = .ok (.ladd, 1) := by decide +kernel
theorem dX0_give_93 : decode cX0_give 93 = .ok (.ldc2_w 189, 3) := by decide +kernel
theorem dX0_give_96 : decode cX0_give 96 = .ok (.lcmp, 1) := by decide +kernel
theorem dX0_give_97 : decode cX0_give 97 = .ok (.ifCond .le 6, 3) := by decide +kernel
theorem dX0_give_100 : decode cX0_give 100 = .ok (.bipush 6, 2) := by decide +kernel
theorem dX0_give_102 : decode cX0_give 102 = .ok (.ireturn, 1) := by decide +kernel
theorem dX0_give_103 : decode cX0_give 103 = .ok (.aload_n 0, 1) := by decide +kernel
theorem dX0_give_104 : decode cX0_give 104 = .ok (.getfield 12, 3) := by decide +kernel
theorem dX0_give_107 : decode cX0_give 107 = .ok (.getfield 175, 3) := by decide +kernel
theorem dX0_give_110 : decode cX0_give 110 = .ok (.iload_n 1, 1) := by decide +kernel
theorem dX0_give_111 : decode cX0_give 111 = .ok (.dup2, 1) := by decide +kernel
theorem dX0_give_112 : decode cX0_give 112 = .ok (.laload, 1) := by decide +kernel
theorem dX0_give_113 : decode cX0_give 113 = .ok (.aload_n 0, 1) := by decide +kernel
theorem dX0_give_114 : decode cX0_give 114 = .ok (.getfield 60, 3) := by decide +kernel
theorem dX0_give_117 : decode cX0_give 117 = .ok (.lsub, 1) := by decide +kernel
theorem dX0_give_118 : decode cX0_give 118 = .ok (.lastore, 1) := by decide +kernel
theorem dX0_give_119 : decode cX0_give 119 = .ok (.aload_n 0, 1) := by decide +kernel
theorem dX0_give_120 : decode cX0_give 120 = .ok (.getfield 12, 3) := by decide +kernel
theorem dX0_give_123 : decode cX0_give 123 = .ok (.getfield 175, 3) := by decide +kernel
theorem dX0_give_126 : decode cX0_give 126 = .ok (.iload_n 2, 1) := by decide +kernel
theorem dX0_give_127 : decode cX0_give 127 = .ok (.dup2, 1) := by decide +kernel
theorem dX0_give_128 : decode cX0_give 128 = .ok (.laload, 1) := by decide +kernel
theorem dX0_give_129 : decode cX0_give 129 = .ok (.aload_n 0, 1) := by decide +kernel
theorem dX0_give_130 : decode cX0_give 130 = .ok (.getfield 60, 3) := by decide +kernel
theorem dX0_give_133 : decode cX0_give 133 = .ok (.ladd, 1) := by decide +kernel
theorem dX0_give_134 : decode cX0_give 134 = .ok (.lastore, 1) := by decide +kernel
theorem dX0_give_135 : decode cX0_give 135 = .ok (.aload_n 0, 1) := by decide +kernel
theorem dX0_give_136 : decode cX0_give 136 = .ok (.dup, 1) := by decide +kernel
theorem dX0_give_137 : decode cX0_give 137 = .ok (.getfield 67, 3) := by decide +kernel
theorem dX0_give_140 : decode cX0_give 140 = .ok (.lconst 1, 1) := by decide +kernel
theorem dX0_give_141 : decode cX0_give 141 = .ok (.iload_n 1, 1) := by decide +kernel
theorem dX0_give_142 : decode cX0_give 142 = .ok (.lshl, 1) := by decide +kernel
theorem dX0_give_143 : decode cX0_give 143 = .ok (.lconst 1, 1) := by decide +kernel
theorem dX0_give_144 : decode cX0_give 144 = .ok (.iload_n 2, 1) := by decide +kernel
theorem dX0_give_145 : decode cX0_give 145 = .ok (.lshl, 1) := by decide +kernel
theorem dX0_give_146 : decode cX0_give 146 = .ok (.lor, 1) := by decide +kernel
theorem dX0_give_147 : decode cX0_give 147 = .ok (.lor, 1) := by decide +kernel
theorem dX0_give_148 : decode cX0_give 148 = .ok (.putfield 67, 3) := by decide +kernel
theorem dX0_give_151 : decode cX0_give 151 = .ok (.iconst 0, 1) := by decide +kernel
theorem dX0_give_152 : decode cX0_give 152 = .ok (.ireturn, 1) := by decide +kernel
theorem dX0_swap_0 : decode cX0_swap 0 = .ok (.lconst 1, 1) := by decide +kernel
theorem dX0_swap_1 : decode cX0_swap 1 = .ok (.iload_n 1, 1) := by decide +kernel
theorem dX0_swap_2 : decode cX0_swap 2 = .ok (.lshl, 1) := by decide +kernel
theorem dX0_swap_3 : decode cX0_swap 3 = .ok (.lconst 1, 1) := by decide +kernel
theorem dX0_swap_4 : decode cX0_swap 4 = .ok (.iload_n 2, 1) := by decide +kernel
theorem dX0_swap_5 : decode cX0_swap 5 = .ok (.lshl, 1) := by decide +kernel
theorem dX0_swap_6 : decode cX0_swap 6 = .ok (.lor, 1) := by decide +kernel
theorem dX0_swap_7 : decode cX0_swap 7 = .ok (.lstore_n 3, 1) := by decide +kernel
theorem dX0_swap_8 : decode cX0_swap 8 = .ok (.aload_n 0, 1) := by decide +kernel
theorem dX0_swap_9 : decode cX0_swap 9 = .ok (.dup, 1) := by decide +kernel
theorem dX0_swap_10 : decode cX0_swap 10 = .ok (.getfield 64, 3) := by decide +kernel
theorem dX0_swap_13 : decode cX0_swap 13 = .ok (.lload_n 3, 1) := by decide +kernel
theorem dX0_swap_14 : decode cX0_swap 14 = .ok (.aload_n 0, 1) := by decide +kernel
theorem dX0_swap_15 : decode cX0_swap 15 = .ok (.getfield 67, 3) := by decide +kernel
theorem dX0_swap_18 : decode cX0_swap 18 = .ok (.ldc2_w 167, 3) := by decide +kernel
theorem dX0_swap_21 : decode cX0_swap 21 = .ok (.lxor, 1) := by decide +kernel
theorem dX0_swap_22 : decode cX0_swap 22 = .ok (.land, 1) := by decide +kernel
theorem dX0_swap_23 : decode cX0_swap 23 = .ok (.lor, 1) := by decide +kernel
theorem dX0_swap_24 : decode cX0_swap 24 = .ok (.putfield 64, 3) := by decide +kernel
theorem dX0_swap_27 : decode cX0_swap 27 = .ok (.aload_n 0, 1) := by decide +kernel
theorem dX0_swap_28 : decode cX0_swap 28 = .ok (.getfield 12, 3) := by decide +kernel
theorem dX0_swap_31 : decode cX0_swap 31 = .ok (.getfield 169, 3) := by decide +kernel
theorem dX0_swap_34 : decode cX0_swap 34 = .ok (.iload_n 1, 1) := by decide +kernel
theorem dX0_swap_35 : decode cX0_swap 35 = .ok (.iaload, 1) := by decide +kernel
theorem dX0_swap_36 : decode cX0_swap 36 = .ok (.istore 5, 2) := by decide +kernel
theorem dX0_swap_38 : decode cX0_swap 38 = .ok (.aload_n 0, 1) := by decide +kernel
theorem dX0_swap_39 : decode cX0_swap 39 = .ok (.getfield 12, 3) := by decide +kernel
theorem dX0_swap_42 : decode cX0_swap 42 = .ok (.getfield 175, 3) := by decide +kernel
theorem dX0_swap_45 : decode cX0_swap 45 = .ok (.iload_n 1, 1) := by decide +kernel
theorem dX0_swap_46 : decode cX0_swap 46 = .ok (.laload, 1) := by decide +kernel
theorem dX0_swap_47 : decode cX0_swap 47 = .ok (.lstore 6, 2) := by decide +kernel
theorem dX0_swap_49 : decode cX0_swap 49 = .ok (.aload_n 0, 1) := by decide +kernel
theorem dX0_swap_50 : decode cX0_swap 50 = .ok (.getfield 12, 3) := by decide +kernel
theorem dX0_swap_53 : decode cX0_swap 53 = .ok (.getfield 186, 3) := by decide +kernel
theorem dX0_swap_56 : decode cX0_swap 56 = .ok (.iload_n 1, 1) := by decide +kernel
theorem dX0_swap_57 : decode cX0_swap 57 = .ok (.iaload, 1) := by decide +kernel
theorem dX0_swap_58 : decode cX0_swap 58 = .ok (.istore 8, 2) := by decide +kernel
theorem dX0_swap_60 : decode cX0_swap 60 = .ok (.aload_n 0, 1) := by decide +kernel
theorem dX0_swap_61 : decode cX0_swap 61 = .ok (.getfield 12, 3) := by decide +kernel
theorem dX0_swap_64 : decode cX0_swap 64 = .ok (.getfield 191, 3) := by decide +kernel
theorem dX0_swap_67 : decode cX0_swap 67 = .ok (.iload_n 1, 1) := by decide +kernel
theorem dX0_swap_68 : decode cX0_swap 68 = .ok (.iaload, 1) := by decide +kernel
theorem dX0_swap_69 : decode cX0_swap 69 = .ok (.istore 9, 2) := by decide +kernel
theorem dX0_swap_71 : decode cX0_swap 71 = .ok (.aload_n 0, 1) := by decide +kernel
theorem dX0_swap_72 : decode cX0_swap 72 = .ok (.getfield 12, 3) := by decide +kernel
theorem dX0_swap_75 : decode cX0_swap 75 = .ok (.iload_n 1, 1) := by decide +kernel
theorem dX0_swap_76 : decode cX0_swap 76 = .ok (.aload_n 0, 1) := by decide +kernel
theorem dX0_swap_77 : decode cX0_swap 77 = .ok (.getfield 12, 3) := by decide +kernel
theorem dX0_swap_80 : decode cX0_swap 80 = .ok (.getfield 169, 3) := by decide +kernel
theorem dX0_swap_83 : decode cX0_swap 83 = .ok (.iload_n 2, 1) := by decide +kernel
theorem dX0_swap_84 : decode cX0_swap 84 = .ok (.iaload, 1) := by decide +kernel
theorem dX0_swap_85 : decode cX0_swap 85 = .ok (.aload_n 0, 1) := by decide +kernel
theorem dX0_swap_86 : decode cX0_swap 86 = .ok (.getfield 12, 3) := by decide +kernel
theorem dX0_swap_89 : decode cX0_swap 89 = .ok (.getfield 175, 3) := by decide +kernel
theorem dX0_swap_92 : decode cX0_swap 92 = .ok (.iload_n 2, 1) := by decide +kernel
theorem dX0_swap_93 : decode cX0_swap 93 = .ok (.laload, 1) := by decide +kernel
theorem dX0_swap_94 : decode cX0_swap 94 = .ok (.aload_n 0, 1) := by decide +kernel
theorem dX0_swap_95 : decode cX0_swap 95 = .ok (.getfield 12, 3) := by decide +kernel
theorem dX0_swap_98 : decode cX0_swap 98 = .ok (.getfield 186, 3) := by decide +kernel
theorem dX0_swap_101 : decode cX0_swap 101 = .ok (.iload_n 2, 1) := by decide +kernel
theorem dX0_swap_102 : decode cX0_swap 102 = .ok (.iaload, 1) := by decide +kernel
theorem dX0_swap_103 : decode cX0_swap 103 = .ok (.aload_n 0, 1) := by decide +kernel
theorem dX0_swap_104 : decode cX0_swap 104 = .ok (.getfield 12, 3) := by decide +kernel
theorem dX0_swap_107 : decode cX0_swap 107 = .ok (.getfield 191, 3) := by decide +kernel
theorem dX0_swap_110 : decode cX0_swap 110 = .ok (.iload_n 2, 1) := by decide +kernel
theorem dX0_swap_111 : decode cX0_swap 111 = .ok (.iaload, 1) := by decide +kernel
theorem dX0_swap_112 : decode cX0_swap 112 = .ok (.invokevirtual 163, 3) := by decide +kernel
theorem dX0_swap_115 : decode cX0_swap 115 = .ok (.aload_n 0, 1) := by decide +kernel
theorem dX0_swap_116 : decode cX0_swap 116 = .ok (.getfield 12, 3) := by decide +kernel
theorem dX0_swap_119 : decode cX0_swap 119 = .ok (.iload_n 2, 1) := by decide +kernel
theorem dX0_swap_120 : decode cX0_swap 120 = .ok (.iload 5, 2) := by decide +kernel
theorem dX0_swap_122 : decode cX0_swap 122 = .ok (.lload 6, 2) := by decide +kernel
theorem dX0_swap_124 : decode cX0_swap 124 = .ok (.iload 8, 2) := by decide +kernel
theorem dX0_swap_126 : decode cX0_swap 126 = .ok (.iload 9, 2) := by decide +kernel
theorem dX0_swap_128 : decode cX0_swap 128 = .ok (.invokevirtual 163, 3) := by decide +kernel
theorem dX0_swap_131 : decode cX0_swap 131 = .ok (.aload_n 0, 1) := by decide +kernel
theorem dX0_swap_132 : decode cX0_swap 132 = .ok (.dup, 1) := by decide +kernel
theorem dX0_swap_133 : decode cX0_swap 133 = .ok (.getfield 67, 3) := by decide +kernel
theorem dX0_swap_136 : decode cX0_swap 136 = .ok (.lload_n 3, 1) := by decide +kernel
theorem dX0_swap_137 : decode cX0_swap 137 = .ok (.lor, 1) := by decide +kernel
theorem dX0_swap_138 : decode cX0_swap 138 = .ok (.putfield 67, 3) := by decide +kernel
theorem dX0_swap_141 : decode cX0_swap 141 = .ok (.iconst 0, 1) := by decide +kernel
theorem dX0_swap_142 : decode cX0_swap 142 = .ok (.ireturn, 1) := by decide +kernel
theorem dX0_say_0 : decode cX0_say 0 = .ok (.aload_n 0, 1) := by decide +kernel
theorem dX0_say_1 : decode cX0_say 1 = .ok (.getfield 76, 3) := by decide +kernel
theorem dX0_say_4 : decode cX0_say 4 = .ok (.bipush 8, 2) := by decide +kernel
theorem dX0_say_6 : decode cX0_say 6 = .ok (.if_icmp .ge 26, 3) := by decide +kernel
theorem dX0_say_9 : decode cX0_say 9 = .ok (.aload_n 0, 1) := by decide +kernel
theorem dX0_say_10 : decode cX0_say 10 = .ok (.getfield 29, 3) := by decide +kernel
theorem dX0_say_13 : decode cX0_say 13 = .ok (.aload_n 0, 1) := by decide +kernel
theorem dX0_say_14 : decode cX0_say 14 = .ok (.getfield 76, 3) := by decide +kernel
theorem dX0_say_17 : decode cX0_say 17 = .ok (.aload_n 0, 1) := by decide +kernel
theorem dX0_say_18 : decode cX0_say 18 = .ok (.getfield 60, 3) := by decide +kernel
theorem dX0_say_21 : decode cX0_say 21 = .ok (.lastore, 1) := by decide +kernel
theorem dX0_say_22 : decode cX0_say 22 = .ok (.aload_n 0, 1) := by decide +kernel
theorem dX0_say_23 : decode cX0_say 23 = .ok (.dup, 1) := by decide +kernel
theorem dX0_say_24 : decode cX0_say 24 = .ok (.getfield 76, 3) := by decide +kernel
theorem dX0_say_27 : decode cX0_say 27 = .ok (.iconst 1, 1) := by decide +kernel
theorem dX0_say_28 : decode cX0_say 28 = .ok (.iadd, 1) := by decide +kernel
theorem dX0_say_29 : decode cX0_say 29 = .ok (.putfield 76, 3) := by decide +kernel
theorem dX0_say_32 : decode cX0_say 32 = .ok (.iconst 0, 1) := by decide +kernel
theorem dX0_say_33 : decode cX0_say 33 = .ok (.ireturn, 1) := by decide +kernel
theorem dX0_fail_0 : decode cX0_fail 0 = .ok (.aload_n 0, 1) := by decide +kernel
theorem dX0_fail_1 : decode cX0_fail 1 = .ok (.iload_n 1, 1) := by decide +kernel
theorem dX0_fail_2 : decode cX0_fail 2 = .ok (.putfield 70, 3) := by decide +kernel
theorem dX0_fail_5 : decode cX0_fail 5 = .ok (.bipush 8, 2) := by decide +kernel
theorem dX0_fail_7 : decode cX0_fail 7 = .ok (.ireturn, 1) := by decide +kernel
theorem dX0_putOff_0 : decode cX0_putOff 0 = .ok (.aload_n 0, 1) := by decide +kernel
theorem dX0_putOff_1 : decode cX0_putOff 1 = .ok (.getfield 79, 3) := by decide +kernel
theorem dX0_putOff_4 : decode cX0_putOff 4 = .ok (.bipush 40, 2) := by decide +kernel
theorem dX0_putOff_6 : decode cX0_putOff 6 = .ok (.if_icmp .ge 46, 3) := by decide +kernel
theorem dX0_putOff_9 : decode cX0_putOff 9 = .ok (.aload_n 0, 1) := by decide +kernel
theorem dX0_putOff_10 : decode cX0_putOff 10 = .ok (.getfield 33, 3) := by decide +kernel
theorem dX0_putOff_13 : decode cX0_putOff 13 = .ok (.aload_n 0, 1) := by decide +kernel
theorem dX0_putOff_14 : decode cX0_putOff 14 = .ok (.getfield 79, 3) := by decide +kernel
theorem dX0_putOff_17 : decode cX0_putOff 17 = .ok (.iload_n 1, 1) := by decide +kernel
theorem dX0_putOff_18 : decode cX0_putOff 18 = .ok (.iastore, 1) := by decide +kernel
theorem dX0_putOff_19 : decode cX0_putOff 19 = .ok (.aload_n 0, 1) := by decide +kernel
theorem dX0_putOff_20 : decode cX0_putOff 20 = .ok (.getfield 36, 3) := by decide +kernel
theorem dX0_putOff_23 : decode cX0_putOff 23 = .ok (.aload_n 0, 1) := by decide +kernel
theorem dX0_putOff_24 : decode cX0_putOff 24 = .ok (.getfield 79, 3) := by decide +kernel
theorem dX0_putOff_27 : decode cX0_putOff 27 = .ok (.iload_n 2, 1) := by decide +kernel
theorem dX0_putOff_28 : decode cX0_putOff 28 = .ok (.iastore, 1) := by decide +kernel
theorem dX0_putOff_29 : decode cX0_putOff 29 = .ok (.aload_n 0, 1) := by decide +kernel
theorem dX0_putOff_30 : decode cX0_putOff 30 = .ok (.getfield 39, 3) := by decide +kernel
theorem dX0_putOff_33 : decode cX0_putOff 33 = .ok (.aload_n 0, 1) := by decide +kernel
theorem dX0_putOff_34 : decode cX0_putOff 34 = .ok (.getfield 79, 3) := by decide +kernel
theorem dX0_putOff_37 : decode cX0_putOff 37 = .ok (.aload_n 0, 1) := by decide +kernel
theorem dX0_putOff_38 : decode cX0_putOff 38 = .ok (.getfield 60, 3) := by decide +kernel
theorem dX0_putOff_41 : decode cX0_putOff 41 = .ok (.lastore, 1) := by decide +kernel
theorem dX0_putOff_42 : decode cX0_putOff 42 = .ok (.aload_n 0, 1) := by decide +kernel
theorem dX0_putOff_43 : decode cX0_putOff 43 = .ok (.dup, 1) := by decide +kernel
theorem dX0_putOff_44 : decode cX0_putOff 44 = .ok (.getfield 79, 3) := by decide +kernel
theorem dX0_putOff_47 : decode cX0_putOff 47 = .ok (.iconst 1, 1) := by decide +kernel
theorem dX0_putOff_48 : decode cX0_putOff 48 = .ok (.iadd, 1) := by decide +kernel
theorem dX0_putOff_49 : decode cX0_putOff 49 = .ok (.putfield 79, 3) := by decide +kernel
theorem dX0_putOff_52 : decode cX0_putOff 52 = .ok (.iconst 0, 1) := by decide +kernel
theorem dX0_putOff_53 : decode cX0_putOff 53 = .ok (.ireturn, 1) := by decide +kernel
theorem dX1_init_0 : decode cX1_init 0 = .ok (.aload_n 0, 1) := by decide +kernel
theorem dX1_init_1 : decode cX1_init 1 = .ok (.invokespecial 3, 3) := by decide +kernel
theorem dX1_init_4 : decode cX1_init 4 = .ok (.aload_n 0, 1) := by decide +kernel
theorem dX1_init_5 : decode cX1_init 5 = .ok (.bipush 40, 2) := by decide +kernel
theorem dX1_init_7 : decode cX1_init 7 = .ok (.newarray .int, 2) := by decide +kernel
theorem dX1_init_9 : decode cX1_init 9 = .ok (.putfield 9, 3) := by decide +kernel
theorem dX1_init_12 : decode cX1_init 12 = .ok (.aload_n 0, 1) := by decide +kernel
theorem dX1_init_13 : decode cX1_init 13 = .ok (.bipush 40, 2) := by decide +kernel
theorem dX1_init_15 : decode cX1_init 15 = .ok (.newarray .long, 2) := by decide +kernel
theorem dX1_init_17 : decode cX1_init 17 = .ok (.putfield 15, 3) := by decide +kernel
theorem dX1_init_20 : decode cX1_init 20 = .ok (.aload_n 0, 1) := by decide +kernel
theorem dX1_init_21 : decode cX1_init 21 = .ok (.bipush 40, 2) := by decide +kernel
theorem dX1_init_23 : decode cX1_init 23 = .ok (.newarray .int, 2) := by decide +kernel
theorem dX1_init_25 : decode cX1_init 25 = .ok (.putfield 19, 3) := by decide +kernel
theorem dX1_init_28 : decode cX1_init 28 = .ok (.aload_n 0, 1) := by decide +kernel
theorem dX1_init_29 : decode cX1_init 29 = .ok (.bipush 40, 2) := by decide +kernel
theorem dX1_init_31 : decode cX1_init 31 = .ok (.newarray .int, 2) := by decide +kernel
theorem dX1_init_33 : decode cX1_init 33 = .ok (.putfield 22, 3) := by decide +kernel
theorem dX1_init_36 : decode cX1_init 36 = .ok (.iconst 0, 1) := by decide +kernel
theorem dX1_init_37 : decode cX1_init 37 = .ok (.istore_n 1, 1) := by decide +kernel
theorem dX1_init_38 : decode cX1_init 38 = .ok (.iload_n 1, 1) := by decide +kernel
theorem dX1_init_39 : decode cX1_init 39 = .ok (.bipush 40, 2) := by decide +kernel
theorem dX1_init_41 : decode cX1_init 41 = .ok (.if_icmp .ge 23, 3) := by decide +kernel
theorem dX1_init_44 : decode cX1_init 44 = .ok (.aload_n 0, 1) := by decide +kernel
theorem dX1_init_45 : decode cX1_init 45 = .ok (.getfield 19, 3) := by decide +kernel
theorem dX1_init_48 : decode cX1_init 48 = .ok (.iload_n 1, 1) := by decide +kernel
theorem dX1_init_49 : decode cX1_init 49 = .ok (.iconst (-1), 1) := by decide +kernel
theorem dX1_init_50 : decode cX1_init 50 = .ok (.iastore, 1) := by decide +kernel
theorem dX1_init_51 : decode cX1_init 51 = .ok (.aload_n 0, 1) := by decide +kernel
theorem dX1_init_52 : decode cX1_init 52 = .ok (.getfield 22, 3) := by decide +kernel
theorem dX1_init_55 : decode cX1_init 55 = .ok (.iload_n 1, 1) := by decide +kernel
theorem dX1_init_56 : decode cX1_init 56 = .ok (.iconst (-1), 1) := by decide +kernel
theorem dX1_init_57 : decode cX1_init 57 = .ok (.iastore, 1) := by decide +kernel
theorem dX1_init_58 : decode cX1_init 58 = .ok (.iinc 1 1, 3) := by decide +kernel
theorem dX1_init_61 : decode cX1_init 61 = .ok (.goto (-23), 3) := by decide +kernel
theorem dX1_init_64 : decode cX1_init 64 = .ok (.return_, 1) := by decide +kernel
theorem dX1_put_0 : decode cX1_put 0 = .ok (.aload_n 0, 1) := by decide +kernel
theorem dX1_put_1 : decode cX1_put 1 = .ok (.getfield 9, 3) := by decide +kernel
theorem dX1_put_4 : decode cX1_put 4 = .ok (.iload_n 1, 1) := by decide +kernel
theorem dX1_put_5 : decode cX1_put 5 = .ok (.iload_n 2, 1) := by decide +kernel
theorem dX1_put_6 : decode cX1_put 6 = .ok (.iastore, 1) := by decide +kernel
theorem dX1_put_7 : decode cX1_put 7 = .ok (.aload_n 0, 1) := by decide +kernel
theorem dX1_put_8 : decode cX1_put 8 = .ok (.getfield 15, 3) := by decide +kernel
theorem dX1_put_11 : decode cX1_put 11 = .ok (.iload_n 1, 1) := by decide +kernel
theorem dX1_put_12 : decode cX1_put 12 = .ok (.lload_n 3, 1) := by decide +kernel
theorem dX1_put_13 : decode cX1_put 13 = .ok (.lastore, 1) := by decide +kernel
theorem dX1_put_14 : decode cX1_put 14 = .ok (.aload_n 0, 1) := by decide +kernel
theorem dX1_put_15 : decode cX1_put 15 = .ok (.getfield 19, 3) := by decide +kernel
theorem dX1_put_18 : decode cX1_put 18 = .ok (.iload_n 1, 1) := by decide +kernel
theorem dX1_put_19 : decode cX1_put 19 = .ok (.iload 5, 2) := by decide +kernel
theorem dX1_put_21 : decode cX1_put 21 = .ok (.iastore, 1) := by decide +kernel
theorem dX1_put_22 : decode cX1_put 22 = .ok (.aload_n 0, 1) := by decide +kernel
theorem dX1_put_23 : decode cX1_put 23 = .ok (.getfield 22, 3) := by decide +kernel
theorem dX1_put_26 : decode cX1_put 26 = .ok (.iload_n 1, 1) := by decide +kernel
theorem dX1_put_27 : decode cX1_put 27 = .ok (.iload 6, 2) := by decide +kernel
theorem dX1_put_29 : decode cX1_put 29 = .ok (.iastore, 1) := by decide +kernel
theorem dX1_put_30 : decode cX1_put 30 = .ok (.return_, 1) := by decide +kernel
theorem dX1_takeAll_0 : decode cX1_takeAll 0 = .ok (.aload_n 1, 1) := by decide +kernel
theorem dX1_takeAll_1 : decode cX1_takeAll 1 = .ok (.getfield 9, 3) := by decide +kernel
theorem dX1_takeAll_4 : decode cX1_takeAll 4 = .ok (.iconst 0, 1) := by decide +kernel
theorem dX1_takeAll_5 : decode cX1_takeAll 5 = .ok (.aload_n 0, 1) := by decide +kernel
theorem dX1_takeAll_6 : decode cX1_takeAll 6 = .ok (.getfield 9, 3) := by decide +kernel
theorem dX1_takeAll_9 : decode cX1_takeAll 9 = .ok (.iconst 0, 1) := by decide +kernel
theorem dX1_takeAll_10 : decode cX1_takeAll 10 = .ok (.bipush 40, 2) := by decide +kernel
theorem dX1_takeAll_12 : decode cX1_takeAll 12 = .ok (.invokestatic 25, 3) := by decide +kernel
theorem dX1_takeAll_15 : decode cX1_takeAll 15 = .ok (.aload_n 1, 1) := by decide +kernel
theorem dX1_takeAll_16 : decode cX1_takeAll 16 = .ok (.getfield 15, 3) := by decide +kernel
theorem dX1_takeAll_19 : decode cX1_takeAll 19 = .ok (.iconst 0, 1) := by decide +kernel
theorem dX1_takeAll_20 : decode cX1_takeAll 20 = .ok (.aload_n 0, 1) := by decide +kernel
theorem dX1_takeAll_21 : decode cX1_takeAll 21 = .ok (.getfield 15, 3) := by decide +kernel
theorem dX1_takeAll_24 : decode cX1_takeAll 24 = .ok (.iconst 0, 1) := by decide +kernel
theorem dX1_takeAll_25 : decode cX1_takeAll 25 = .ok (.bipush 40, 2) := by decide +kernel
theorem dX1_takeAll_27 : decode cX1_takeAll 27 = .ok (.invokestatic 25, 3) := by decide +kernel
theorem dX1_takeAll_30 : decode cX1_takeAll 30 = .ok (.aload_n 1, 1) := by decide +kernel
theorem dX1_takeAll_31 : decode cX1_takeAll 31 = .ok (.getfield 19, 3) := by decide +kernel
theorem dX1_takeAll_34 : decode cX1_takeAll 34 = .ok (.iconst 0, 1) := by decide +kernel
theorem dX1_takeAll_35 : decode cX1_takeAll 35 = .ok (.aload_n 0, 1) := by decide +kernel
theorem dX1_takeAll_36 : decode cX1_takeAll 36 = .ok (.getfield 19, 3) := by decide +kernel
theorem dX1_takeAll_39 : decode cX1_takeAll 39 = .ok (.iconst 0, 1) := by decide +kernel
theorem dX1_takeAll_40 : decode cX1_takeAll 40 = .ok (.bipush 40, 2) := by decide +kernel
theorem dX1_takeAll_42 : decode cX1_takeAll 42 = .ok (.invokestatic 25, 3) := by decide +kernel
theorem dX1_takeAll_45 : decode cX1_takeAll 45 = .ok (.aload_n 1, 1) := by decide +kernel
theorem dX1_takeAll_46 : decode cX1_takeAll 46 = .ok (.getfield 22, 3) := by decide +kernel
theorem dX1_takeAll_49 : decode cX1_takeAll 49 = .ok (.iconst 0, 1) := by decide +kernel
theorem dX1_takeAll_50 : decode cX1_takeAll 50 = .ok (.aload_n 0, 1) := by decide +kernel
theorem dX1_takeAll_51 : decode cX1_takeAll 51 = .ok (.getfield 22, 3) := by decide +kernel
theorem dX1_takeAll_54 : decode cX1_takeAll 54 = .ok (.iconst 0, 1) := by decide +kernel
theorem dX1_takeAll_55 : decode cX1_takeAll 55 = .ok (.bipush 40, 2) := by decide +kernel
theorem dX1_takeAll_57 : decode cX1_takeAll 57 = .ok (.invokestatic 25, 3) := by decide +kernel
theorem dX1_takeAll_60 : decode cX1_takeAll 60 = .ok (.return_, 1) := by decide +kernel
theorem dX1_takeThose_0 : decode cX1_takeThose 0 = .ok (.iconst 0, 1) := by decide +kernel
theorem dX1_takeThose_1 : decode cX1_takeThose 1 = .ok (.istore 4, 2) := by decide +kernel
theorem dX1_takeThose_3 : decode cX1_takeThose 3 = .ok (.iload 4, 2) := by decide +kernel
theorem dX1_takeThose_5 : decode cX1_takeThose 5 = .ok (.bipush 40, 2) := by decide +kernel
theorem dX1_takeThose_7 : decode cX1_takeThose 7 = .ok (.if_icmp .ge 52, 3) := by decide +kernel
theorem dX1_takeThose_10 : decode cX1_takeThose 10 = .ok (.lload_n 1, 1) := by decide +kernel
theorem dX1_takeThose_11 : decode cX1_takeThose 11 = .ok (.iload 4, 2) := by decide +kernel
theorem dX1_takeThose_13 : decode cX1_takeThose 13 = .ok (.invokestatic 31, 3) := by decide +kernel
theorem dX1_takeThose_16 : decode cX1_takeThose 16 = .ok (.ifCond .eq 37, 3) := by decide +kernel
theorem dX1_takeThose_19 : decode cX1_takeThose 19 = .ok (.aload_n 0, 1) := by decide +kernel
theorem dX1_takeThose_20 : decode cX1_takeThose 20 = .ok (.iload 4, 2) := by decide +kernel
theorem dX1_takeThose_22 : decode cX1_takeThose 22 = .ok (.aload_n 3, 1) := by decide +kernel
theorem dX1_takeThose_23 : decode cX1_takeThose 23 = .ok (.getfield 9, 3) := by decide +kernel
theorem dX1_takeThose_26 : decode cX1_takeThose 26 = .ok (.iload 4, 2) := by decide +kernel
theorem dX1_takeThose_28 : decode cX1_takeThose 28 = .ok (.iaload, 1) := by decide +kernel
theorem dX1_takeThose_29 : decode cX1_takeThose 29 = .ok (.aload_n 3, 1) := by decide +kernel
theorem dX1_takeThose_30 : decode cX1_takeThose 30 = .ok (.getfield 15, 3) := by decide +kernel
theorem dX1_takeThose_33 : decode cX1_takeThose 33 = .ok (.iload 4, 2) := by decide +kernel
theorem dX1_takeThose_35 : decode cX1_takeThose 35 = .ok (.laload, 1) := by decide +kernel
theorem dX1_takeThose_36 : decode cX1_takeThose 36 = .ok (.aload_n 3, 1) := by decide +kernel
theorem dX1_takeThose_37 : decode cX1_takeThose 37 = .ok (.getfield 19, 3) := by decide +kernel
theorem dX1_takeThose_40 : decode cX1_takeThose 40 = .ok (.iload 4, 2) := by decide +kernel
theorem dX1_takeThose_42 : decode cX1_takeThose 42 = .ok (.iaload, 1) := by decide +kernel
theorem dX1_takeThose_43 : decode cX1_takeThose 43 = .ok (.aload_n 3, 1) := by decide +kernel
theorem dX1_takeThose_44 : decode cX1_takeThose 44 = .ok (.getfield 22, 3) := by decide +kernel
theorem dX1_takeThose_47 : decode cX1_takeThose 47 = .ok (.iload 4, 2) := by decide +kernel
theorem dX1_takeThose_49 : decode cX1_takeThose 49 = .ok (.iaload, 1) := by decide +kernel
theorem dX1_takeThose_50 : decode cX1_takeThose 50 = .ok (.invokevirtual 35, 3) := by decide +kernel
theorem dX1_takeThose_53 : decode cX1_takeThose 53 = .ok (.iinc 4 1, 3) := by decide +kernel
theorem dX1_takeThose_56 : decode cX1_takeThose 56 = .ok (.goto (-53), 3) := by decide +kernel
theorem dX1_takeThose_59 : decode cX1_takeThose 59 = .ok (.return_, 1) := by decide +kernel
theorem dX1_gramsOfKind_0 : decode cX1_gramsOfKind 0 = .ok (.lconst 0, 1) := by decide +kernel
theorem dX1_gramsOfKind_1 : decode cX1_gramsOfKind 1 = .ok (.lstore_n 2, 1) := by decide +kernel
theorem dX1_gramsOfKind_2 : decode cX1_gramsOfKind 2 = .ok (.iconst 0, 1) := by decide +kernel
theorem dX1_gramsOfKind_3 : decode cX1_gramsOfKind 3 = .ok (.istore 4, 2) := by decide +kernel
theorem dX1_gramsOfKind_5 : decode cX1_gramsOfKind 5 = .ok (.iload 4, 2) := by decide +kernel
theorem dX1_gramsOfKind_7 : decode cX1_gramsOfKind 7 = .ok (.bipush 40, 2) := by decide +kernel
theorem dX1_gramsOfKind_9 : decode cX1_gramsOfKind 9 = .ok (.if_icmp .ge 41, 3) := by decide +kernel
theorem dX1_gramsOfKind_12 : decode cX1_gramsOfKind 12 = .ok (.aload_n 0, 1) := by decide +kernel
theorem dX1_gramsOfKind_13 : decode cX1_gramsOfKind 13 = .ok (.getfield 9, 3) := by decide +kernel
theorem dX1_gramsOfKind_16 : decode cX1_gramsOfKind 16 = .ok (.iload 4, 2) := by decide +kernel
theorem dX1_gramsOfKind_18 : decode cX1_gramsOfKind 18 = .ok (.iaload, 1) := by decide +kernel
theorem dX1_gramsOfKind_19 : decode cX1_gramsOfKind 19 = .ok (.iconst 2, 1) := by decide +kernel
theorem dX1_gramsOfKind_20 : decode cX1_gramsOfKind 20 = .ok (.if_icmp .ne 24, 3) := by decide +kernel
theorem dX1_gramsOfKind_23 : decode cX1_gramsOfKind 23 = .ok (.aload_n 0, 1) := by decide +kernel
theorem dX1_gramsOfKind_24 : decode cX1_gramsOfKind 24 = .ok (.getfield 19, 3) := by decide +kernel
theorem dX1_gramsOfKind_27 : decode cX1_gramsOfKind 27 = .ok (.iload 4, 2) := by decide +kernel
theorem dX1_gramsOfKind_29 : decode cX1_gramsOfKind 29 = .ok (.iaload, 1) := by decide +kernel
theorem dX1_gramsOfKind_30 : decode cX1_gramsOfKind 30 = .ok (.iload_n 1, 1) := by decide +kernel
theorem dX1_gramsOfKind_31 : decode cX1_gramsOfKind 31 = .ok (.if_icmp .ne 13, 3) := by decide +kernel
theorem dX1_gramsOfKind_34 : decode cX1_gramsOfKind 34 = .ok (.lload_n 2, 1) := by decide +kernel
theorem dX1_gramsOfKind_35 : decode cX1_gramsOfKind 35 = .ok (.aload_n 0, 1) := by decide +kernel
theorem dX1_gramsOfKind_36 : decode cX1_gramsOfKind 36 = .ok (.getfield 15, 3) := by decide +kernel
theorem dX1_gramsOfKind_39 : decode cX1_gramsOfKind 39 = .ok (.iload 4, 2) := by decide +kernel
theorem dX1_gramsOfKind_41 : decode cX1_gramsOfKind 41 = .ok (.laload, 1) := by decide +kernel
theorem dX1_gramsOfKind_42 : decode cX1_gramsOfKind 42 = .ok (.ladd, 1) := by decide +kernel
theorem dX1_gramsOfKind_43 : decode cX1_gramsOfKind 43 = .ok (.lstore_n 2, 1) := by decide +kernel
theorem dX1_gramsOfKind_44 : decode cX1_gramsOfKind 44 = .ok (.iinc 4 1, 3) := by decide +kernel
theorem dX1_gramsOfKind_47 : decode cX1_gramsOfKind 47 = .ok (.goto (-42), 3) := by decide +kernel
theorem dX1_gramsOfKind_50 : decode cX1_gramsOfKind 50 = .ok (.lload_n 2, 1) := by decide +kernel
theorem dX1_gramsOfKind_51 : decode cX1_gramsOfKind 51 = .ok (.lreturn, 1) := by decide +kernel
theorem dX1_gramsOfGrower_0 : decode cX1_gramsOfGrower 0 = .ok (.lconst 0, 1) := by decide +kernel
theorem dX1_gramsOfGrower_1 : decode cX1_gramsOfGrower 1 = .ok (.lstore_n 2, 1) := by decide +kernel
theorem dX1_gramsOfGrower_2 : decode cX1_gramsOfGrower 2 = .ok (.iconst 0, 1) := by decide +kernel
theorem dX1_gramsOfGrower_3 : decode cX1_gramsOfGrower 3 = .ok (.istore 4, 2) := by decide +kernel
theorem dX1_gramsOfGrower_5 : decode cX1_gramsOfGrower 5 = .ok (.iload 4, 2) := by decide +kernel
theorem dX1_gramsOfGrower_7 : decode cX1_gramsOfGrower 7 = .ok (.bipush 40, 2) := by decide +kernel
theorem dX1_gramsOfGrower_9 : decode cX1_gramsOfGrower 9 = .ok (.if_icmp .ge 41, 3) := by decide +kernel
theorem dX1_gramsOfGrower_12 : decode cX1_gramsOfGrower 12 = .ok (.aload_n 0, 1) := by decide +kernel
theorem dX1_gramsOfGrower_13 : decode cX1_gramsOfGrower 13 = .ok (.getfield 9, 3) := by decide +kernel
theorem dX1_gramsOfGrower_16 : decode cX1_gramsOfGrower 16 = .ok (.iload 4, 2) := by decide +kernel
theorem dX1_gramsOfGrower_18 : decode cX1_gramsOfGrower 18 = .ok (.iaload, 1) := by decide +kernel
theorem dX1_gramsOfGrower_19 : decode cX1_gramsOfGrower 19 = .ok (.iconst 2, 1) := by decide +kernel
theorem dX1_gramsOfGrower_20 : decode cX1_gramsOfGrower 20 = .ok (.if_icmp .ne 24, 3) := by decide +kernel
theorem dX1_gramsOfGrower_23 : decode cX1_gramsOfGrower 23 = .ok (.aload_n 0, 1) := by decide +kernel
theorem dX1_gramsOfGrower_24 : decode cX1_gramsOfGrower 24 = .ok (.getfield 22, 3) := by decide +kernel
theorem dX1_gramsOfGrower_27 : decode cX1_gramsOfGrower 27 = .ok (.iload 4, 2) := by decide +kernel
theorem dX1_gramsOfGrower_29 : decode cX1_gramsOfGrower 29 = .ok (.iaload, 1) := by decide +kernel
theorem dX1_gramsOfGrower_30 : decode cX1_gramsOfGrower 30 = .ok (.iload_n 1, 1) := by decide +kernel
theorem dX1_gramsOfGrower_31 : decode cX1_gramsOfGrower 31 = .ok (.if_icmp .ne 13, 3) := by decide +kernel
theorem dX1_gramsOfGrower_34 : decode cX1_gramsOfGrower 34 = .ok (.lload_n 2, 1) := by decide +kernel
theorem dX1_gramsOfGrower_35 : decode cX1_gramsOfGrower 35 = .ok (.aload_n 0, 1) := by decide +kernel
theorem dX1_gramsOfGrower_36 : decode cX1_gramsOfGrower 36 = .ok (.getfield 15, 3) := by decide +kernel
theorem dX1_gramsOfGrower_39 : decode cX1_gramsOfGrower 39 = .ok (.iload 4, 2) := by decide +kernel
theorem dX1_gramsOfGrower_41 : decode cX1_gramsOfGrower 41 = .ok (.laload, 1) := by decide +kernel
theorem dX1_gramsOfGrower_42 : decode cX1_gramsOfGrower 42 = .ok (.ladd, 1) := by decide +kernel
theorem dX1_gramsOfGrower_43 : decode cX1_gramsOfGrower 43 = .ok (.lstore_n 2, 1) := by decide +kernel
theorem dX1_gramsOfGrower_44 : decode cX1_gramsOfGrower 44 = .ok (.iinc 4 1, 3) := by decide +kernel
theorem dX1_gramsOfGrower_47 : decode cX1_gramsOfGrower 47 = .ok (.goto (-42), 3) := by decide +kernel
theorem dX1_gramsOfGrower_50 : decode cX1_gramsOfGrower 50 = .ok (.lload_n 2, 1) := by decide +kernel
theorem dX1_gramsOfGrower_51 : decode cX1_gramsOfGrower 51 = .ok (.lreturn, 1) := by decide +kernel
theorem dX2_init_0 : decode cX2_init 0 = .ok (.aload_n 0, 1) := by decide +kernel
theorem dX2_init_1 : decode cX2_init 1 = .ok (.invokespecial 1, 3) := by decide +kernel
theorem dX2_init_4 : decode cX2_init 4 = .ok (.aload_n 0, 1) := by decide +kernel
theorem dX2_init_5 : decode cX2_init 5 = .ok (.new 7, 3) := by decide +kernel
theorem dX2_init_8 : decode cX2_init 8 = .ok (.dup, 1) := by decide +kernel
theorem dX2_init_9 : decode cX2_init 9 = .ok (.invokespecial 9, 3) := by decide +kernel
theorem dX2_init_12 : decode cX2_init 12 = .ok (.putfield 10, 3) := by decide +kernel
theorem dX2_init_15 : decode cX2_init 15 = .ok (.return_, 1) := by decide +kernel
theorem dX3_init_0 : decode cX3_init 0 = .ok (.aload_n 0, 1) := by decide +kernel
theorem dX3_init_1 : decode cX3_init 1 = .ok (.invokespecial 3, 3) := by decide +kernel
theorem dX3_init_4 : decode cX3_init 4 = .ok (.aload_n 0, 1) := by decide +kernel
theorem dX3_init_5 : decode cX3_init 5 = .ok (.bipush 40, 2) := by decide +kernel
theorem dX3_init_7 : decode cX3_init 7 = .ok (.newarray .int, 2) := by decide +kernel
theorem dX3_init_9 : decode cX3_init 9 = .ok (.putfield 9, 3) := by decide +kernel
theorem dX3_init_12 : decode cX3_init 12 = .ok (.aload_n 0, 1) := by decide +kernel
theorem dX3_init_13 : decode cX3_init 13 = .ok (.bipush 40, 2) := by decide +kernel
theorem dX3_init_15 : decode cX3_init 15 = .ok (.newarray .int, 2) := by decide +kernel
theorem dX3_init_17 : decode cX3_init 17 = .ok (.putfield 15, 3) := by decide +kernel
theorem dX3_init_20 : decode cX3_init 20 = .ok (.aload_n 0, 1) := by decide +kernel
theorem dX3_init_21 : decode cX3_init 21 = .ok (.bipush 40, 2) := by decide +kernel
theorem dX3_init_23 : decode cX3_init 23 = .ok (.newarray .long, 2) := by decide +kernel
theorem dX3_init_25 : decode cX3_init 25 = .ok (.putfield 18, 3) := by decide +kernel
theorem dX3_init_28 : decode cX3_init 28 = .ok (.return_, 1) := by decide +kernel
theorem dX3_append_0 : decode cX3_append 0 = .ok (.aload_n 0, 1) := by decide +kernel
theorem dX3_append_1 : decode cX3_append 1 = .ok (.getfield 22, 3) := by decide +kernel
theorem dX3_append_4 : decode cX3_append 4 = .ok (.bipush 40, 2) := by decide +kernel
theorem dX3_append_6 : decode cX3_append 6 = .ok (.if_icmp .ge 33, 3) := by decide +kernel
theorem dX3_append_9 : decode cX3_append 9 = .ok (.aload_n 0, 1) := by decide +kernel
theorem dX3_append_10 : decode cX3_append 10 = .ok (.getfield 9, 3) := by decide +kernel
theorem dX3_append_13 : decode cX3_append 13 = .ok (.aload_n 0, 1) := by decide +kernel
theorem dX3_append_14 : decode cX3_append 14 = .ok (.getfield 22, 3) := by decide +kernel
theorem dX3_append_17 : decode cX3_append 17 = .ok (.iload_n 1, 1) := by decide +kernel
theorem dX3_append_18 : decode cX3_append 18 = .ok (.iastore, 1) := by decide +kernel
theorem dX3_append_19 : decode cX3_append 19 = .ok (.aload_n 0, 1) := by decide +kernel
theorem dX3_append_20 : decode cX3_append 20 = .ok (.getfield 15, 3) := by decide +kernel
theorem dX3_append_23 : decode cX3_append 23 = .ok (.aload_n 0, 1) := by decide +kernel
theorem dX3_append_24 : decode cX3_append 24 = .ok (.getfield 22, 3) := by decide +kernel
theorem dX3_append_27 : decode cX3_append 27 = .ok (.iload_n 2, 1) := by decide +kernel
theorem dX3_append_28 : decode cX3_append 28 = .ok (.iastore, 1) := by decide +kernel
theorem dX3_append_29 : decode cX3_append 29 = .ok (.aload_n 0, 1) := by decide +kernel
theorem dX3_append_30 : decode cX3_append 30 = .ok (.getfield 18, 3) := by decide +kernel
theorem dX3_append_33 : decode cX3_append 33 = .ok (.aload_n 0, 1) := by decide +kernel
theorem dX3_append_34 : decode cX3_append 34 = .ok (.getfield 22, 3) := by decide +kernel
theorem dX3_append_37 : decode cX3_append 37 = .ok (.lload_n 3, 1) := by decide +kernel
theorem dX3_append_38 : decode cX3_append 38 = .ok (.lastore, 1) := by decide +kernel
theorem dX3_append_39 : decode cX3_append 39 = .ok (.aload_n 0, 1) := by decide +kernel
theorem dX3_append_40 : decode cX3_append 40 = .ok (.dup, 1) := by decide +kernel
theorem dX3_append_41 : decode cX3_append 41 = .ok (.getfield 22, 3) := by decide +kernel
theorem dX3_append_44 : decode cX3_append 44 = .ok (.iconst 1, 1) := by decide +kernel
theorem dX3_append_45 : decode cX3_append 45 = .ok (.iadd, 1) := by decide +kernel
theorem dX3_append_46 : decode cX3_append 46 = .ok (.putfield 22, 3) := by decide +kernel
theorem dX3_append_49 : decode cX3_append 49 = .ok (.return_, 1) := by decide +kernel
theorem dX3_keeps_0 : decode cX3_keeps 0 = .ok (.iload_n 1, 1) := by decide +kernel
theorem dX3_keeps_1 : decode cX3_keeps 1 = .ok (.ifCond .lt 21, 3) := by decide +kernel
theorem dX3_keeps_4 : decode cX3_keeps 4 = .ok (.iload_n 1, 1) := by decide +kernel
theorem dX3_keeps_5 : decode cX3_keeps 5 = .ok (.aload_n 0, 1) := by decide +kernel
theorem dX3_keeps_6 : decode cX3_keeps 6 = .ok (.getfield 22, 3) := by decide +kernel
theorem dX3_keeps_9 : decode cX3_keeps 9 = .ok (.if_icmp .ge 13, 3) := by decide +kernel
theorem dX3_keeps_12 : decode cX3_keeps 12 = .ok (.iload_n 1, 1) := by decide +kernel
theorem dX3_keeps_13 : decode cX3_keeps 13 = .ok (.bipush 40, 2) := by decide +kernel
theorem dX3_keeps_15 : decode cX3_keeps 15 = .ok (.if_icmp .ge 7, 3) := by decide +kernel
theorem dX3_keeps_18 : decode cX3_keeps 18 = .ok (.iconst 1, 1) := by decide +kernel
theorem dX3_keeps_19 : decode cX3_keeps 19 = .ok (.goto 4, 3) := by decide +kernel
theorem dX3_keeps_22 : decode cX3_keeps 22 = .ok (.iconst 0, 1) := by decide +kernel
theorem dX3_keeps_23 : decode cX3_keeps 23 = .ok (.ireturn, 1) := by decide +kernel
theorem dX4_init_0 : decode cX4_init 0 = .ok (.aload_n 0, 1) := by decide +kernel
theorem dX4_init_1 : decode cX4_init 1 = .ok (.invokespecial 3, 3) := by decide +kernel
theorem dX4_init_4 : decode cX4_init 4 = .ok (.aload_n 0, 1) := by decide +kernel
theorem dX4_init_5 : decode cX4_init 5 = .ok (.bipush 10, 2) := by decide +kernel
theorem dX4_init_7 : decode cX4_init 7 = .ok (.newarray .int, 2) := by decide +kernel
theorem dX4_init_9 : decode cX4_init 9 = .ok (.putfield 9, 3) := by decide +kernel
theorem dX4_init_12 : decode cX4_init 12 = .ok (.aload_n 0, 1) := by decide +kernel
theorem dX4_init_13 : decode cX4_init 13 = .ok (.bipush 10, 2) := by decide +kernel
theorem dX4_init_15 : decode cX4_init 15 = .ok (.newarray .int, 2) := by decide +kernel
theorem dX4_init_17 : decode cX4_init 17 = .ok (.putfield 15, 3) := by decide +kernel
theorem dX4_init_20 : decode cX4_init 20 = .ok (.aload_n 0, 1) := by decide +kernel
theorem dX4_init_21 : decode cX4_init 21 = .ok (.bipush 10, 2) := by decide +kernel
theorem dX4_init_23 : decode cX4_init 23 = .ok (.newarray .int, 2) := by decide +kernel
theorem dX4_init_25 : decode cX4_init 25 = .ok (.putfield 18, 3) := by decide +kernel
theorem dX4_init_28 : decode cX4_init 28 = .ok (.aload_n 0, 1) := by decide +kernel
theorem dX4_init_29 : decode cX4_init 29 = .ok (.bipush 10, 2) := by decide +kernel
theorem dX4_init_31 : decode cX4_init 31 = .ok (.newarray .long, 2) := by decide +kernel
theorem dX4_init_33 : decode cX4_init 33 = .ok (.putfield 21, 3) := by decide +kernel
theorem dX4_init_36 : decode cX4_init 36 = .ok (.return_, 1) := by decide +kernel
theorem dX4_fits_0 : decode cX4_fits 0 = .ok (.iload_n 0, 1) := by decide +kernel
theorem dX4_fits_1 : decode cX4_fits 1 = .ok (.tableswitch 69 0 3 #[31, 37, 59, 64], 31) := by decide +kernel
theorem dX4_fits_32 : decode cX4_fits 32 = .ok (.iload_n 1, 1) := by decide +kernel
theorem dX4_fits_33 : decode cX4_fits 33 = .ok (.i2l, 1) := by decide +kernel
theorem dX4_fits_34 : decode cX4_fits 34 = .ok (.invokestatic 25, 3) := by decide +kernel
theorem dX4_fits_37 : decode cX4_fits 37 = .ok (.ireturn, 1) := by decide +kernel
theorem dX4_fits_38 : decode cX4_fits 38 = .ok (.iload_n 1, 1) := by decide +kernel
theorem dX4_fits_39 : decode cX4_fits 39 = .ok (.i2l, 1) := by decide +kernel
theorem dX4_fits_40 : decode cX4_fits 40 = .ok (.invokestatic 25, 3) := by decide +kernel
theorem dX4_fits_43 : decode cX4_fits 43 = .ok (.ifCond .eq 15, 3) := by decide +kernel
theorem dX4_fits_46 : decode cX4_fits 46 = .ok (.iload_n 2, 1) := by decide +kernel
theorem dX4_fits_47 : decode cX4_fits 47 = .ok (.i2l, 1) := by decide +kernel
theorem dX4_fits_48 : decode cX4_fits 48 = .ok (.invokestatic 25, 3) := by decide +kernel
theorem dX4_fits_51 : decode cX4_fits 51 = .ok (.ifCond .eq 7, 3) := by decide +kernel
theorem dX4_fits_54 : decode cX4_fits 54 = .ok (.iconst 1, 1) := by decide +kernel
theorem dX4_fits_55 : decode cX4_fits 55 = .ok (.goto 4, 3) := by decide +kernel
theorem dX4_fits_58 : decode cX4_fits 58 = .ok (.iconst 0, 1) := by decide +kernel
theorem dX4_fits_59 : decode cX4_fits 59 = .ok (.ireturn, 1) := by decide +kernel
theorem dX4_fits_60 : decode cX4_fits 60 = .ok (.iload_n 1, 1) := by decide +kernel
theorem dX4_fits_61 : decode cX4_fits 61 = .ok (.invokestatic 29, 3) := by decide +kernel
theorem dX4_fits_64 : decode cX4_fits 64 = .ok (.ireturn, 1) := by decide +kernel
theorem dX4_fits_65 : decode cX4_fits 65 = .ok (.iload_n 1, 1) := by decide +kernel
theorem dX4_fits_66 : decode cX4_fits 66 = .ok (.invokestatic 33, 3) := by decide +kernel
theorem dX4_fits_69 : decode cX4_fits 69 = .ok (.ireturn, 1) := by decide +kernel
theorem dX4_fits_70 : decode cX4_fits 70 = .ok (.iconst 0, 1) := by decide +kernel
theorem dX4_fits_71 : decode cX4_fits 71 = .ok (.ireturn, 1) := by decide +kernel
theorem dX4_append_0 : decode cX4_append 0 = .ok (.aload_n 0, 1) := by decide +kernel
theorem dX4_append_1 : decode cX4_append 1 = .ok (.getfield 9, 3) := by decide +kernel
theorem dX4_append_4 : decode cX4_append 4 = .ok (.aload_n 0, 1) := by decide +kernel
theorem dX4_append_5 : decode cX4_append 5 = .ok (.getfield 36, 3) := by decide +kernel
theorem dX4_append_8 : decode cX4_append 8 = .ok (.iload_n 1, 1) := by decide +kernel
theorem dX4_append_9 : decode cX4_append 9 = .ok (.iastore, 1) := by decide +kernel
theorem dX4_append_10 : decode cX4_append 10 = .ok (.aload_n 0, 1) := by decide +kernel
theorem dX4_append_11 : decode cX4_append 11 = .ok (.getfield 15, 3) := by decide +kernel
theorem dX4_append_14 : decode cX4_append 14 = .ok (.aload_n 0, 1) := by decide +kernel
theorem dX4_append_15 : decode cX4_append 15 = .ok (.getfield 36, 3) := by decide +kernel
theorem dX4_append_18 : decode cX4_append 18 = .ok (.iload_n 2, 1) := by decide +kernel
theorem dX4_append_19 : decode cX4_append 19 = .ok (.iastore, 1) := by decide +kernel
theorem dX4_append_20 : decode cX4_append 20 = .ok (.aload_n 0, 1) := by decide +kernel
theorem dX4_append_21 : decode cX4_append 21 = .ok (.getfield 18, 3) := by decide +kernel
theorem dX4_append_24 : decode cX4_append 24 = .ok (.aload_n 0, 1) := by decide +kernel
theorem dX4_append_25 : decode cX4_append 25 = .ok (.getfield 36, 3) := by decide +kernel
theorem dX4_append_28 : decode cX4_append 28 = .ok (.iload_n 3, 1) := by decide +kernel
theorem dX4_append_29 : decode cX4_append 29 = .ok (.iastore, 1) := by decide +kernel
theorem dX4_append_30 : decode cX4_append 30 = .ok (.aload_n 0, 1) := by decide +kernel
theorem dX4_append_31 : decode cX4_append 31 = .ok (.getfield 21, 3) := by decide +kernel
theorem dX4_append_34 : decode cX4_append 34 = .ok (.aload_n 0, 1) := by decide +kernel
theorem dX4_append_35 : decode cX4_append 35 = .ok (.getfield 36, 3) := by decide +kernel
theorem dX4_append_38 : decode cX4_append 38 = .ok (.lload 4, 2) := by decide +kernel
theorem dX4_append_40 : decode cX4_append 40 = .ok (.lastore, 1) := by decide +kernel
theorem dX4_append_41 : decode cX4_append 41 = .ok (.aload_n 0, 1) := by decide +kernel
theorem dX4_append_42 : decode cX4_append 42 = .ok (.dup, 1) := by decide +kernel
theorem dX4_append_43 : decode cX4_append 43 = .ok (.getfield 36, 3) := by decide +kernel
theorem dX4_append_46 : decode cX4_append 46 = .ok (.iconst 1, 1) := by decide +kernel
theorem dX4_append_47 : decode cX4_append 47 = .ok (.iadd, 1) := by decide +kernel
theorem dX4_append_48 : decode cX4_append 48 = .ok (.putfield 36, 3) := by decide +kernel
theorem dX4_append_51 : decode cX4_append 51 = .ok (.aload_n 0, 1) := by decide +kernel
theorem dX4_append_52 : decode cX4_append 52 = .ok (.getfield 36, 3) := by decide +kernel
theorem dX4_append_55 : decode cX4_append 55 = .ok (.iconst 1, 1) := by decide +kernel
theorem dX4_append_56 : decode cX4_append 56 = .ok (.isub, 1) := by decide +kernel
theorem dX4_append_57 : decode cX4_append 57 = .ok (.ireturn, 1) := by decide +kernel
theorem dX4_leastBroken_0 : decode cX4_leastBroken 0 = .ok (.iconst 0, 1) := by decide +kernel
theorem dX4_leastBroken_1 : decode cX4_leastBroken 1 = .ok (.istore_n 2, 1) := by decide +kernel
theorem dX4_leastBroken_2 : decode cX4_leastBroken 2 = .ok (.iload_n 2, 1) := by decide +kernel
theorem dX4_leastBroken_3 : decode cX4_leastBroken 3 = .ok (.aload_n 0, 1) := by decide +kernel
theorem dX4_leastBroken_4 : decode cX4_leastBroken 4 = .ok (.getfield 36, 3) := by decide +kernel
theorem dX4_leastBroken_7 : decode cX4_leastBroken 7 = .ok (.if_icmp .ge 20, 3) := by decide +kernel
theorem dX4_leastBroken_10 : decode cX4_leastBroken 10 = .ok (.aload_n 0, 1) := by decide +kernel
theorem dX4_leastBroken_11 : decode cX4_leastBroken 11 = .ok (.iload_n 2, 1) := by decide +kernel
theorem dX4_leastBroken_12 : decode cX4_leastBroken 12 = .ok (.aload_n 1, 1) := by decide +kernel
theorem dX4_leastBroken_13 : decode cX4_leastBroken 13 = .ok (.invokevirtual 40, 3) := by decide +kernel
theorem dX4_leastBroken_16 : decode cX4_leastBroken 16 = .ok (.ifCond .ne 5, 3) := by decide +kernel
theorem dX4_leastBroken_19 : decode cX4_leastBroken 19 = .ok (.iload_n 2, 1) := by decide +kernel
theorem dX4_leastBroken_20 : decode cX4_leastBroken 20 = .ok (.ireturn, 1) := by decide +kernel
theorem dX4_leastBroken_21 : decode cX4_leastBroken 21 = .ok (.iinc 2 1, 3) := by decide +kernel
theorem dX4_leastBroken_24 : decode cX4_leastBroken 24 = .ok (.goto (-22), 3) := by decide +kernel
theorem dX4_leastBroken_27 : decode cX4_leastBroken 27 = .ok (.iconst (-1), 1) := by decide +kernel
theorem dX4_leastBroken_28 : decode cX4_leastBroken 28 = .ok (.ireturn, 1) := by decide +kernel
theorem dX4_isKept_0 : decode cX4_isKept 0 = .ok (.aload_n 0, 1) := by decide +kernel
theorem dX4_isKept_1 : decode cX4_isKept 1 = .ok (.getfield 9, 3) := by decide +kernel
theorem dX4_isKept_4 : decode cX4_isKept 4 = .ok (.iload_n 1, 1) := by decide +kernel
theorem dX4_isKept_5 : decode cX4_isKept 5 = .ok (.iaload, 1) := by decide +kernel
theorem dX4_isKept_6 : decode cX4_isKept 6 = .ok (.tableswitch 156 0 2 #[26, 68, 130], 26) := by decide +kernel
theorem dX4_isKept_32 : decode cX4_isKept 32 = .ok (.aload_n 2, 1) := by decide +kernel
theorem dX4_isKept_33 : decode cX4_isKept 33 = .ok (.getfield 44, 3) := by decide +kernel
theorem dX4_isKept_36 : decode cX4_isKept 36 = .ok (.aload_n 0, 1) := by decide +kernel
theorem dX4_isKept_37 : decode cX4_isKept 37 = .ok (.getfield 15, 3) := by decide +kernel
theorem dX4_isKept_40 : decode cX4_isKept 40 = .ok (.iload_n 1, 1) := by decide +kernel
theorem dX4_isKept_41 : decode cX4_isKept 41 = .ok (.iaload, 1) := by decide +kernel
theorem dX4_isKept_42 : decode cX4_isKept 42 = .ok (.iaload, 1) := by decide +kernel
theorem dX4_isKept_43 : decode cX4_isKept 43 = .ok (.iconst 1, 1) := by decide +kernel
theorem dX4_isKept_44 : decode cX4_isKept 44 = .ok (.if_icmp .ne 24, 3) := by decide +kernel
theorem dX4_isKept_47 : decode cX4_isKept 47 = .ok (.aload_n 2, 1) := by decide +kernel
theorem dX4_isKept_48 : decode cX4_isKept 48 = .ok (.getfield 49, 3) := by decide +kernel
theorem dX4_isKept_51 : decode cX4_isKept 51 = .ok (.aload_n 0, 1) := by decide +kernel
theorem dX4_isKept_52 : decode cX4_isKept 52 = .ok (.getfield 15, 3) := by decide +kernel
theorem dX4_isKept_55 : decode cX4_isKept 55 = .ok (.iload_n 1, 1) := by decide +kernel
theorem dX4_isKept_56 : decode cX4_isKept 56 = .ok (.iaload, 1) := by decide +kernel
theorem dX4_isKept_57 : decode cX4_isKept 57 = .ok (.laload, 1) := by decide +kernel
theorem dX4_isKept_58 : decode cX4_isKept 58 = .ok (.aload_n 0, 1) := by decide +kernel
theorem dX4_isKept_59 : decode cX4_isKept 59 = .ok (.getfield 21, 3) := by decide +kernel
theorem dX4_isKept_62 : decode cX4_isKept 62 = .ok (.iload_n 1, 1) := by decide +kernel
theorem dX4_isKept_63 : decode cX4_isKept 63 = .ok (.laload, 1) := by decide +kernel
theorem dX4_isKept_64 : decode cX4_isKept 64 = .ok (.lcmp, 1) := by decide +kernel
theorem dX4_isKept_65 : decode cX4_isKept 65 = .ok (.ifCond .lt 7, 3) := by decide +kernel
theorem dX4_isKept_68 : decode cX4_isKept 68 = .ok (.iconst 1, 1) := by decide +kernel
theorem dX4_isKept_69 : decode cX4_isKept 69 = .ok (.goto 4, 3) := by decide +kernel
theorem dX4_isKept_72 : decode cX4_isKept 72 = .ok (.iconst 0, 1) := by decide +kernel
theorem dX4_isKept_73 : decode cX4_isKept 73 = .ok (.ireturn, 1) := by decide +kernel
theorem dX4_isKept_74 : decode cX4_isKept 74 = .ok (.aload_n 2, 1) := by decide +kernel
theorem dX4_isKept_75 : decode cX4_isKept 75 = .ok (.getfield 44, 3) := by decide +kernel
theorem dX4_isKept_78 : decode cX4_isKept 78 = .ok (.aload_n 0, 1) := by decide +kernel
theorem dX4_isKept_79 : decode cX4_isKept 79 = .ok (.getfield 15, 3) := by decide +kernel
theorem dX4_isKept_82 : decode cX4_isKept 82 = .ok (.iload_n 1, 1) := by decide +kernel
theorem dX4_isKept_83 : decode cX4_isKept 83 = .ok (.iaload, 1) := by decide +kernel
theorem dX4_isKept_84 : decode cX4_isKept 84 = .ok (.iaload, 1) := by decide +kernel
theorem dX4_isKept_85 : decode cX4_isKept 85 = .ok (.iconst 1, 1) := by decide +kernel
theorem dX4_isKept_86 : decode cX4_isKept 86 = .ok (.if_icmp .ne 44, 3) := by decide +kernel
theorem dX4_isKept_89 : decode cX4_isKept 89 = .ok (.aload_n 2, 1) := by decide +kernel
theorem dX4_isKept_90 : decode cX4_isKept 90 = .ok (.getfield 44, 3) := by decide +kernel
theorem dX4_isKept_93 : decode cX4_isKept 93 = .ok (.aload_n 0, 1) := by decide +kernel
theorem dX4_isKept_94 : decode cX4_isKept 94 = .ok (.getfield 18, 3) := by decide +kernel
theorem dX4_isKept_97 : decode cX4_isKept 97 = .ok (.iload_n 1, 1) := by decide +kernel
theorem dX4_isKept_98 : decode cX4_isKept 98 = .ok (.iaload, 1) := by decide +kernel
theorem dX4_isKept_99 : decode cX4_isKept 99 = .ok (.iaload, 1) := by decide +kernel
theorem dX4_isKept_100 : decode cX4_isKept 100 = .ok (.iconst 1, 1) := by decide +kernel
theorem dX4_isKept_101 : decode cX4_isKept 101 = .ok (.if_icmp .ne 29, 3) := by decide +kernel
theorem dX4_isKept_104 : decode cX4_isKept 104 = .ok (.aload_n 2, 1) := by decide +kernel
theorem dX4_isKept_105 : decode cX4_isKept 105 = .ok (.getfield 49, 3) := by decide +kernel
theorem dX4_isKept_108 : decode cX4_isKept 108 = .ok (.aload_n 0, 1) := by decide +kernel
theorem dX4_isKept_109 : decode cX4_isKept 109 = .ok (.getfield 15, 3) := by decide +kernel
theorem dX4_isKept_112 : decode cX4_isKept 112 = .ok (.iload_n 1, 1) := by decide +kernel
theorem dX4_isKept_113 : decode cX4_isKept 113 = .ok (.iaload, 1) := by decide +kernel
theorem dX4_isKept_114 : decode cX4_isKept 114 = .ok (.laload, 1) := by decide +kernel
theorem dX4_isKept_115 : decode cX4_isKept 115 = .ok (.aload_n 2, 1) := by decide +kernel
theorem dX4_isKept_116 : decode cX4_isKept 116 = .ok (.getfield 49, 3) := by decide +kernel
theorem dX4_isKept_119 : decode cX4_isKept 119 = .ok (.aload_n 0, 1) := by decide +kernel
theorem dX4_isKept_120 : decode cX4_isKept 120 = .ok (.getfield 18, 3) := by decide +kernel
theorem dX4_isKept_123 : decode cX4_isKept 123 = .ok (.iload_n 1, 1) := by decide +kernel
theorem dX4_isKept_124 : decode cX4_isKept 124 = .ok (.iaload, 1) := by decide +kernel
theorem dX4_isKept_125 : decode cX4_isKept 125 = .ok (.laload, 1) := by decide +kernel
theorem dX4_isKept_126 : decode cX4_isKept 126 = .ok (.lcmp, 1) := by decide +kernel
theorem dX4_isKept_127 : decode cX4_isKept 127 = .ok (.ifCond .gt 7, 3) := by decide +kernel
theorem dX4_isKept_130 : decode cX4_isKept 130 = .ok (.iconst 1, 1) := by decide +kernel
theorem dX4_isKept_131 : decode cX4_isKept 131 = .ok (.goto 4, 3) := by decide +kernel
theorem dX4_isKept_134 : decode cX4_isKept 134 = .ok (.iconst 0, 1) := by decide +kernel
theorem dX4_isKept_135 : decode cX4_isKept 135 = .ok (.ireturn, 1) := by decide +kernel
theorem dX4_isKept_136 : decode cX4_isKept 136 = .ok (.aload_n 2, 1) := by decide +kernel
theorem dX4_isKept_137 : decode cX4_isKept 137 = .ok (.aload_n 0, 1) := by decide +kernel
theorem dX4_isKept_138 : decode cX4_isKept 138 = .ok (.getfield 15, 3) := by decide +kernel
theorem dX4_isKept_141 : decode cX4_isKept 141 = .ok (.iload_n 1, 1) := by decide +kernel
theorem dX4_isKept_142 : decode cX4_isKept 142 = .ok (.iaload, 1) := by decide +kernel
theorem dX4_isKept_143 : decode cX4_isKept 143 = .ok (.invokevirtual 52, 3) := by decide +kernel
theorem dX4_isKept_146 : decode cX4_isKept 146 = .ok (.aload_n 0, 1) := by decide +kernel
theorem dX4_isKept_147 : decode cX4_isKept 147 = .ok (.getfield 21, 3) := by decide +kernel
theorem dX4_isKept_150 : decode cX4_isKept 150 = .ok (.iload_n 1, 1) := by decide +kernel
theorem dX4_isKept_151 : decode cX4_isKept 151 = .ok (.laload, 1) := by decide +kernel
theorem dX4_isKept_152 : decode cX4_isKept 152 = .ok (.lcmp, 1) := by decide +kernel
theorem dX4_isKept_153 : decode cX4_isKept 153 = .ok (.ifCond .lt 7, 3) := by decide +kernel
theorem dX4_isKept_156 : decode cX4_isKept 156 = .ok (.iconst 1, 1) := by decide +kernel
theorem dX4_isKept_157 : decode cX4_isKept 157 = .ok (.goto 4, 3) := by decide +kernel
theorem dX4_isKept_160 : decode cX4_isKept 160 = .ok (.iconst 0, 1) := by decide +kernel
theorem dX4_isKept_161 : decode cX4_isKept 161 = .ok (.ireturn, 1) := by decide +kernel
theorem dX4_isKept_162 : decode cX4_isKept 162 = .ok (.aload_n 2, 1) := by decide +kernel
theorem dX4_isKept_163 : decode cX4_isKept 163 = .ok (.aload_n 0, 1) := by decide +kernel
theorem dX4_isKept_164 : decode cX4_isKept 164 = .ok (.getfield 15, 3) := by decide +kernel
theorem dX4_isKept_167 : decode cX4_isKept 167 = .ok (.iload_n 1, 1) := by decide +kernel
theorem dX4_isKept_168 : decode cX4_isKept 168 = .ok (.iaload, 1) := by decide +kernel
theorem dX4_isKept_169 : decode cX4_isKept 169 = .ok (.invokevirtual 56, 3) := by decide +kernel
theorem dX4_isKept_172 : decode cX4_isKept 172 = .ok (.aload_n 0, 1) := by decide +kernel
theorem dX4_isKept_173 : decode cX4_isKept 173 = .ok (.getfield 21, 3) := by decide +kernel
theorem dX4_isKept_176 : decode cX4_isKept 176 = .ok (.iload_n 1, 1) := by decide +kernel
theorem dX4_isKept_177 : decode cX4_isKept 177 = .ok (.laload, 1) := by decide +kernel
theorem dX4_isKept_178 : decode cX4_isKept 178 = .ok (.lcmp, 1) := by decide +kernel
theorem dX4_isKept_179 : decode cX4_isKept 179 = .ok (.ifCond .lt 7, 3) := by decide +kernel
theorem dX4_isKept_182 : decode cX4_isKept 182 = .ok (.iconst 1, 1) := by decide +kernel
theorem dX4_isKept_183 : decode cX4_isKept 183 = .ok (.goto 4, 3) := by decide +kernel
theorem dX4_isKept_186 : decode cX4_isKept 186 = .ok (.iconst 0, 1) := by decide +kernel
theorem dX4_isKept_187 : decode cX4_isKept 187 = .ok (.ireturn, 1) := by decide +kernel
theorem dX5_init_0 : decode cX5_init 0 = .ok (.aload_n 0, 1) := by decide +kernel
theorem dX5_init_1 : decode cX5_init 1 = .ok (.invokespecial 3, 3) := by decide +kernel
theorem dX5_init_4 : decode cX5_init 4 = .ok (.aload_n 0, 1) := by decide +kernel
theorem dX5_init_5 : decode cX5_init 5 = .ok (.new 9, 3) := by decide +kernel
theorem dX5_init_8 : decode cX5_init 8 = .ok (.dup, 1) := by decide +kernel
theorem dX5_init_9 : decode cX5_init 9 = .ok (.invokespecial 11, 3) := by decide +kernel
theorem dX5_init_12 : decode cX5_init 12 = .ok (.putfield 12, 3) := by decide +kernel
theorem dX5_init_15 : decode cX5_init 15 = .ok (.aload_n 0, 1) := by decide +kernel
theorem dX5_init_16 : decode cX5_init 16 = .ok (.bipush 40, 2) := by decide +kernel
theorem dX5_init_18 : decode cX5_init 18 = .ok (.newarray .int, 2) := by decide +kernel
theorem dX5_init_20 : decode cX5_init 20 = .ok (.putfield 18, 3) := by decide +kernel
