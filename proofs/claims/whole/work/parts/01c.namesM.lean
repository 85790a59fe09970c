theorem dX8_init_0 : decode cX8_init 0 = .ok (.aload_n 0, 1) := by decide +kernel
theorem dX8_init_1 : decode cX8_init 1 = .ok (.invokespecial 1, 3) := by decide +kernel
theorem dX8_init_4 : decode cX8_init 4 = .ok (.aload_n 0, 1) := by decide +kernel
theorem dX8_init_5 : decode cX8_init 5 = .ok (.bipush 8, 2) := by decide +kernel
theorem dX8_init_7 : decode cX8_init 7 = .ok (.newarray .int, 2) := by decide +kernel
theorem dX8_init_9 : decode cX8_init 9 = .ok (.putfield 7, 3) := by decide +kernel
theorem dX8_init_12 : decode cX8_init 12 = .ok (.aload_n 0, 1) := by decide +kernel
theorem dX8_init_13 : decode cX8_init 13 = .ok (.bipush 50, 2) := by decide +kernel
theorem dX8_init_15 : decode cX8_init 15 = .ok (.putfield 13, 3) := by decide +kernel
theorem dX8_init_18 : decode cX8_init 18 = .ok (.aload_n 0, 1) := by decide +kernel
theorem dX8_init_19 : decode cX8_init 19 = .ok (.bipush 10, 2) := by decide +kernel
theorem dX8_init_21 : decode cX8_init 21 = .ok (.putfield 17, 3) := by decide +kernel
theorem dX8_init_24 : decode cX8_init 24 = .ok (.aload_n 0, 1) := by decide +kernel
theorem dX8_init_25 : decode cX8_init 25 = .ok (.bipush 6, 2) := by decide +kernel
theorem dX8_init_27 : decode cX8_init 27 = .ok (.putfield 20, 3) := by decide +kernel
theorem dX8_init_30 : decode cX8_init 30 = .ok (.aload_n 0, 1) := by decide +kernel
theorem dX8_init_31 : decode cX8_init 31 = .ok (.bipush 40, 2) := by decide +kernel
theorem dX8_init_33 : decode cX8_init 33 = .ok (.newarray .int, 2) := by decide +kernel
theorem dX8_init_35 : decode cX8_init 35 = .ok (.putfield 23, 3) := by decide +kernel
theorem dX8_init_38 : decode cX8_init 38 = .ok (.aload_n 0, 1) := by decide +kernel
theorem dX8_init_39 : decode cX8_init 39 = .ok (.bipush 40, 2) := by decide +kernel
theorem dX8_init_41 : decode cX8_init 41 = .ok (.newarray .int, 2) := by decide +kernel
theorem dX8_init_43 : decode cX8_init 43 = .ok (.putfield 26, 3) := by decide +kernel
theorem dX8_init_46 : decode cX8_init 46 = .ok (.aload_n 0, 1) := by decide +kernel
theorem dX8_init_47 : decode cX8_init 47 = .ok (.sipush 320, 3) := by decide +kernel
theorem dX8_init_50 : decode cX8_init 50 = .ok (.newarray .int, 2) := by decide +kernel
theorem dX8_init_52 : decode cX8_init 52 = .ok (.putfield 29, 3) := by decide +kernel
theorem dX8_init_55 : decode cX8_init 55 = .ok (.aload_n 0, 1) := by decide +kernel
theorem dX8_init_56 : decode cX8_init 56 = .ok (.sipush 320, 3) := by decide +kernel
theorem dX8_init_59 : decode cX8_init 59 = .ok (.newarray .int, 2) := by decide +kernel
theorem dX8_init_61 : decode cX8_init 61 = .ok (.putfield 32, 3) := by decide +kernel
theorem dX8_init_64 : decode cX8_init 64 = .ok (.aload_n 0, 1) := by decide +kernel
theorem dX8_init_65 : decode cX8_init 65 = .ok (.bipush 40, 2) := by decide +kernel
theorem dX8_init_67 : decode cX8_init 67 = .ok (.newarray .int, 2) := by decide +kernel
theorem dX8_init_69 : decode cX8_init 69 = .ok (.putfield 35, 3) := by decide +kernel
theorem dX8_init_72 : decode cX8_init 72 = .ok (.aload_n 0, 1) := by decide +kernel
theorem dX8_init_73 : decode cX8_init 73 = .ok (.bipush 60, 2) := by decide +kernel
theorem dX8_init_75 : decode cX8_init 75 = .ok (.newarray .int, 2) := by decide +kernel
theorem dX8_init_77 : decode cX8_init 77 = .ok (.putfield 38, 3) := by decide +kernel
theorem dX8_init_80 : decode cX8_init 80 = .ok (.aload_n 0, 1) := by decide +kernel
theorem dX8_init_81 : decode cX8_init 81 = .ok (.bipush 60, 2) := by decide +kernel
theorem dX8_init_83 : decode cX8_init 83 = .ok (.newarray .int, 2) := by decide +kernel
theorem dX8_init_85 : decode cX8_init 85 = .ok (.putfield 41, 3) := by decide +kernel
theorem dX8_init_88 : decode cX8_init 88 = .ok (.aload_n 0, 1) := by decide +kernel
theorem dX8_init_89 : decode cX8_init 89 = .ok (.sipush 480, 3) := by decide +kernel
theorem dX8_init_92 : decode cX8_init 92 = .ok (.newarray .int, 2) := by decide +kernel
theorem dX8_init_94 : decode cX8_init 94 = .ok (.putfield 44, 3) := by decide +kernel
theorem dX8_init_97 : decode cX8_init 97 = .ok (.aload_n 0, 1) := by decide +kernel
theorem dX8_init_98 : decode cX8_init 98 = .ok (.bipush 60, 2) := by decide +kernel
theorem dX8_init_100 : decode cX8_init 100 = .ok (.newarray .boolean, 2) := by decide +kernel
theorem dX8_init_102 : decode cX8_init 102 = .ok (.putfield 47, 3) := by decide +kernel
theorem dX8_init_105 : decode cX8_init 105 = .ok (.aload_n 0, 1) := by decide +kernel
theorem dX8_init_106 : decode cX8_init 106 = .ok (.bipush 60, 2) := by decide +kernel
theorem dX8_init_108 : decode cX8_init 108 = .ok (.newarray .int, 2) := by decide +kernel
theorem dX8_init_110 : decode cX8_init 110 = .ok (.putfield 51, 3) := by decide +kernel
theorem dX8_init_113 : decode cX8_init 113 = .ok (.aload_n 0, 1) := by decide +kernel
theorem dX8_init_114 : decode cX8_init 114 = .ok (.bipush 60, 2) := by decide +kernel
theorem dX8_init_116 : decode cX8_init 116 = .ok (.newarray .int, 2) := by decide +kernel
theorem dX8_init_118 : decode cX8_init 118 = .ok (.putfield 54, 3) := by decide +kernel
theorem dX8_init_121 : decode cX8_init 121 = .ok (.aload_n 0, 1) := by decide +kernel
theorem dX8_init_122 : decode cX8_init 122 = .ok (.bipush 60, 2) := by decide +kernel
theorem dX8_init_124 : decode cX8_init 124 = .ok (.newarray .int, 2) := by decide +kernel
theorem dX8_init_126 : decode cX8_init 126 = .ok (.putfield 57, 3) := by decide +kernel
theorem dX8_init_129 : decode cX8_init 129 = .ok (.aload_n 0, 1) := by decide +kernel
theorem dX8_init_130 : decode cX8_init 130 = .ok (.sipush 480, 3) := by decide +kernel
theorem dX8_init_133 : decode cX8_init 133 = .ok (.newarray .int, 2) := by decide +kernel
theorem dX8_init_135 : decode cX8_init 135 = .ok (.putfield 60, 3) := by decide +kernel
theorem dX8_init_138 : decode cX8_init 138 = .ok (.aload_n 0, 1) := by decide +kernel
theorem dX8_init_139 : decode cX8_init 139 = .ok (.bipush 60, 2) := by decide +kernel
theorem dX8_init_141 : decode cX8_init 141 = .ok (.newarray .int, 2) := by decide +kernel
theorem dX8_init_143 : decode cX8_init 143 = .ok (.putfield 63, 3) := by decide +kernel
theorem dX8_init_146 : decode cX8_init 146 = .ok (.aload_n 0, 1) := by decide +kernel
theorem dX8_init_147 : decode cX8_init 147 = .ok (.bipush 60, 2) := by decide +kernel
theorem dX8_init_149 : decode cX8_init 149 = .ok (.newarray .int, 2) := by decide +kernel
theorem dX8_init_151 : decode cX8_init 151 = .ok (.putfield 66, 3) := by decide +kernel
theorem dX8_init_154 : decode cX8_init 154 = .ok (.aload_n 0, 1) := by decide +kernel
theorem dX8_init_155 : decode cX8_init 155 = .ok (.sipush 600, 3) := by decide +kernel
theorem dX8_init_158 : decode cX8_init 158 = .ok (.newarray .int, 2) := by decide +kernel
theorem dX8_init_160 : decode cX8_init 160 = .ok (.putfield 69, 3) := by decide +kernel
theorem dX8_init_163 : decode cX8_init 163 = .ok (.aload_n 0, 1) := by decide +kernel
theorem dX8_init_164 : decode cX8_init 164 = .ok (.sipush 200, 3) := by decide +kernel
theorem dX8_init_167 : decode cX8_init 167 = .ok (.newarray .int, 2) := by decide +kernel
theorem dX8_init_169 : decode cX8_init 169 = .ok (.putfield 72, 3) := by decide +kernel
theorem dX8_init_172 : decode cX8_init 172 = .ok (.aload_n 0, 1) := by decide +kernel
theorem dX8_init_173 : decode cX8_init 173 = .ok (.bipush 40, 2) := by decide +kernel
theorem dX8_init_175 : decode cX8_init 175 = .ok (.newarray .int, 2) := by decide +kernel
theorem dX8_init_177 : decode cX8_init 177 = .ok (.putfield 75, 3) := by decide +kernel
theorem dX8_init_180 : decode cX8_init 180 = .ok (.aload_n 0, 1) := by decide +kernel
theorem dX8_init_181 : decode cX8_init 181 = .ok (.iconst 4, 1) := by decide +kernel
theorem dX8_init_182 : decode cX8_init 182 = .ok (.newarray .int, 2) := by decide +kernel
theorem dX8_init_184 : decode cX8_init 184 = .ok (.putfield 78, 3) := by decide +kernel
theorem dX8_init_187 : decode cX8_init 187 = .ok (.aload_n 0, 1) := by decide +kernel
theorem dX8_init_188 : decode cX8_init 188 = .ok (.iconst 4, 1) := by decide +kernel
theorem dX8_init_189 : decode cX8_init 189 = .ok (.newarray .int, 2) := by decide +kernel
theorem dX8_init_191 : decode cX8_init 191 = .ok (.putfield 81, 3) := by decide +kernel
theorem dX8_init_194 : decode cX8_init 194 = .ok (.aload_n 0, 1) := by decide +kernel
theorem dX8_init_195 : decode cX8_init 195 = .ok (.bipush 8, 2) := by decide +kernel
theorem dX8_init_197 : decode cX8_init 197 = .ok (.newarray .int, 2) := by decide +kernel
theorem dX8_init_199 : decode cX8_init 199 = .ok (.putfield 84, 3) := by decide +kernel
theorem dX8_init_202 : decode cX8_init 202 = .ok (.aload_n 0, 1) := by decide +kernel
theorem dX8_init_203 : decode cX8_init 203 = .ok (.bipush 81, 2) := by decide +kernel
theorem dX8_init_205 : decode cX8_init 205 = .ok (.newarray .int, 2) := by decide +kernel
theorem dX8_init_207 : decode cX8_init 207 = .ok (.putfield 87, 3) := by decide +kernel
theorem dX8_init_210 : decode cX8_init 210 = .ok (.iconst 0, 1) := by decide +kernel
theorem dX8_init_211 : decode cX8_init 211 = .ok (.istore_n 1, 1) := by decide +kernel
theorem dX8_init_212 : decode cX8_init 212 = .ok (.iload_n 1, 1) := by decide +kernel
theorem dX8_init_213 : decode cX8_init 213 = .ok (.sipush 600, 3) := by decide +kernel
theorem dX8_init_216 : decode cX8_init 216 = .ok (.if_icmp .ge 16, 3) := by decide +kernel
theorem dX8_init_219 : decode cX8_init 219 = .ok (.aload_n 0, 1) := by decide +kernel
theorem dX8_init_220 : decode cX8_init 220 = .ok (.getfield 69, 3) := by decide +kernel
theorem dX8_init_223 : decode cX8_init 223 = .ok (.iload_n 1, 1) := by decide +kernel
theorem dX8_init_224 : decode cX8_init 224 = .ok (.iconst (-1), 1) := by decide +kernel
theorem dX8_init_225 : decode cX8_init 225 = .ok (.iastore, 1) := by decide +kernel
theorem dX8_init_226 : decode cX8_init 226 = .ok (.iinc 1 1, 3) := by decide +kernel
theorem dX8_init_229 : decode cX8_init 229 = .ok (.goto (-17), 3) := by decide +kernel
theorem dX8_init_232 : decode cX8_init 232 = .ok (.return_, 1) := by decide +kernel
theorem dX8_thrown_0 : decode cX8_thrown 0 = .ok (.aload_n 0, 1) := by decide +kernel
theorem dX8_thrown_1 : decode cX8_thrown 1 = .ok (.getfield 90, 3) := by decide +kernel
theorem dX8_thrown_4 : decode cX8_thrown 4 = .ok (.ireturn, 1) := by decide +kernel
theorem dX8_holds_0 : decode cX8_holds 0 = .ok (.aload_n 0, 1) := by decide +kernel
theorem dX8_holds_1 : decode cX8_holds 1 = .ok (.iload_n 1, 1) := by decide +kernel
theorem dX8_holds_2 : decode cX8_holds 2 = .ok (.putfield 90, 3) := by decide +kernel
theorem dX8_holds_5 : decode cX8_holds 5 = .ok (.iload_n 1, 1) := by decide +kernel
theorem dX8_holds_6 : decode cX8_holds 6 = .ok (.ifCond .ne 7, 3) := by decide +kernel
theorem dX8_holds_9 : decode cX8_holds 9 = .ok (.iconst 1, 1) := by decide +kernel
theorem dX8_holds_10 : decode cX8_holds 10 = .ok (.goto 4, 3) := by decide +kernel
theorem dX8_holds_13 : decode cX8_holds 13 = .ok (.iconst 0, 1) := by decide +kernel
theorem dX8_holds_14 : decode cX8_holds 14 = .ok (.ireturn, 1) := by decide +kernel
theorem dX8_isIn_0 : decode cX8_isIn 0 = .ok (.iload_n 0, 1) := by decide +kernel
theorem dX8_isIn_1 : decode cX8_isIn 1 = .ok (.ifCond .lt 12, 3) := by decide +kernel
theorem dX8_isIn_4 : decode cX8_isIn 4 = .ok (.iload_n 0, 1) := by decide +kernel
theorem dX8_isIn_5 : decode cX8_isIn 5 = .ok (.iload_n 1, 1) := by decide +kernel
theorem dX8_isIn_6 : decode cX8_isIn 6 = .ok (.if_icmp .ge 7, 3) := by decide +kernel
theorem dX8_isIn_9 : decode cX8_isIn 9 = .ok (.iconst 1, 1) := by decide +kernel
theorem dX8_isIn_10 : decode cX8_isIn 10 = .ok (.goto 4, 3) := by decide +kernel
theorem dX8_isIn_13 : decode cX8_isIn 13 = .ok (.iconst 0, 1) := by decide +kernel
theorem dX8_isIn_14 : decode cX8_isIn 14 = .ok (.ireturn, 1) := by decide +kernel
theorem dX8_at_0 : decode cX8_at 0 = .ok (.bipush 50, 2) := by decide +kernel
theorem dX8_at_2 : decode cX8_at 2 = .ok (.iload_n 0, 1) := by decide +kernel
theorem dX8_at_3 : decode cX8_at 3 = .ok (.imul, 1) := by decide +kernel
theorem dX8_at_4 : decode cX8_at 4 = .ok (.iload_n 1, 1) := by decide +kernel
theorem dX8_at_5 : decode cX8_at 5 = .ok (.iadd, 1) := by decide +kernel
theorem dX8_at_6 : decode cX8_at 6 = .ok (.ireturn, 1) := by decide +kernel
set_option maxRecDepth 20000 in
theorem ggX8_rulingOf_X8_at : GoodIn wsX8_rulingOf wsX8_at := goodIn_r _ [5] (by decide +kernel) (by decide +kernel)
set_option maxRecDepth 20000 in
theorem gX8_rulingOf_X8_at : GoodIn wsX8_rulingOf (va_wsS RX8 93 yX8_at wsX8_at) := goodIn_app (goodIn_of _ (by decide +kernel)) ggX8_rulingOf_X8_at
theorem dX8_rulingOf_0 : decode cX8_rulingOf 0 = .ok (.aload_n 0, 1) := by decide +kernel
theorem dX8_rulingOf_1 : decode cX8_rulingOf 1 = .ok (.getfield 69, 3) := by decide +kernel
theorem dX8_rulingOf_4 : decode cX8_rulingOf 4 = .ok (.iload_n 1, 1) := by decide +kernel
theorem dX8_rulingOf_5 : decode cX8_rulingOf 5 = .ok (.iload_n 2, 1) := by decide +kernel
theorem dX8_rulingOf_6 : decode cX8_rulingOf 6 = .ok (.invokestatic 93, 3) := by decide +kernel
theorem dX8_rulingOf_9 : decode cX8_rulingOf 9 = .ok (.iaload, 1) := by decide +kernel
theorem dX8_rulingOf_10 : decode cX8_rulingOf 10 = .ok (.istore_n 3, 1) := by decide +kernel
theorem dX8_rulingOf_11 : decode cX8_rulingOf 11 = .ok (.aload_n 0, 1) := by decide +kernel
theorem dX8_rulingOf_12 : decode cX8_rulingOf 12 = .ok (.getfield 69, 3) := by decide +kernel
theorem dX8_rulingOf_15 : decode cX8_rulingOf 15 = .ok (.sipush 200, 3) := by decide +kernel
theorem dX8_rulingOf_18 : decode cX8_rulingOf 18 = .ok (.iload_n 1, 1) := by decide +kernel
theorem dX8_rulingOf_19 : decode cX8_rulingOf 19 = .ok (.iload_n 2, 1) := by decide +kernel
theorem dX8_rulingOf_20 : decode cX8_rulingOf 20 = .ok (.invokestatic 93, 3) := by decide +kernel
theorem dX8_rulingOf_23 : decode cX8_rulingOf 23 = .ok (.iadd, 1) := by decide +kernel
theorem dX8_rulingOf_24 : decode cX8_rulingOf 24 = .ok (.iaload, 1) := by decide +kernel
theorem dX8_rulingOf_25 : decode cX8_rulingOf 25 = .ok (.istore 4, 2) := by decide +kernel
theorem dX8_rulingOf_27 : decode cX8_rulingOf 27 = .ok (.aload_n 0, 1) := by decide +kernel
theorem dX8_rulingOf_28 : decode cX8_rulingOf 28 = .ok (.getfield 69, 3) := by decide +kernel
theorem dX8_rulingOf_31 : decode cX8_rulingOf 31 = .ok (.sipush 400, 3) := by decide +kernel
theorem dX8_rulingOf_34 : decode cX8_rulingOf 34 = .ok (.iload_n 1, 1) := by decide +kernel
theorem dX8_rulingOf_35 : decode cX8_rulingOf 35 = .ok (.iload_n 2, 1) := by decide +kernel
theorem dX8_rulingOf_36 : decode cX8_rulingOf 36 = .ok (.invokestatic 93, 3) := by decide +kernel
theorem dX8_rulingOf_39 : decode cX8_rulingOf 39 = .ok (.iadd, 1) := by decide +kernel
theorem dX8_rulingOf_40 : decode cX8_rulingOf 40 = .ok (.iaload, 1) := by decide +kernel
theorem dX8_rulingOf_41 : decode cX8_rulingOf 41 = .ok (.istore 5, 2) := by decide +kernel
theorem dX8_rulingOf_43 : decode cX8_rulingOf 43 = .ok (.iload_n 3, 1) := by decide +kernel
theorem dX8_rulingOf_44 : decode cX8_rulingOf 44 = .ok (.iconst (-1), 1) := by decide +kernel
theorem dX8_rulingOf_45 : decode cX8_rulingOf 45 = .ok (.if_icmp .eq 19, 3) := by decide +kernel
theorem dX8_rulingOf_48 : decode cX8_rulingOf 48 = .ok (.iload_n 3, 1) := by decide +kernel
theorem dX8_rulingOf_49 : decode cX8_rulingOf 49 = .ok (.iload 4, 2) := by decide +kernel
theorem dX8_rulingOf_51 : decode cX8_rulingOf 51 = .ok (.if_icmp .eq 9, 3) := by decide +kernel
theorem dX8_rulingOf_54 : decode cX8_rulingOf 54 = .ok (.iload_n 3, 1) := by decide +kernel
theorem dX8_rulingOf_55 : decode cX8_rulingOf 55 = .ok (.iload 5, 2) := by decide +kernel
theorem dX8_rulingOf_57 : decode cX8_rulingOf 57 = .ok (.if_icmp .ne 7, 3) := by decide +kernel
theorem dX8_rulingOf_60 : decode cX8_rulingOf 60 = .ok (.iload_n 3, 1) := by decide +kernel
theorem dX8_rulingOf_61 : decode cX8_rulingOf 61 = .ok (.goto 16, 3) := by decide +kernel
theorem dX8_rulingOf_64 : decode cX8_rulingOf 64 = .ok (.iload 4, 2) := by decide +kernel
theorem dX8_rulingOf_66 : decode cX8_rulingOf 66 = .ok (.iload 5, 2) := by decide +kernel
theorem dX8_rulingOf_68 : decode cX8_rulingOf 68 = .ok (.if_icmp .ne 8, 3) := by decide +kernel
theorem dX8_rulingOf_71 : decode cX8_rulingOf 71 = .ok (.iload 4, 2) := by decide +kernel
theorem dX8_rulingOf_73 : decode cX8_rulingOf 73 = .ok (.goto 4, 3) := by decide +kernel
theorem dX8_rulingOf_76 : decode cX8_rulingOf 76 = .ok (.iconst (-1), 1) := by decide +kernel
theorem dX8_rulingOf_77 : decode cX8_rulingOf 77 = .ok (.ireturn, 1) := by decide +kernel
set_option maxRecDepth 20000 in
theorem ggX8_isAgainst_X8_rulingOf : GoodIn wsX8_isAgainst wsX8_rulingOf := goodIn_r _ [5, 6, 7, 8, 4, 9, 10, 11, 12, 13, 14, 15, 16, 17, 18, 19, 20, 21, 22, 23, 24, 25, 26, 27, 28, 29, 30, 31, 32, 33, 34, 35, 36, 37, 38, 39, 40, 41, 42, 43, 44] (by decide +kernel) (by decide +kernel)
set_option maxRecDepth 20000 in
theorem gX8_isAgainst_X8_rulingOf : GoodIn wsX8_isAgainst (wsV RX8 97 RX8 yX8_rulingOf wsX8_rulingOf) := goodIn_app (goodIn_of _ (by decide +kernel)) ggX8_isAgainst_X8_rulingOf
theorem dX8_isAgainst_0 : decode cX8_isAgainst 0 = .ok (.aload_n 0, 1) := by decide +kernel
theorem dX8_isAgainst_1 : decode cX8_isAgainst 1 = .ok (.iload_n 1, 1) := by decide +kernel
theorem dX8_isAgainst_2 : decode cX8_isAgainst 2 = .ok (.iload_n 2, 1) := by decide +kernel
theorem dX8_isAgainst_3 : decode cX8_isAgainst 3 = .ok (.invokevirtual 97, 3) := by decide +kernel
theorem dX8_isAgainst_6 : decode cX8_isAgainst 6 = .ok (.istore 4, 2) := by decide +kernel
theorem dX8_isAgainst_8 : decode cX8_isAgainst 8 = .ok (.iload 4, 2) := by decide +kernel
theorem dX8_isAgainst_10 : decode cX8_isAgainst 10 = .ok (.iconst (-1), 1) := by decide +kernel
theorem dX8_isAgainst_11 : decode cX8_isAgainst 11 = .ok (.if_icmp .eq 13, 3) := by decide +kernel
theorem dX8_isAgainst_14 : decode cX8_isAgainst 14 = .ok (.iload 4, 2) := by decide +kernel
theorem dX8_isAgainst_16 : decode cX8_isAgainst 16 = .ok (.iload_n 3, 1) := by decide +kernel
theorem dX8_isAgainst_17 : decode cX8_isAgainst 17 = .ok (.if_icmp .eq 7, 3) := by decide +kernel
theorem dX8_isAgainst_20 : decode cX8_isAgainst 20 = .ok (.iconst 1, 1) := by decide +kernel
theorem dX8_isAgainst_21 : decode cX8_isAgainst 21 = .ok (.goto 4, 3) := by decide +kernel
theorem dX8_isAgainst_24 : decode cX8_isAgainst 24 = .ok (.iconst 0, 1) := by decide +kernel
theorem dX8_isAgainst_25 : decode cX8_isAgainst 25 = .ok (.ireturn, 1) := by decide +kernel
set_option maxRecDepth 20000 in
theorem ggX8_isDueNow_X8_isAgainst : GoodIn wsX8_isDueNow wsX8_isAgainst := goodIn_r _ [9, 10, 11, 12, 8, 13, 14, 15, 16, 17, 18, 19, 20, 21, 22, 23, 24, 25, 26, 27, 28, 29, 30, 31, 32, 33, 34, 35, 36, 37, 38, 39, 40, 41, 42, 43, 44, 45, 46, 47, 48, 49, 50, 51, 52] (by decide +kernel) (by decide +kernel)
set_option maxRecDepth 20000 in
theorem gX8_isDueNow_X8_isAgainst : GoodIn wsX8_isDueNow (wsV RX8 100 RX8 yX8_isAgainst wsX8_isAgainst) := goodIn_app (goodIn_of _ (by decide +kernel)) ggX8_isDueNow_X8_isAgainst
theorem dX8_isDueNow_0 : decode cX8_isDueNow 0 = .ok (.iconst 0, 1) := by decide +kernel
theorem dX8_isDueNow_1 : decode cX8_isDueNow 1 = .ok (.istore_n 2, 1) := by decide +kernel
theorem dX8_isDueNow_2 : decode cX8_isDueNow 2 = .ok (.bipush 8, 2) := by decide +kernel
theorem dX8_isDueNow_4 : decode cX8_isDueNow 4 = .ok (.iload_n 1, 1) := by decide +kernel
theorem dX8_isDueNow_5 : decode cX8_isDueNow 5 = .ok (.imul, 1) := by decide +kernel
theorem dX8_isDueNow_6 : decode cX8_isDueNow 6 = .ok (.istore_n 3, 1) := by decide +kernel
theorem dX8_isDueNow_7 : decode cX8_isDueNow 7 = .ok (.iload_n 3, 1) := by decide +kernel
theorem dX8_isDueNow_8 : decode cX8_isDueNow 8 = .ok (.bipush 8, 2) := by decide +kernel
theorem dX8_isDueNow_10 : decode cX8_isDueNow 10 = .ok (.iload_n 1, 1) := by decide +kernel
theorem dX8_isDueNow_11 : decode cX8_isDueNow 11 = .ok (.imul, 1) := by decide +kernel
theorem dX8_isDueNow_12 : decode cX8_isDueNow 12 = .ok (.aload_n 0, 1) := by decide +kernel
theorem dX8_isDueNow_13 : decode cX8_isDueNow 13 = .ok (.getfield 26, 3) := by decide +kernel
theorem dX8_isDueNow_16 : decode cX8_isDueNow 16 = .ok (.iload_n 1, 1) := by decide +kernel
theorem dX8_isDueNow_17 : decode cX8_isDueNow 17 = .ok (.iaload, 1) := by decide +kernel
theorem dX8_isDueNow_18 : decode cX8_isDueNow 18 = .ok (.iadd, 1) := by decide +kernel
theorem dX8_isDueNow_19 : decode cX8_isDueNow 19 = .ok (.if_icmp .ge 44, 3) := by decide +kernel
theorem dX8_isDueNow_22 : decode cX8_isDueNow 22 = .ok (.iload_n 2, 1) := by decide +kernel
theorem dX8_isDueNow_23 : decode cX8_isDueNow 23 = .ok (.ifCond .ne 28, 3) := by decide +kernel
theorem dX8_isDueNow_26 : decode cX8_isDueNow 26 = .ok (.aload_n 0, 1) := by decide +kernel
theorem dX8_isDueNow_27 : decode cX8_isDueNow 27 = .ok (.aload_n 0, 1) := by decide +kernel
theorem dX8_isDueNow_28 : decode cX8_isDueNow 28 = .ok (.getfield 23, 3) := by decide +kernel
theorem dX8_isDueNow_31 : decode cX8_isDueNow 31 = .ok (.iload_n 1, 1) := by decide +kernel
theorem dX8_isDueNow_32 : decode cX8_isDueNow 32 = .ok (.iaload, 1) := by decide +kernel
theorem dX8_isDueNow_33 : decode cX8_isDueNow 33 = .ok (.aload_n 0, 1) := by decide +kernel
theorem dX8_isDueNow_34 : decode cX8_isDueNow 34 = .ok (.getfield 29, 3) := by decide +kernel
theorem dX8_isDueNow_37 : decode cX8_isDueNow 37 = .ok (.iload_n 3, 1) := by decide +kernel
theorem dX8_isDueNow_38 : decode cX8_isDueNow 38 = .ok (.iaload, 1) := by decide +kernel
theorem dX8_isDueNow_39 : decode cX8_isDueNow 39 = .ok (.aload_n 0, 1) := by decide +kernel
theorem dX8_isDueNow_40 : decode cX8_isDueNow 40 = .ok (.getfield 32, 3) := by decide +kernel
theorem dX8_isDueNow_43 : decode cX8_isDueNow 43 = .ok (.iload_n 3, 1) := by decide +kernel
theorem dX8_isDueNow_44 : decode cX8_isDueNow 44 = .ok (.iaload, 1) := by decide +kernel
theorem dX8_isDueNow_45 : decode cX8_isDueNow 45 = .ok (.invokevirtual 100, 3) := by decide +kernel
theorem dX8_isDueNow_48 : decode cX8_isDueNow 48 = .ok (.ifCond .eq 7, 3) := by decide +kernel
theorem dX8_isDueNow_51 : decode cX8_isDueNow 51 = .ok (.iconst 1, 1) := by decide +kernel
theorem dX8_isDueNow_52 : decode cX8_isDueNow 52 = .ok (.goto 4, 3) := by decide +kernel
theorem dX8_isDueNow_55 : decode cX8_isDueNow 55 = .ok (.iconst 0, 1) := by decide +kernel
theorem dX8_isDueNow_56 : decode cX8_isDueNow 56 = .ok (.istore_n 2, 1) := by decide +kernel
theorem dX8_isDueNow_57 : decode cX8_isDueNow 57 = .ok (.iinc 3 1, 3) := by decide +kernel
theorem dX8_isDueNow_60 : decode cX8_isDueNow 60 = .ok (.goto (-53), 3) := by decide +kernel
theorem dX8_isDueNow_63 : decode cX8_isDueNow 63 = .ok (.iload_n 2, 1) := by decide +kernel
theorem dX8_isDueNow_64 : decode cX8_isDueNow 64 = .ok (.ireturn, 1) := by decide +kernel
set_option maxRecDepth 20000 in
theorem ggX8_lists_X8_isDueNow : GoodIn wsX8_lists wsX8_isDueNow := goodIn_r _ [8, 9, 10, 11, 12, 13, 14, 15, 7, 16, 17, 18, 19, 20, 21, 22, 23, 24, 25, 26, 27, 28, 29, 30, 31, 32, 33, 34, 35, 36, 37, 38, 39, 40, 41, 42, 43, 44, 45, 46, 47, 48, 49, 50, 51, 52, 53, 54, 55, 56, 57, 58, 59] (by decide +kernel) (by decide +kernel)
set_option maxRecDepth 20000 in
theorem gX8_lists_X8_isDueNow : GoodIn wsX8_lists (wsV RX8 107 RX8 yX8_isDueNow wsX8_isDueNow) := goodIn_app (goodIn_of _ (by decide +kernel)) ggX8_lists_X8_isDueNow
theorem dX8_lists_0 : decode cX8_lists 0 = .ok (.iconst 0, 1) := by decide +kernel
theorem dX8_lists_1 : decode cX8_lists 1 = .ok (.istore_n 1, 1) := by decide +kernel
theorem dX8_lists_2 : decode cX8_lists 2 = .ok (.iload_n 1, 1) := by decide +kernel
theorem dX8_lists_3 : decode cX8_lists 3 = .ok (.aload_n 0, 1) := by decide +kernel
theorem dX8_lists_4 : decode cX8_lists 4 = .ok (.getfield 104, 3) := by decide +kernel
theorem dX8_lists_7 : decode cX8_lists 7 = .ok (.if_icmp .ge 62, 3) := by decide +kernel
theorem dX8_lists_10 : decode cX8_lists 10 = .ok (.aload_n 0, 1) := by decide +kernel
theorem dX8_lists_11 : decode cX8_lists 11 = .ok (.iload_n 1, 1) := by decide +kernel
theorem dX8_lists_12 : decode cX8_lists 12 = .ok (.invokevirtual 107, 3) := by decide +kernel
theorem dX8_lists_15 : decode cX8_lists 15 = .ok (.istore_n 2, 1) := by decide +kernel
theorem dX8_lists_16 : decode cX8_lists 16 = .ok (.iload_n 2, 1) := by decide +kernel
theorem dX8_lists_17 : decode cX8_lists 17 = .ok (.ifCond .eq 35, 3) := by decide +kernel
theorem dX8_lists_20 : decode cX8_lists 20 = .ok (.aload_n 0, 1) := by decide +kernel
theorem dX8_lists_21 : decode cX8_lists 21 = .ok (.getfield 75, 3) := by decide +kernel
theorem dX8_lists_24 : decode cX8_lists 24 = .ok (.iload_n 1, 1) := by decide +kernel
theorem dX8_lists_25 : decode cX8_lists 25 = .ok (.iaload, 1) := by decide +kernel
theorem dX8_lists_26 : decode cX8_lists 26 = .ok (.ifCond .ne 26, 3) := by decide +kernel
theorem dX8_lists_29 : decode cX8_lists 29 = .ok (.aload_n 0, 1) := by decide +kernel
theorem dX8_lists_30 : decode cX8_lists 30 = .ok (.dup, 1) := by decide +kernel
theorem dX8_lists_31 : decode cX8_lists 31 = .ok (.getfield 111, 3) := by decide +kernel
theorem dX8_lists_34 : decode cX8_lists 34 = .ok (.iconst 1, 1) := by decide +kernel
theorem dX8_lists_35 : decode cX8_lists 35 = .ok (.iadd, 1) := by decide +kernel
theorem dX8_lists_36 : decode cX8_lists 36 = .ok (.putfield 111, 3) := by decide +kernel
theorem dX8_lists_39 : decode cX8_lists 39 = .ok (.aload_n 0, 1) := by decide +kernel
theorem dX8_lists_40 : decode cX8_lists 40 = .ok (.getfield 75, 3) := by decide +kernel
theorem dX8_lists_43 : decode cX8_lists 43 = .ok (.iload_n 1, 1) := by decide +kernel
theorem dX8_lists_44 : decode cX8_lists 44 = .ok (.aload_n 0, 1) := by decide +kernel
theorem dX8_lists_45 : decode cX8_lists 45 = .ok (.getfield 111, 3) := by decide +kernel
theorem dX8_lists_48 : decode cX8_lists 48 = .ok (.iastore, 1) := by decide +kernel
theorem dX8_lists_49 : decode cX8_lists 49 = .ok (.goto 14, 3) := by decide +kernel
theorem dX8_lists_52 : decode cX8_lists 52 = .ok (.iload_n 2, 1) := by decide +kernel
theorem dX8_lists_53 : decode cX8_lists 53 = .ok (.ifCond .ne 10, 3) := by decide +kernel
theorem dX8_lists_56 : decode cX8_lists 56 = .ok (.aload_n 0, 1) := by decide +kernel
theorem dX8_lists_57 : decode cX8_lists 57 = .ok (.getfield 75, 3) := by decide +kernel
theorem dX8_lists_60 : decode cX8_lists 60 = .ok (.iload_n 1, 1) := by decide +kernel
theorem dX8_lists_61 : decode cX8_lists 61 = .ok (.iconst 0, 1) := by decide +kernel
theorem dX8_lists_62 : decode cX8_lists 62 = .ok (.iastore, 1) := by decide +kernel
theorem dX8_lists_63 : decode cX8_lists 63 = .ok (.iinc 1 1, 3) := by decide +kernel
theorem dX8_lists_66 : decode cX8_lists 66 = .ok (.goto (-64), 3) := by decide +kernel
theorem dX8_lists_69 : decode cX8_lists 69 = .ok (.return_, 1) := by decide +kernel
theorem dX8_dueNow_0 : decode cX8_dueNow 0 = .ok (.iconst 0, 1) := by decide +kernel
theorem dX8_dueNow_1 : decode cX8_dueNow 1 = .ok (.istore_n 1, 1) := by decide +kernel
theorem dX8_dueNow_2 : decode cX8_dueNow 2 = .ok (.iconst 0, 1) := by decide +kernel
theorem dX8_dueNow_3 : decode cX8_dueNow 3 = .ok (.istore_n 2, 1) := by decide +kernel
theorem dX8_dueNow_4 : decode cX8_dueNow 4 = .ok (.iload_n 2, 1) := by decide +kernel
theorem dX8_dueNow_5 : decode cX8_dueNow 5 = .ok (.aload_n 0, 1) := by decide +kernel
theorem dX8_dueNow_6 : decode cX8_dueNow 6 = .ok (.getfield 104, 3) := by decide +kernel
theorem dX8_dueNow_9 : decode cX8_dueNow 9 = .ok (.if_icmp .ge 26, 3) := by decide +kernel
theorem dX8_dueNow_12 : decode cX8_dueNow 12 = .ok (.iload_n 1, 1) := by decide +kernel
theorem dX8_dueNow_13 : decode cX8_dueNow 13 = .ok (.aload_n 0, 1) := by decide +kernel
theorem dX8_dueNow_14 : decode cX8_dueNow 14 = .ok (.getfield 75, 3) := by decide +kernel
theorem dX8_dueNow_17 : decode cX8_dueNow 17 = .ok (.iload_n 2, 1) := by decide +kernel
theorem dX8_dueNow_18 : decode cX8_dueNow 18 = .ok (.iaload, 1) := by decide +kernel
theorem dX8_dueNow_19 : decode cX8_dueNow 19 = .ok (.ifCond .le 7, 3) := by decide +kernel
theorem dX8_dueNow_22 : decode cX8_dueNow 22 = .ok (.iconst 1, 1) := by decide +kernel
theorem dX8_dueNow_23 : decode cX8_dueNow 23 = .ok (.goto 4, 3) := by decide +kernel
theorem dX8_dueNow_26 : decode cX8_dueNow 26 = .ok (.iconst 0, 1) := by decide +kernel
theorem dX8_dueNow_27 : decode cX8_dueNow 27 = .ok (.iadd, 1) := by decide +kernel
theorem dX8_dueNow_28 : decode cX8_dueNow 28 = .ok (.istore_n 1, 1) := by decide +kernel
theorem dX8_dueNow_29 : decode cX8_dueNow 29 = .ok (.iinc 2 1, 3) := by decide +kernel
theorem dX8_dueNow_32 : decode cX8_dueNow 32 = .ok (.goto (-28), 3) := by decide +kernel
theorem dX8_dueNow_35 : decode cX8_dueNow 35 = .ok (.iload_n 1, 1) := by decide +kernel
theorem dX8_dueNow_36 : decode cX8_dueNow 36 = .ok (.ireturn, 1) := by decide +kernel
set_option maxRecDepth 20000 in
theorem ggX8_say_X8_isIn : GoodIn wsX8_say wsX8_isIn := goodIn_r _ [7] (by decide +kernel) (by decide +kernel)
set_option maxRecDepth 20000 in
theorem gX8_say_X8_isIn : GoodIn wsX8_say (va_wsS RX8 114 yX8_isIn wsX8_isIn) := goodIn_app (goodIn_of _ (by decide +kernel)) ggX8_say_X8_isIn
set_option maxRecDepth 20000 in
theorem ggX8_say_X8_holds : GoodIn wsX8_say wsX8_holds := goodIn_r _ [11, 12, 43, 44, 45, 46, 47, 48, 49, 50, 51, 52, 53, 54, 55, 56, 57, 58, 59, 60, 61, 62, 63, 64, 65, 66, 67, 68, 69, 70, 71, 72, 73, 74, 75, 76, 77] (by decide +kernel) (by decide +kernel)
set_option maxRecDepth 20000 in
theorem gX8_say_X8_holds : GoodIn wsX8_say (wsV RX8 118 RX8 yX8_holds wsX8_holds) := goodIn_app (goodIn_of _ (by decide +kernel)) ggX8_say_X8_holds
set_option maxRecDepth 20000 in
theorem ggX8_say_X8_rulingOf : GoodIn wsX8_say wsX8_rulingOf := goodIn_r _ [16, 1, 17, 18, 6, 19, 43, 44, 45, 46, 47, 48, 49, 50, 51, 52, 53, 54, 55, 56, 57, 58, 59, 60, 61, 62, 63, 64, 65, 66, 67, 68, 69, 70, 71, 72, 73, 74, 75, 76, 77] (by decide +kernel) (by decide +kernel)
set_option maxRecDepth 20000 in
theorem gX8_say_X8_rulingOf : GoodIn wsX8_say (wsV RX8 97 RX8 yX8_rulingOf wsX8_rulingOf) := goodIn_app (goodIn_of _ (by decide +kernel)) ggX8_say_X8_rulingOf
set_option maxRecDepth 20000 in
theorem ggX8_say_X8_at : GoodIn wsX8_say wsX8_at := goodIn_r _ [19] (by decide +kernel) (by decide +kernel)
set_option maxRecDepth 20000 in
theorem gX8_say_X8_at : GoodIn wsX8_say (va_wsS RX8 93 yX8_at wsX8_at) := goodIn_app (goodIn_of _ (by decide +kernel)) ggX8_say_X8_at
set_option maxRecDepth 20000 in
theorem ggX8_say_X8_lists : GoodIn wsX8_say wsX8_lists := goodIn_r _ [23, 24, 25, 26, 27, 28, 29, 6, 30, 31, 32, 33, 34, 35, 36, 37, 38, 13, 14, 15, 16, 1, 17, 18, 19, 43, 44, 45, 46, 47, 48, 49, 50, 51, 52, 53, 54, 55, 56, 57, 58, 59, 60, 61, 62, 63, 64, 65, 66, 67, 68, 69, 70, 71, 72, 73, 74, 75, 76, 77] (by decide +kernel) (by decide +kernel)
set_option maxRecDepth 20000 in
theorem gX8_say_X8_lists : GoodIn wsX8_say (wsV RX8 124 RX8 yX8_lists wsX8_lists) := goodIn_app (goodIn_of _ (by decide +kernel)) ggX8_say_X8_lists
set_option maxRecDepth 20000 in
theorem ggX8_say_X8_dueNow : GoodIn wsX8_say wsX8_dueNow := goodIn_r _ [42, 24, 25, 43, 44, 45, 46, 47, 48, 49, 50, 51, 52, 53, 54, 55, 56, 57, 58, 59, 60, 61, 62, 63, 64, 65, 66, 67, 68, 69, 70, 71, 72, 73, 74, 75, 76, 77] (by decide +kernel) (by decide +kernel)
set_option maxRecDepth 20000 in
theorem gX8_say_X8_dueNow : GoodIn wsX8_say (wsV RX8 127 RX8 yX8_dueNow wsX8_dueNow) := goodIn_app (goodIn_of _ (by decide +kernel)) ggX8_say_X8_dueNow
theorem dX8_say_0 : decode cX8_say 0 = .ok (.iload_n 1, 1) := by decide +kernel
theorem dX8_say_1 : decode cX8_say 1 = .ok (.iconst 3, 1) := by decide +kernel
theorem dX8_say_2 : decode cX8_say 2 = .ok (.invokestatic 114, 3) := by decide +kernel
theorem dX8_say_5 : decode cX8_say 5 = .ok (.ifCond .eq 36, 3) := by decide +kernel
theorem dX8_say_8 : decode cX8_say 8 = .ok (.iload_n 2, 1) := by decide +kernel
theorem dX8_say_9 : decode cX8_say 9 = .ok (.iconst 4, 1) := by decide +kernel
theorem dX8_say_10 : decode cX8_say 10 = .ok (.invokestatic 114, 3) := by decide +kernel
theorem dX8_say_13 : decode cX8_say 13 = .ok (.ifCond .eq 28, 3) := by decide +kernel
theorem dX8_say_16 : decode cX8_say 16 = .ok (.iload_n 3, 1) := by decide +kernel
theorem dX8_say_17 : decode cX8_say 17 = .ok (.bipush 50, 2) := by decide +kernel
theorem dX8_say_19 : decode cX8_say 19 = .ok (.invokestatic 114, 3) := by decide +kernel
theorem dX8_say_22 : decode cX8_say 22 = .ok (.ifCond .eq 19, 3) := by decide +kernel
theorem dX8_say_25 : decode cX8_say 25 = .ok (.iload 4, 2) := by decide +kernel
theorem dX8_say_27 : decode cX8_say 27 = .ok (.iconst 1, 1) := by decide +kernel
theorem dX8_say_28 : decode cX8_say 28 = .ok (.iadd, 1) := by decide +kernel
theorem dX8_say_29 : decode cX8_say 29 = .ok (.bipush 101, 2) := by decide +kernel
theorem dX8_say_31 : decode cX8_say 31 = .ok (.invokestatic 114, 3) := by decide +kernel
theorem dX8_say_34 : decode cX8_say 34 = .ok (.ifCond .eq 7, 3) := by decide +kernel
theorem dX8_say_37 : decode cX8_say 37 = .ok (.iconst 1, 1) := by decide +kernel
theorem dX8_say_38 : decode cX8_say 38 = .ok (.goto 4, 3) := by decide +kernel
theorem dX8_say_41 : decode cX8_say 41 = .ok (.iconst 0, 1) := by decide +kernel
theorem dX8_say_42 : decode cX8_say 42 = .ok (.istore 5, 2) := by decide +kernel
theorem dX8_say_44 : decode cX8_say 44 = .ok (.aload_n 0, 1) := by decide +kernel
theorem dX8_say_45 : decode cX8_say 45 = .ok (.iload 5, 2) := by decide +kernel
theorem dX8_say_47 : decode cX8_say 47 = .ok (.ifCond .eq 7, 3) := by decide +kernel
theorem dX8_say_50 : decode cX8_say 50 = .ok (.iconst 0, 1) := by decide +kernel
theorem dX8_say_51 : decode cX8_say 51 = .ok (.goto 4, 3) := by decide +kernel
theorem dX8_say_54 : decode cX8_say 54 = .ok (.iconst 1, 1) := by decide +kernel
theorem dX8_say_55 : decode cX8_say 55 = .ok (.invokevirtual 118, 3) := by decide +kernel
theorem dX8_say_58 : decode cX8_say 58 = .ok (.ifCond .ne 5, 3) := by decide +kernel
theorem dX8_say_61 : decode cX8_say 61 = .ok (.iconst 0, 1) := by decide +kernel
theorem dX8_say_62 : decode cX8_say 62 = .ok (.ireturn, 1) := by decide +kernel
theorem dX8_say_63 : decode cX8_say 63 = .ok (.aload_n 0, 1) := by decide +kernel
theorem dX8_say_64 : decode cX8_say 64 = .ok (.iload_n 2, 1) := by decide +kernel
theorem dX8_say_65 : decode cX8_say 65 = .ok (.iload_n 3, 1) := by decide +kernel
theorem dX8_say_66 : decode cX8_say 66 = .ok (.invokevirtual 97, 3) := by decide +kernel
theorem dX8_say_69 : decode cX8_say 69 = .ok (.istore 6, 2) := by decide +kernel
theorem dX8_say_71 : decode cX8_say 71 = .ok (.aload_n 0, 1) := by decide +kernel
theorem dX8_say_72 : decode cX8_say 72 = .ok (.getfield 69, 3) := by decide +kernel
theorem dX8_say_75 : decode cX8_say 75 = .ok (.sipush 200, 3) := by decide +kernel
theorem dX8_say_78 : decode cX8_say 78 = .ok (.iload_n 1, 1) := by decide +kernel
theorem dX8_say_79 : decode cX8_say 79 = .ok (.imul, 1) := by decide +kernel
theorem dX8_say_80 : decode cX8_say 80 = .ok (.iload_n 2, 1) := by decide +kernel
theorem dX8_say_81 : decode cX8_say 81 = .ok (.iload_n 3, 1) := by decide +kernel
theorem dX8_say_82 : decode cX8_say 82 = .ok (.invokestatic 93, 3) := by decide +kernel
theorem dX8_say_85 : decode cX8_say 85 = .ok (.iadd, 1) := by decide +kernel
theorem dX8_say_86 : decode cX8_say 86 = .ok (.iload 4, 2) := by decide +kernel
theorem dX8_say_88 : decode cX8_say 88 = .ok (.iastore, 1) := by decide +kernel
theorem dX8_say_89 : decode cX8_say 89 = .ok (.aload_n 0, 1) := by decide +kernel
theorem dX8_say_90 : decode cX8_say 90 = .ok (.iload_n 2, 1) := by decide +kernel
theorem dX8_say_91 : decode cX8_say 91 = .ok (.iload_n 3, 1) := by decide +kernel
theorem dX8_say_92 : decode cX8_say 92 = .ok (.invokevirtual 97, 3) := by decide +kernel
theorem dX8_say_95 : decode cX8_say 95 = .ok (.iload 6, 2) := by decide +kernel
theorem dX8_say_97 : decode cX8_say 97 = .ok (.if_icmp .eq 27, 3) := by decide +kernel
theorem dX8_say_100 : decode cX8_say 100 = .ok (.aload_n 0, 1) := by decide +kernel
theorem dX8_say_101 : decode cX8_say 101 = .ok (.dup, 1) := by decide +kernel
theorem dX8_say_102 : decode cX8_say 102 = .ok (.getfield 121, 3) := by decide +kernel
theorem dX8_say_105 : decode cX8_say 105 = .ok (.iconst 1, 1) := by decide +kernel
theorem dX8_say_106 : decode cX8_say 106 = .ok (.iadd, 1) := by decide +kernel
theorem dX8_say_107 : decode cX8_say 107 = .ok (.putfield 121, 3) := by decide +kernel
theorem dX8_say_110 : decode cX8_say 110 = .ok (.aload_n 0, 1) := by decide +kernel
theorem dX8_say_111 : decode cX8_say 111 = .ok (.getfield 72, 3) := by decide +kernel
theorem dX8_say_114 : decode cX8_say 114 = .ok (.iload_n 2, 1) := by decide +kernel
theorem dX8_say_115 : decode cX8_say 115 = .ok (.iload_n 3, 1) := by decide +kernel
theorem dX8_say_116 : decode cX8_say 116 = .ok (.invokestatic 93, 3) := by decide +kernel
theorem dX8_say_119 : decode cX8_say 119 = .ok (.aload_n 0, 1) := by decide +kernel
theorem dX8_say_120 : decode cX8_say 120 = .ok (.getfield 121, 3) := by decide +kernel
theorem dX8_say_123 : decode cX8_say 123 = .ok (.iastore, 1) := by decide +kernel
theorem dX8_say_124 : decode cX8_say 124 = .ok (.aload_n 0, 1) := by decide +kernel
theorem dX8_say_125 : decode cX8_say 125 = .ok (.invokevirtual 124, 3) := by decide +kernel
theorem dX8_say_128 : decode cX8_say 128 = .ok (.aload_n 0, 1) := by decide +kernel
theorem dX8_say_129 : decode cX8_say 129 = .ok (.invokevirtual 127, 3) := by decide +kernel
theorem dX8_say_132 : decode cX8_say 132 = .ok (.ireturn, 1) := by decide +kernel
set_option maxRecDepth 20000 in
theorem ggX8_ruling_X8_isIn : GoodIn wsX8_ruling wsX8_isIn := goodIn_r _ [4] (by decide +kernel) (by decide +kernel)
set_option maxRecDepth 20000 in
theorem gX8_ruling_X8_isIn : GoodIn wsX8_ruling (va_wsS RX8 114 yX8_isIn wsX8_isIn) := goodIn_app (goodIn_of _ (by decide +kernel)) ggX8_ruling_X8_isIn
set_option maxRecDepth 20000 in
theorem ggX8_ruling_X8_holds : GoodIn wsX8_ruling wsX8_holds := goodIn_r _ [8, 9, 18, 19, 20, 21, 22, 23, 24, 25, 26, 27, 28, 29, 30, 31, 32, 33, 34, 35, 36, 37, 38, 39, 40, 41, 42, 43, 44, 45, 46, 47, 48, 49, 50, 51, 52] (by decide +kernel) (by decide +kernel)
set_option maxRecDepth 20000 in
theorem gX8_ruling_X8_holds : GoodIn wsX8_ruling (wsV RX8 118 RX8 yX8_holds wsX8_holds) := goodIn_app (goodIn_of _ (by decide +kernel)) ggX8_ruling_X8_holds
set_option maxRecDepth 20000 in
theorem ggX8_ruling_X8_rulingOf : GoodIn wsX8_ruling wsX8_rulingOf := goodIn_r _ [13, 14, 15, 16, 3, 17, 18, 19, 20, 21, 22, 23, 24, 25, 26, 27, 28, 29, 30, 31, 32, 33, 34, 35, 36, 37, 38, 39, 40, 41, 42, 43, 44, 45, 46, 47, 48, 49, 50, 51, 52] (by decide +kernel) (by decide +kernel)
set_option maxRecDepth 20000 in
theorem gX8_ruling_X8_rulingOf : GoodIn wsX8_ruling (wsV RX8 97 RX8 yX8_rulingOf wsX8_rulingOf) := goodIn_app (goodIn_of _ (by decide +kernel)) ggX8_ruling_X8_rulingOf
theorem dX8_ruling_0 : decode cX8_ruling 0 = .ok (.aload_n 0, 1) := by decide +kernel
theorem dX8_ruling_1 : decode cX8_ruling 1 = .ok (.iload_n 1, 1) := by decide +kernel
theorem dX8_ruling_2 : decode cX8_ruling 2 = .ok (.iconst 4, 1) := by decide +kernel
theorem dX8_ruling_3 : decode cX8_ruling 3 = .ok (.invokestatic 114, 3) := by decide +kernel
theorem dX8_ruling_6 : decode cX8_ruling 6 = .ok (.ifCond .eq 16, 3) := by decide +kernel
theorem dX8_ruling_9 : decode cX8_ruling 9 = .ok (.iload_n 2, 1) := by decide +kernel
theorem dX8_ruling_10 : decode cX8_ruling 10 = .ok (.bipush 50, 2) := by decide +kernel
theorem dX8_ruling_12 : decode cX8_ruling 12 = .ok (.invokestatic 114, 3) := by decide +kernel
theorem dX8_ruling_15 : decode cX8_ruling 15 = .ok (.ifCond .eq 7, 3) := by decide +kernel
theorem dX8_ruling_18 : decode cX8_ruling 18 = .ok (.iconst 0, 1) := by decide +kernel
theorem dX8_ruling_19 : decode cX8_ruling 19 = .ok (.goto 4, 3) := by decide +kernel
theorem dX8_ruling_22 : decode cX8_ruling 22 = .ok (.iconst 1, 1) := by decide +kernel
theorem dX8_ruling_23 : decode cX8_ruling 23 = .ok (.invokevirtual 118, 3) := by decide +kernel
theorem dX8_ruling_26 : decode cX8_ruling 26 = .ok (.ifCond .eq 12, 3) := by decide +kernel
theorem dX8_ruling_29 : decode cX8_ruling 29 = .ok (.aload_n 0, 1) := by decide +kernel
theorem dX8_ruling_30 : decode cX8_ruling 30 = .ok (.iload_n 1, 1) := by decide +kernel
theorem dX8_ruling_31 : decode cX8_ruling 31 = .ok (.iload_n 2, 1) := by decide +kernel
theorem dX8_ruling_32 : decode cX8_ruling 32 = .ok (.invokevirtual 97, 3) := by decide +kernel
theorem dX8_ruling_35 : decode cX8_ruling 35 = .ok (.goto 4, 3) := by decide +kernel
theorem dX8_ruling_38 : decode cX8_ruling 38 = .ok (.iconst 0, 1) := by decide +kernel
theorem dX8_ruling_39 : decode cX8_ruling 39 = .ok (.ireturn, 1) := by decide +kernel
theorem dX8_takesDraft_0 : decode cX8_takesDraft 0 = .ok (.aload_n 0, 1) := by decide +kernel
theorem dX8_takesDraft_1 : decode cX8_takesDraft 1 = .ok (.aload_n 0, 1) := by decide +kernel
theorem dX8_takesDraft_2 : decode cX8_takesDraft 2 = .ok (.getfield 131, 3) := by decide +kernel
theorem dX8_takesDraft_5 : decode cX8_takesDraft 5 = .ok (.putfield 134, 3) := by decide +kernel
theorem dX8_takesDraft_8 : decode cX8_takesDraft 8 = .ok (.iconst 0, 1) := by decide +kernel
theorem dX8_takesDraft_9 : decode cX8_takesDraft 9 = .ok (.istore_n 1, 1) := by decide +kernel
theorem dX8_takesDraft_10 : decode cX8_takesDraft 10 = .ok (.iload_n 1, 1) := by decide +kernel
theorem dX8_takesDraft_11 : decode cX8_takesDraft 11 = .ok (.aload_n 0, 1) := by decide +kernel
theorem dX8_takesDraft_12 : decode cX8_takesDraft 12 = .ok (.getfield 131, 3) := by decide +kernel
theorem dX8_takesDraft_15 : decode cX8_takesDraft 15 = .ok (.if_icmp .ge 21, 3) := by decide +kernel
theorem dX8_takesDraft_18 : decode cX8_takesDraft 18 = .ok (.aload_n 0, 1) := by decide +kernel
theorem dX8_takesDraft_19 : decode cX8_takesDraft 19 = .ok (.getfield 84, 3) := by decide +kernel
theorem dX8_takesDraft_22 : decode cX8_takesDraft 22 = .ok (.iload_n 1, 1) := by decide +kernel
theorem dX8_takesDraft_23 : decode cX8_takesDraft 23 = .ok (.aload_n 0, 1) := by decide +kernel
theorem dX8_takesDraft_24 : decode cX8_takesDraft 24 = .ok (.getfield 7, 3) := by decide +kernel
theorem dX8_takesDraft_27 : decode cX8_takesDraft 27 = .ok (.iload_n 1, 1) := by decide +kernel
theorem dX8_takesDraft_28 : decode cX8_takesDraft 28 = .ok (.iaload, 1) := by decide +kernel
theorem dX8_takesDraft_29 : decode cX8_takesDraft 29 = .ok (.iastore, 1) := by decide +kernel
theorem dX8_takesDraft_30 : decode cX8_takesDraft 30 = .ok (.iinc 1 1, 3) := by decide +kernel
theorem dX8_takesDraft_33 : decode cX8_takesDraft 33 = .ok (.goto (-23), 3) := by decide +kernel
theorem dX8_takesDraft_36 : decode cX8_takesDraft 36 = .ok (.return_, 1) := by decide +kernel
theorem dX8_lesser_0 : decode cX8_lesser 0 = .ok (.iload_n 0, 1) := by decide +kernel
theorem dX8_lesser_1 : decode cX8_lesser 1 = .ok (.iload_n 1, 1) := by decide +kernel
theorem dX8_lesser_2 : decode cX8_lesser 2 = .ok (.if_icmp .ge 7, 3) := by decide +kernel
theorem dX8_lesser_5 : decode cX8_lesser 5 = .ok (.iload_n 0, 1) := by decide +kernel
theorem dX8_lesser_6 : decode cX8_lesser 6 = .ok (.goto 4, 3) := by decide +kernel
theorem dX8_lesser_9 : decode cX8_lesser 9 = .ok (.iload_n 1, 1) := by decide +kernel
theorem dX8_lesser_10 : decode cX8_lesser 10 = .ok (.ireturn, 1) := by decide +kernel
set_option maxRecDepth 20000 in
theorem ggX8_compares_X8_lesser : GoodIn wsX8_compares wsX8_lesser := goodIn_r _ [9] (by decide +kernel) (by decide +kernel)
set_option maxRecDepth 20000 in
theorem gX8_compares_X8_lesser : GoodIn wsX8_compares (va_wsS RX8 137 yX8_lesser wsX8_lesser) := goodIn_app (goodIn_of _ (by decide +kernel)) ggX8_compares_X8_lesser
theorem dX8_compares_0 : decode cX8_compares 0 = .ok (.iconst 0, 1) := by decide +kernel
theorem dX8_compares_1 : decode cX8_compares 1 = .ok (.istore_n 2, 1) := by decide +kernel
theorem dX8_compares_2 : decode cX8_compares 2 = .ok (.iload_n 2, 1) := by decide +kernel
theorem dX8_compares_3 : decode cX8_compares 3 = .ok (.aload_n 0, 1) := by decide +kernel
theorem dX8_compares_4 : decode cX8_compares 4 = .ok (.getfield 134, 3) := by decide +kernel
theorem dX8_compares_7 : decode cX8_compares 7 = .ok (.if_icmp .gt 150, 3) := by decide +kernel
theorem dX8_compares_10 : decode cX8_compares 10 = .ok (.iconst 0, 1) := by decide +kernel
theorem dX8_compares_11 : decode cX8_compares 11 = .ok (.istore_n 3, 1) := by decide +kernel
theorem dX8_compares_12 : decode cX8_compares 12 = .ok (.iload_n 3, 1) := by decide +kernel
theorem dX8_compares_13 : decode cX8_compares 13 = .ok (.aload_n 0, 1) := by decide +kernel
theorem dX8_compares_14 : decode cX8_compares 14 = .ok (.getfield 26, 3) := by decide +kernel
theorem dX8_compares_17 : decode cX8_compares 17 = .ok (.iload_n 1, 1) := by decide +kernel
theorem dX8_compares_18 : decode cX8_compares 18 = .ok (.iaload, 1) := by decide +kernel
theorem dX8_compares_19 : decode cX8_compares 19 = .ok (.if_icmp .gt 132, 3) := by decide +kernel
theorem dX8_compares_22 : decode cX8_compares 22 = .ok (.iload_n 2, 1) := by decide +kernel
theorem dX8_compares_23 : decode cX8_compares 23 = .ok (.iload_n 3, 1) := by decide +kernel
theorem dX8_compares_24 : decode cX8_compares 24 = .ok (.iadd, 1) := by decide +kernel
theorem dX8_compares_25 : decode cX8_compares 25 = .ok (.istore 4, 2) := by decide +kernel
theorem dX8_compares_27 : decode cX8_compares 27 = .ok (.iload_n 2, 1) := by decide +kernel
theorem dX8_compares_28 : decode cX8_compares 28 = .ok (.ifCond .le 104, 3) := by decide +kernel
theorem dX8_compares_31 : decode cX8_compares 31 = .ok (.iload_n 3, 1) := by decide +kernel
theorem dX8_compares_32 : decode cX8_compares 32 = .ok (.ifCond .le 100, 3) := by decide +kernel
theorem dX8_compares_35 : decode cX8_compares 35 = .ok (.aload_n 0, 1) := by decide +kernel
theorem dX8_compares_36 : decode cX8_compares 36 = .ok (.getfield 84, 3) := by decide +kernel
theorem dX8_compares_39 : decode cX8_compares 39 = .ok (.iload_n 2, 1) := by decide +kernel
theorem dX8_compares_40 : decode cX8_compares 40 = .ok (.iconst 1, 1) := by decide +kernel
theorem dX8_compares_41 : decode cX8_compares 41 = .ok (.isub, 1) := by decide +kernel
theorem dX8_compares_42 : decode cX8_compares 42 = .ok (.iaload, 1) := by decide +kernel
theorem dX8_compares_43 : decode cX8_compares 43 = .ok (.aload_n 0, 1) := by decide +kernel
theorem dX8_compares_44 : decode cX8_compares 44 = .ok (.getfield 29, 3) := by decide +kernel
theorem dX8_compares_47 : decode cX8_compares 47 = .ok (.bipush 8, 2) := by decide +kernel
theorem dX8_compares_49 : decode cX8_compares 49 = .ok (.iload_n 1, 1) := by decide +kernel
theorem dX8_compares_50 : decode cX8_compares 50 = .ok (.imul, 1) := by decide +kernel
theorem dX8_compares_51 : decode cX8_compares 51 = .ok (.iload_n 3, 1) := by decide +kernel
theorem dX8_compares_52 : decode cX8_compares 52 = .ok (.iadd, 1) := by decide +kernel
theorem dX8_compares_53 : decode cX8_compares 53 = .ok (.iconst 1, 1) := by decide +kernel
theorem dX8_compares_54 : decode cX8_compares 54 = .ok (.isub, 1) := by decide +kernel
theorem dX8_compares_55 : decode cX8_compares 55 = .ok (.iaload, 1) := by decide +kernel
theorem dX8_compares_56 : decode cX8_compares 56 = .ok (.if_icmp .ne 7, 3) := by decide +kernel
theorem dX8_compares_59 : decode cX8_compares 59 = .ok (.iconst 1, 1) := by decide +kernel
theorem dX8_compares_60 : decode cX8_compares 60 = .ok (.goto 4, 3) := by decide +kernel
theorem dX8_compares_63 : decode cX8_compares 63 = .ok (.iconst 0, 1) := by decide +kernel
theorem dX8_compares_64 : decode cX8_compares 64 = .ok (.istore 5, 2) := by decide +kernel
theorem dX8_compares_66 : decode cX8_compares 66 = .ok (.aload_n 0, 1) := by decide +kernel
theorem dX8_compares_67 : decode cX8_compares 67 = .ok (.getfield 87, 3) := by decide +kernel
theorem dX8_compares_70 : decode cX8_compares 70 = .ok (.bipush 9, 2) := by decide +kernel
theorem dX8_compares_72 : decode cX8_compares 72 = .ok (.iload_n 2, 1) := by decide +kernel
theorem dX8_compares_73 : decode cX8_compares 73 = .ok (.iconst 1, 1) := by decide +kernel
theorem dX8_compares_74 : decode cX8_compares 74 = .ok (.isub, 1) := by decide +kernel
theorem dX8_compares_75 : decode cX8_compares 75 = .ok (.imul, 1) := by decide +kernel
theorem dX8_compares_76 : decode cX8_compares 76 = .ok (.iload_n 3, 1) := by decide +kernel
theorem dX8_compares_77 : decode cX8_compares 77 = .ok (.iadd, 1) := by decide +kernel
theorem dX8_compares_78 : decode cX8_compares 78 = .ok (.iaload, 1) := by decide +kernel
theorem dX8_compares_79 : decode cX8_compares 79 = .ok (.aload_n 0, 1) := by decide +kernel
theorem dX8_compares_80 : decode cX8_compares 80 = .ok (.getfield 87, 3) := by decide +kernel
theorem dX8_compares_83 : decode cX8_compares 83 = .ok (.bipush 9, 2) := by decide +kernel
theorem dX8_compares_85 : decode cX8_compares 85 = .ok (.iload_n 2, 1) := by decide +kernel
theorem dX8_compares_86 : decode cX8_compares 86 = .ok (.imul, 1) := by decide +kernel
theorem dX8_compares_87 : decode cX8_compares 87 = .ok (.iload_n 3, 1) := by decide +kernel
theorem dX8_compares_88 : decode cX8_compares 88 = .ok (.iadd, 1) := by decide +kernel
theorem dX8_compares_89 : decode cX8_compares 89 = .ok (.iconst 1, 1) := by decide +kernel
theorem dX8_compares_90 : decode cX8_compares 90 = .ok (.isub, 1) := by decide +kernel
theorem dX8_compares_91 : decode cX8_compares 91 = .ok (.iaload, 1) := by decide +kernel
theorem dX8_compares_92 : decode cX8_compares 92 = .ok (.invokestatic 137, 3) := by decide +kernel
theorem dX8_compares_95 : decode cX8_compares 95 = .ok (.iconst 1, 1) := by decide +kernel
theorem dX8_compares_96 : decode cX8_compares 96 = .ok (.iadd, 1) := by decide +kernel
theorem dX8_compares_97 : decode cX8_compares 97 = .ok (.istore 4, 2) := by decide +kernel
theorem dX8_compares_99 : decode cX8_compares 99 = .ok (.iload 4, 2) := by decide +kernel
theorem dX8_compares_101 : decode cX8_compares 101 = .ok (.aload_n 0, 1) := by decide +kernel
theorem dX8_compares_102 : decode cX8_compares 102 = .ok (.getfield 87, 3) := by decide +kernel
theorem dX8_compares_105 : decode cX8_compares 105 = .ok (.bipush 9, 2) := by decide +kernel
theorem dX8_compares_107 : decode cX8_compares 107 = .ok (.iload_n 2, 1) := by decide +kernel
theorem dX8_compares_108 : decode cX8_compares 108 = .ok (.iconst 1, 1) := by decide +kernel
theorem dX8_compares_109 : decode cX8_compares 109 = .ok (.isub, 1) := by decide +kernel
theorem dX8_compares_110 : decode cX8_compares 110 = .ok (.imul, 1) := by decide +kernel
theorem dX8_compares_111 : decode cX8_compares 111 = .ok (.iload_n 3, 1) := by decide +kernel
theorem dX8_compares_112 : decode cX8_compares 112 = .ok (.iadd, 1) := by decide +kernel
theorem dX8_compares_113 : decode cX8_compares 113 = .ok (.iconst 1, 1) := by decide +kernel
theorem dX8_compares_114 : decode cX8_compares 114 = .ok (.isub, 1) := by decide +kernel
theorem dX8_compares_115 : decode cX8_compares 115 = .ok (.iaload, 1) := by decide +kernel
theorem dX8_compares_116 : decode cX8_compares 116 = .ok (.iload 5, 2) := by decide +kernel
theorem dX8_compares_118 : decode cX8_compares 118 = .ok (.ifCond .eq 7, 3) := by decide +kernel
theorem dX8_compares_121 : decode cX8_compares 121 = .ok (.iconst 0, 1) := by decide +kernel
theorem dX8_compares_122 : decode cX8_compares 122 = .ok (.goto 4, 3) := by decide +kernel
theorem dX8_compares_125 : decode cX8_compares 125 = .ok (.iconst 1, 1) := by decide +kernel
theorem dX8_compares_126 : decode cX8_compares 126 = .ok (.iadd, 1) := by decide +kernel
theorem dX8_compares_127 : decode cX8_compares 127 = .ok (.invokestatic 137, 3) := by decide +kernel
theorem dX8_compares_130 : decode cX8_compares 130 = .ok (.istore 4, 2) := by decide +kernel
theorem dX8_compares_132 : decode cX8_compares 132 = .ok (.aload_n 0, 1) := by decide +kernel
theorem dX8_compares_133 : decode cX8_compares 133 = .ok (.getfield 87, 3) := by decide +kernel
theorem dX8_compares_136 : decode cX8_compares 136 = .ok (.bipush 9, 2) := by decide +kernel
theorem dX8_compares_138 : decode cX8_compares 138 = .ok (.iload_n 2, 1) := by decide +kernel
theorem dX8_compares_139 : decode cX8_compares 139 = .ok (.imul, 1) := by decide +kernel
theorem dX8_compares_140 : decode cX8_compares 140 = .ok (.iload_n 3, 1) := by decide +kernel
theorem dX8_compares_141 : decode cX8_compares 141 = .ok (.iadd, 1) := by decide +kernel
theorem dX8_compares_142 : decode cX8_compares 142 = .ok (.iload 4, 2) := by decide +kernel
theorem dX8_compares_144 : decode cX8_compares 144 = .ok (.iastore, 1) := by decide +kernel
theorem dX8_compares_145 : decode cX8_compares 145 = .ok (.iinc 3 1, 3) := by decide +kernel
theorem dX8_compares_148 : decode cX8_compares 148 = .ok (.goto (-136), 3) := by decide +kernel
theorem dX8_compares_151 : decode cX8_compares 151 = .ok (.iinc 2 1, 3) := by decide +kernel
theorem dX8_compares_154 : decode cX8_compares 154 = .ok (.goto (-152), 3) := by decide +kernel
theorem dX8_compares_157 : decode cX8_compares 157 = .ok (.return_, 1) := by decide +kernel
set_option maxRecDepth 20000 in
theorem ggX8_likenessOf_X8_compares : GoodIn wsX8_likenessOf wsX8_compares := goodIn_r _ [8, 1, 2, 9, 10, 3, 11, 12, 7, 13, 14, 15, 16, 17, 18, 19, 20, 21, 22, 23, 24, 25, 26, 27, 28, 29, 30, 31, 32, 33, 34, 35, 36, 37, 38, 39, 40, 41, 42, 43, 44, 45, 46, 47, 48] (by decide +kernel) (by decide +kernel)
set_option maxRecDepth 20000 in
theorem gX8_likenessOf_X8_compares : GoodIn wsX8_likenessOf (wsV RX8 140 RX8 yX8_compares wsX8_compares) := goodIn_app (goodIn_of _ (by decide +kernel)) ggX8_likenessOf_X8_compares
theorem dX8_likenessOf_0 : decode cX8_likenessOf 0 = .ok (.aload_n 0, 1) := by decide +kernel
theorem dX8_likenessOf_1 : decode cX8_likenessOf 1 = .ok (.iload_n 1, 1) := by decide +kernel
theorem dX8_likenessOf_2 : decode cX8_likenessOf 2 = .ok (.invokevirtual 140, 3) := by decide +kernel
theorem dX8_likenessOf_5 : decode cX8_likenessOf 5 = .ok (.aload_n 0, 1) := by decide +kernel
theorem dX8_likenessOf_6 : decode cX8_likenessOf 6 = .ok (.getfield 134, 3) := by decide +kernel
theorem dX8_likenessOf_9 : decode cX8_likenessOf 9 = .ok (.aload_n 0, 1) := by decide +kernel
theorem dX8_likenessOf_10 : decode cX8_likenessOf 10 = .ok (.getfield 26, 3) := by decide +kernel
theorem dX8_likenessOf_13 : decode cX8_likenessOf 13 = .ok (.iload_n 1, 1) := by decide +kernel
theorem dX8_likenessOf_14 : decode cX8_likenessOf 14 = .ok (.iaload, 1) := by decide +kernel
theorem dX8_likenessOf_15 : decode cX8_likenessOf 15 = .ok (.if_icmp .le 10, 3) := by decide +kernel
theorem dX8_likenessOf_18 : decode cX8_likenessOf 18 = .ok (.aload_n 0, 1) := by decide +kernel
theorem dX8_likenessOf_19 : decode cX8_likenessOf 19 = .ok (.getfield 134, 3) := by decide +kernel
theorem dX8_likenessOf_22 : decode cX8_likenessOf 22 = .ok (.goto 9, 3) := by decide +kernel
theorem dX8_likenessOf_25 : decode cX8_likenessOf 25 = .ok (.aload_n 0, 1) := by decide +kernel
theorem dX8_likenessOf_26 : decode cX8_likenessOf 26 = .ok (.getfield 26, 3) := by decide +kernel
theorem dX8_likenessOf_29 : decode cX8_likenessOf 29 = .ok (.iload_n 1, 1) := by decide +kernel
theorem dX8_likenessOf_30 : decode cX8_likenessOf 30 = .ok (.iaload, 1) := by decide +kernel
theorem dX8_likenessOf_31 : decode cX8_likenessOf 31 = .ok (.istore_n 2, 1) := by decide +kernel
theorem dX8_likenessOf_32 : decode cX8_likenessOf 32 = .ok (.bipush 100, 2) := by decide +kernel
theorem dX8_likenessOf_34 : decode cX8_likenessOf 34 = .ok (.bipush 100, 2) := by decide +kernel
theorem dX8_likenessOf_36 : decode cX8_likenessOf 36 = .ok (.aload_n 0, 1) := by decide +kernel
theorem dX8_likenessOf_37 : decode cX8_likenessOf 37 = .ok (.getfield 87, 3) := by decide +kernel
theorem dX8_likenessOf_40 : decode cX8_likenessOf 40 = .ok (.bipush 9, 2) := by decide +kernel
theorem dX8_likenessOf_42 : decode cX8_likenessOf 42 = .ok (.aload_n 0, 1) := by decide +kernel
theorem dX8_likenessOf_43 : decode cX8_likenessOf 43 = .ok (.getfield 134, 3) := by decide +kernel
theorem dX8_likenessOf_46 : decode cX8_likenessOf 46 = .ok (.imul, 1) := by decide +kernel
theorem dX8_likenessOf_47 : decode cX8_likenessOf 47 = .ok (.aload_n 0, 1) := by decide +kernel
theorem dX8_likenessOf_48 : decode cX8_likenessOf 48 = .ok (.getfield 26, 3) := by decide +kernel
theorem dX8_likenessOf_51 : decode cX8_likenessOf 51 = .ok (.iload_n 1, 1) := by decide +kernel
theorem dX8_likenessOf_52 : decode cX8_likenessOf 52 = .ok (.iaload, 1) := by decide +kernel
theorem dX8_likenessOf_53 : decode cX8_likenessOf 53 = .ok (.iadd, 1) := by decide +kernel
theorem dX8_likenessOf_54 : decode cX8_likenessOf 54 = .ok (.iaload, 1) := by decide +kernel
theorem dX8_likenessOf_55 : decode cX8_likenessOf 55 = .ok (.imul, 1) := by decide +kernel
theorem dX8_likenessOf_56 : decode cX8_likenessOf 56 = .ok (.iload_n 2, 1) := by decide +kernel
theorem dX8_likenessOf_57 : decode cX8_likenessOf 57 = .ok (.iadd, 1) := by decide +kernel
theorem dX8_likenessOf_58 : decode cX8_likenessOf 58 = .ok (.iconst 1, 1) := by decide +kernel
theorem dX8_likenessOf_59 : decode cX8_likenessOf 59 = .ok (.isub, 1) := by decide +kernel
theorem dX8_likenessOf_60 : decode cX8_likenessOf 60 = .ok (.iload_n 2, 1) := by decide +kernel
theorem dX8_likenessOf_61 : decode cX8_likenessOf 61 = .ok (.idiv, 1) := by decide +kernel
theorem dX8_likenessOf_62 : decode cX8_likenessOf 62 = .ok (.isub, 1) := by decide +kernel
theorem dX8_likenessOf_63 : decode cX8_likenessOf 63 = .ok (.ireturn, 1) := by decide +kernel
set_option maxRecDepth 20000 in
theorem ggX8_bestOf_X8_likenessOf : GoodIn wsX8_bestOf wsX8_likenessOf := goodIn_r _ [9, 10, 11, 12, 13, 14, 15, 8, 16, 17, 18, 19, 20, 21, 22, 23, 24, 25, 26, 27, 28, 29, 30, 31, 32, 33, 34, 35, 36, 37, 38, 39, 40, 41, 42, 43, 44, 45, 46, 47, 48, 49, 50, 51, 52, 53, 54, 55, 56] (by decide +kernel) (by decide +kernel)
set_option maxRecDepth 20000 in
theorem gX8_bestOf_X8_likenessOf : GoodIn wsX8_bestOf (wsV RX8 144 RX8 yX8_likenessOf wsX8_likenessOf) := goodIn_app (goodIn_of _ (by decide +kernel)) ggX8_bestOf_X8_likenessOf
theorem dX8_bestOf_0 : decode cX8_bestOf 0 = .ok (.iconst (-1), 1) := by decide +kernel
theorem dX8_bestOf_1 : decode cX8_bestOf 1 = .ok (.istore_n 2, 1) := by decide +kernel
theorem dX8_bestOf_2 : decode cX8_bestOf 2 = .ok (.iconst 0, 1) := by decide +kernel
theorem dX8_bestOf_3 : decode cX8_bestOf 3 = .ok (.istore_n 3, 1) := by decide +kernel
theorem dX8_bestOf_4 : decode cX8_bestOf 4 = .ok (.iconst 0, 1) := by decide +kernel
theorem dX8_bestOf_5 : decode cX8_bestOf 5 = .ok (.istore 4, 2) := by decide +kernel
theorem dX8_bestOf_7 : decode cX8_bestOf 7 = .ok (.iload 4, 2) := by decide +kernel
theorem dX8_bestOf_9 : decode cX8_bestOf 9 = .ok (.aload_n 0, 1) := by decide +kernel
theorem dX8_bestOf_10 : decode cX8_bestOf 10 = .ok (.getfield 104, 3) := by decide +kernel
theorem dX8_bestOf_13 : decode cX8_bestOf 13 = .ok (.if_icmp .ge 100, 3) := by decide +kernel
theorem dX8_bestOf_16 : decode cX8_bestOf 16 = .ok (.aload_n 0, 1) := by decide +kernel
theorem dX8_bestOf_17 : decode cX8_bestOf 17 = .ok (.getfield 75, 3) := by decide +kernel
theorem dX8_bestOf_20 : decode cX8_bestOf 20 = .ok (.iload 4, 2) := by decide +kernel
theorem dX8_bestOf_22 : decode cX8_bestOf 22 = .ok (.iaload, 1) := by decide +kernel
theorem dX8_bestOf_23 : decode cX8_bestOf 23 = .ok (.ifCond .le 7, 3) := by decide +kernel
theorem dX8_bestOf_26 : decode cX8_bestOf 26 = .ok (.iconst (-1), 1) := by decide +kernel
theorem dX8_bestOf_27 : decode cX8_bestOf 27 = .ok (.goto 9, 3) := by decide +kernel
theorem dX8_bestOf_30 : decode cX8_bestOf 30 = .ok (.aload_n 0, 1) := by decide +kernel
theorem dX8_bestOf_31 : decode cX8_bestOf 31 = .ok (.iload 4, 2) := by decide +kernel
theorem dX8_bestOf_33 : decode cX8_bestOf 33 = .ok (.invokevirtual 144, 3) := by decide +kernel
theorem dX8_bestOf_36 : decode cX8_bestOf 36 = .ok (.istore 5, 2) := by decide +kernel
theorem dX8_bestOf_38 : decode cX8_bestOf 38 = .ok (.iconst 2, 1) := by decide +kernel
theorem dX8_bestOf_39 : decode cX8_bestOf 39 = .ok (.iload 5, 2) := by decide +kernel
theorem dX8_bestOf_41 : decode cX8_bestOf 41 = .ok (.imul, 1) := by decide +kernel
theorem dX8_bestOf_42 : decode cX8_bestOf 42 = .ok (.aload_n 0, 1) := by decide +kernel
theorem dX8_bestOf_43 : decode cX8_bestOf 43 = .ok (.getfield 23, 3) := by decide +kernel
theorem dX8_bestOf_46 : decode cX8_bestOf 46 = .ok (.iload 4, 2) := by decide +kernel
theorem dX8_bestOf_48 : decode cX8_bestOf 48 = .ok (.iaload, 1) := by decide +kernel
theorem dX8_bestOf_49 : decode cX8_bestOf 49 = .ok (.iload_n 1, 1) := by decide +kernel
theorem dX8_bestOf_50 : decode cX8_bestOf 50 = .ok (.if_icmp .ne 7, 3) := by decide +kernel
theorem dX8_bestOf_53 : decode cX8_bestOf 53 = .ok (.iconst 1, 1) := by decide +kernel
theorem dX8_bestOf_54 : decode cX8_bestOf 54 = .ok (.goto 4, 3) := by decide +kernel
theorem dX8_bestOf_57 : decode cX8_bestOf 57 = .ok (.iconst 0, 1) := by decide +kernel
theorem dX8_bestOf_58 : decode cX8_bestOf 58 = .ok (.iadd, 1) := by decide +kernel
theorem dX8_bestOf_59 : decode cX8_bestOf 59 = .ok (.istore 6, 2) := by decide +kernel
theorem dX8_bestOf_61 : decode cX8_bestOf 61 = .ok (.iload 5, 2) := by decide +kernel
theorem dX8_bestOf_63 : decode cX8_bestOf 63 = .ok (.aload_n 0, 1) := by decide +kernel
theorem dX8_bestOf_64 : decode cX8_bestOf 64 = .ok (.getfield 13, 3) := by decide +kernel
theorem dX8_bestOf_67 : decode cX8_bestOf 67 = .ok (.if_icmp .lt 13, 3) := by decide +kernel
theorem dX8_bestOf_70 : decode cX8_bestOf 70 = .ok (.iload 6, 2) := by decide +kernel
theorem dX8_bestOf_72 : decode cX8_bestOf 72 = .ok (.iload_n 3, 1) := by decide +kernel
theorem dX8_bestOf_73 : decode cX8_bestOf 73 = .ok (.if_icmp .lt 7, 3) := by decide +kernel
theorem dX8_bestOf_76 : decode cX8_bestOf 76 = .ok (.iconst 1, 1) := by decide +kernel
theorem dX8_bestOf_77 : decode cX8_bestOf 77 = .ok (.goto 4, 3) := by decide +kernel
theorem dX8_bestOf_80 : decode cX8_bestOf 80 = .ok (.iconst 0, 1) := by decide +kernel
theorem dX8_bestOf_81 : decode cX8_bestOf 81 = .ok (.istore 7, 2) := by decide +kernel
theorem dX8_bestOf_83 : decode cX8_bestOf 83 = .ok (.iload 7, 2) := by decide +kernel
theorem dX8_bestOf_85 : decode cX8_bestOf 85 = .ok (.ifCond .eq 8, 3) := by decide +kernel
theorem dX8_bestOf_88 : decode cX8_bestOf 88 = .ok (.iload 4, 2) := by decide +kernel
theorem dX8_bestOf_90 : decode cX8_bestOf 90 = .ok (.goto 4, 3) := by decide +kernel
theorem dX8_bestOf_93 : decode cX8_bestOf 93 = .ok (.iload_n 2, 1) := by decide +kernel
theorem dX8_bestOf_94 : decode cX8_bestOf 94 = .ok (.istore_n 2, 1) := by decide +kernel
theorem dX8_bestOf_95 : decode cX8_bestOf 95 = .ok (.iload 7, 2) := by decide +kernel
theorem dX8_bestOf_97 : decode cX8_bestOf 97 = .ok (.ifCond .eq 8, 3) := by decide +kernel
theorem dX8_bestOf_100 : decode cX8_bestOf 100 = .ok (.iload 6, 2) := by decide +kernel
theorem dX8_bestOf_102 : decode cX8_bestOf 102 = .ok (.goto 4, 3) := by decide +kernel
theorem dX8_bestOf_105 : decode cX8_bestOf 105 = .ok (.iload_n 3, 1) := by decide +kernel
theorem dX8_bestOf_106 : decode cX8_bestOf 106 = .ok (.istore_n 3, 1) := by decide +kernel
theorem dX8_bestOf_107 : decode cX8_bestOf 107 = .ok (.iinc 4 1, 3) := by decide +kernel
theorem dX8_bestOf_110 : decode cX8_bestOf 110 = .ok (.goto (-103), 3) := by decide +kernel
theorem dX8_bestOf_113 : decode cX8_bestOf 113 = .ok (.iload_n 2, 1) := by decide +kernel
theorem dX8_bestOf_114 : decode cX8_bestOf 114 = .ok (.ireturn, 1) := by decide +kernel
set_option maxRecDepth 20000 in
theorem ggX8_shareOf_X8_likenessOf : GoodIn wsX8_shareOf wsX8_likenessOf := goodIn_r _ [5, 6, 7, 8, 9, 10, 11, 4, 12, 13, 14, 15, 16, 17, 18, 19, 20, 21, 22, 23, 24, 25, 26, 27, 28, 29, 30, 31, 32, 33, 34, 35, 36, 37, 38, 39, 40, 41, 42, 43, 44, 45, 46, 47, 48, 49, 50, 51, 52] (by decide +kernel) (by decide +kernel)
set_option maxRecDepth 20000 in
theorem gX8_shareOf_X8_likenessOf : GoodIn wsX8_shareOf (wsV RX8 144 RX8 yX8_likenessOf wsX8_likenessOf) := goodIn_app (goodIn_of _ (by decide +kernel)) ggX8_shareOf_X8_likenessOf
theorem dX8_shareOf_0 : decode cX8_shareOf 0 = .ok (.iload_n 1, 1) := by decide +kernel
theorem dX8_shareOf_1 : decode cX8_shareOf 1 = .ok (.iconst (-1), 1) := by decide +kernel
theorem dX8_shareOf_2 : decode cX8_shareOf 2 = .ok (.if_icmp .ne 7, 3) := by decide +kernel
theorem dX8_shareOf_5 : decode cX8_shareOf 5 = .ok (.iconst 0, 1) := by decide +kernel
theorem dX8_shareOf_6 : decode cX8_shareOf 6 = .ok (.goto 8, 3) := by decide +kernel
theorem dX8_shareOf_9 : decode cX8_shareOf 9 = .ok (.aload_n 0, 1) := by decide +kernel
theorem dX8_shareOf_10 : decode cX8_shareOf 10 = .ok (.iload_n 1, 1) := by decide +kernel
theorem dX8_shareOf_11 : decode cX8_shareOf 11 = .ok (.invokevirtual 144, 3) := by decide +kernel
theorem dX8_shareOf_14 : decode cX8_shareOf 14 = .ok (.istore_n 2, 1) := by decide +kernel
theorem dX8_shareOf_15 : decode cX8_shareOf 15 = .ok (.iload_n 1, 1) := by decide +kernel
theorem dX8_shareOf_16 : decode cX8_shareOf 16 = .ok (.iconst (-1), 1) := by decide +kernel
theorem dX8_shareOf_17 : decode cX8_shareOf 17 = .ok (.if_icmp .ne 8, 3) := by decide +kernel
theorem dX8_shareOf_20 : decode cX8_shareOf 20 = .ok (.bipush 100, 2) := by decide +kernel
theorem dX8_shareOf_22 : decode cX8_shareOf 22 = .ok (.goto 38, 3) := by decide +kernel
theorem dX8_shareOf_25 : decode cX8_shareOf 25 = .ok (.iload_n 2, 1) := by decide +kernel
theorem dX8_shareOf_26 : decode cX8_shareOf 26 = .ok (.bipush 100, 2) := by decide +kernel
theorem dX8_shareOf_28 : decode cX8_shareOf 28 = .ok (.if_icmp .ne 8, 3) := by decide +kernel
theorem dX8_shareOf_31 : decode cX8_shareOf 31 = .ok (.bipush 20, 2) := by decide +kernel
theorem dX8_shareOf_33 : decode cX8_shareOf 33 = .ok (.goto 27, 3) := by decide +kernel
theorem dX8_shareOf_36 : decode cX8_shareOf 36 = .ok (.iload_n 2, 1) := by decide +kernel
theorem dX8_shareOf_37 : decode cX8_shareOf 37 = .ok (.bipush 85, 2) := by decide +kernel
theorem dX8_shareOf_39 : decode cX8_shareOf 39 = .ok (.if_icmp .lt 8, 3) := by decide +kernel
theorem dX8_shareOf_42 : decode cX8_shareOf 42 = .ok (.bipush 50, 2) := by decide +kernel
theorem dX8_shareOf_44 : decode cX8_shareOf 44 = .ok (.goto 16, 3) := by decide +kernel
theorem dX8_shareOf_47 : decode cX8_shareOf 47 = .ok (.iload_n 2, 1) := by decide +kernel
theorem dX8_shareOf_48 : decode cX8_shareOf 48 = .ok (.bipush 70, 2) := by decide +kernel
theorem dX8_shareOf_50 : decode cX8_shareOf 50 = .ok (.if_icmp .lt 8, 3) := by decide +kernel
theorem dX8_shareOf_53 : decode cX8_shareOf 53 = .ok (.bipush 70, 2) := by decide +kernel
theorem dX8_shareOf_55 : decode cX8_shareOf 55 = .ok (.goto 5, 3) := by decide +kernel
theorem dX8_shareOf_58 : decode cX8_shareOf 58 = .ok (.bipush 90, 2) := by decide +kernel
theorem dX8_shareOf_60 : decode cX8_shareOf 60 = .ok (.ireturn, 1) := by decide +kernel
set_option maxRecDepth 20000 in
theorem ggX8_costOf_X8_shareOf : GoodIn wsX8_costOf wsX8_shareOf := goodIn_r _ [7, 8, 9, 10, 6, 11, 1, 12, 13, 14, 15, 16, 17, 18, 19, 20, 21, 22, 23, 24, 25, 26, 27, 28, 29, 30, 31, 32, 33, 34, 35, 36, 37, 38, 39, 40, 41, 42, 43, 44, 45, 46, 47, 48, 49, 50, 51, 52, 53, 54, 55, 56, 57] (by decide +kernel) (by decide +kernel)
set_option maxRecDepth 20000 in
theorem gX8_costOf_X8_shareOf : GoodIn wsX8_costOf (wsV RX8 148 RX8 yX8_shareOf wsX8_shareOf) := goodIn_app (goodIn_of _ (by decide +kernel)) ggX8_costOf_X8_shareOf
theorem dX8_costOf_0 : decode cX8_costOf 0 = .ok (.aload_n 0, 1) := by decide +kernel
theorem dX8_costOf_1 : decode cX8_costOf 1 = .ok (.getfield 134, 3) := by decide +kernel
theorem dX8_costOf_4 : decode cX8_costOf 4 = .ok (.aload_n 0, 1) := by decide +kernel
theorem dX8_costOf_5 : decode cX8_costOf 5 = .ok (.getfield 17, 3) := by decide +kernel
theorem dX8_costOf_8 : decode cX8_costOf 8 = .ok (.imul, 1) := by decide +kernel
theorem dX8_costOf_9 : decode cX8_costOf 9 = .ok (.aload_n 0, 1) := by decide +kernel
theorem dX8_costOf_10 : decode cX8_costOf 10 = .ok (.iload_n 1, 1) := by decide +kernel
theorem dX8_costOf_11 : decode cX8_costOf 11 = .ok (.invokevirtual 148, 3) := by decide +kernel
theorem dX8_costOf_14 : decode cX8_costOf 14 = .ok (.imul, 1) := by decide +kernel
theorem dX8_costOf_15 : decode cX8_costOf 15 = .ok (.bipush 100, 2) := by decide +kernel
theorem dX8_costOf_17 : decode cX8_costOf 17 = .ok (.idiv, 1) := by decide +kernel
theorem dX8_costOf_18 : decode cX8_costOf 18 = .ok (.istore_n 3, 1) := by decide +kernel
theorem dX8_costOf_19 : decode cX8_costOf 19 = .ok (.iload_n 2, 1) := by decide +kernel
theorem dX8_costOf_20 : decode cX8_costOf 20 = .ok (.ifCond .eq 11, 3) := by decide +kernel
theorem dX8_costOf_23 : decode cX8_costOf 23 = .ok (.iload_n 3, 1) := by decide +kernel
theorem dX8_costOf_24 : decode cX8_costOf 24 = .ok (.iload_n 3, 1) := by decide +kernel
theorem dX8_costOf_25 : decode cX8_costOf 25 = .ok (.iconst 2, 1) := by decide +kernel
theorem dX8_costOf_26 : decode cX8_costOf 26 = .ok (.idiv, 1) := by decide +kernel
theorem dX8_costOf_27 : decode cX8_costOf 27 = .ok (.iadd, 1) := by decide +kernel
theorem dX8_costOf_28 : decode cX8_costOf 28 = .ok (.goto 4, 3) := by decide +kernel
theorem dX8_costOf_31 : decode cX8_costOf 31 = .ok (.iload_n 3, 1) := by decide +kernel
theorem dX8_costOf_32 : decode cX8_costOf 32 = .ok (.ireturn, 1) := by decide +kernel
set_option maxRecDepth 20000 in
theorem ggX8_word_X8_isIn : GoodIn wsX8_word wsX8_isIn := goodIn_r _ [6] (by decide +kernel) (by decide +kernel)
set_option maxRecDepth 20000 in
theorem gX8_word_X8_isIn : GoodIn wsX8_word (va_wsS RX8 114 yX8_isIn wsX8_isIn) := goodIn_app (goodIn_of _ (by decide +kernel)) ggX8_word_X8_isIn
set_option maxRecDepth 20000 in
theorem ggX8_word_X8_holds : GoodIn wsX8_word wsX8_holds := goodIn_r _ [10, 11, 12, 13, 14, 15, 16, 17, 18, 19, 20, 21, 22, 23, 24, 25, 26, 27, 28, 29, 30, 31, 32, 33, 34, 35, 36, 37, 38, 39, 40, 41, 42, 43, 44, 45, 46] (by decide +kernel) (by decide +kernel)
set_option maxRecDepth 20000 in
theorem gX8_word_X8_holds : GoodIn wsX8_word (wsV RX8 118 RX8 yX8_holds wsX8_holds) := goodIn_app (goodIn_of _ (by decide +kernel)) ggX8_word_X8_holds
theorem dX8_word_0 : decode cX8_word 0 = .ok (.aload_n 0, 1) := by decide +kernel
theorem dX8_word_1 : decode cX8_word 1 = .ok (.iload_n 1, 1) := by decide +kernel
theorem dX8_word_2 : decode cX8_word 2 = .ok (.bipush 50, 2) := by decide +kernel
theorem dX8_word_4 : decode cX8_word 4 = .ok (.invokestatic 114, 3) := by decide +kernel
theorem dX8_word_7 : decode cX8_word 7 = .ok (.ifCond .ne 7, 3) := by decide +kernel
theorem dX8_word_10 : decode cX8_word 10 = .ok (.iconst 1, 1) := by decide +kernel
theorem dX8_word_11 : decode cX8_word 11 = .ok (.goto 17, 3) := by decide +kernel
theorem dX8_word_14 : decode cX8_word 14 = .ok (.aload_n 0, 1) := by decide +kernel
theorem dX8_word_15 : decode cX8_word 15 = .ok (.getfield 131, 3) := by decide +kernel
theorem dX8_word_18 : decode cX8_word 18 = .ok (.bipush 8, 2) := by decide +kernel
theorem dX8_word_20 : decode cX8_word 20 = .ok (.if_icmp .ne 7, 3) := by decide +kernel
theorem dX8_word_23 : decode cX8_word 23 = .ok (.iconst 2, 1) := by decide +kernel
theorem dX8_word_24 : decode cX8_word 24 = .ok (.goto 4, 3) := by decide +kernel
theorem dX8_word_27 : decode cX8_word 27 = .ok (.iconst 0, 1) := by decide +kernel
theorem dX8_word_28 : decode cX8_word 28 = .ok (.invokevirtual 118, 3) := by decide +kernel
theorem dX8_word_31 : decode cX8_word 31 = .ok (.ifCond .ne 5, 3) := by decide +kernel
theorem dX8_word_34 : decode cX8_word 34 = .ok (.iconst 0, 1) := by decide +kernel
theorem dX8_word_35 : decode cX8_word 35 = .ok (.ireturn, 1) := by decide +kernel
theorem dX8_word_36 : decode cX8_word 36 = .ok (.aload_n 0, 1) := by decide +kernel
theorem dX8_word_37 : decode cX8_word 37 = .ok (.getfield 7, 3) := by decide +kernel
theorem dX8_word_40 : decode cX8_word 40 = .ok (.aload_n 0, 1) := by decide +kernel
theorem dX8_word_41 : decode cX8_word 41 = .ok (.getfield 131, 3) := by decide +kernel
theorem dX8_word_44 : decode cX8_word 44 = .ok (.iload_n 1, 1) := by decide +kernel
theorem dX8_word_45 : decode cX8_word 45 = .ok (.iastore, 1) := by decide +kernel
theorem dX8_word_46 : decode cX8_word 46 = .ok (.aload_n 0, 1) := by decide +kernel
theorem dX8_word_47 : decode cX8_word 47 = .ok (.dup, 1) := by decide +kernel
theorem dX8_word_48 : decode cX8_word 48 = .ok (.getfield 131, 3) := by decide +kernel
theorem dX8_word_51 : decode cX8_word 51 = .ok (.iconst 1, 1) := by decide +kernel
theorem dX8_word_52 : decode cX8_word 52 = .ok (.iadd, 1) := by decide +kernel
theorem dX8_word_53 : decode cX8_word 53 = .ok (.putfield 131, 3) := by decide +kernel
theorem dX8_word_56 : decode cX8_word 56 = .ok (.aload_n 0, 1) := by decide +kernel
theorem dX8_word_57 : decode cX8_word 57 = .ok (.getfield 131, 3) := by decide +kernel
theorem dX8_word_60 : decode cX8_word 60 = .ok (.ireturn, 1) := by decide +kernel
theorem dX8_clear_0 : decode cX8_clear 0 = .ok (.aload_n 0, 1) := by decide +kernel
theorem dX8_clear_1 : decode cX8_clear 1 = .ok (.iconst 0, 1) := by decide +kernel
theorem dX8_clear_2 : decode cX8_clear 2 = .ok (.putfield 90, 3) := by decide +kernel
theorem dX8_clear_5 : decode cX8_clear 5 = .ok (.aload_n 0, 1) := by decide +kernel
theorem dX8_clear_6 : decode cX8_clear 6 = .ok (.getfield 131, 3) := by decide +kernel
theorem dX8_clear_9 : decode cX8_clear 9 = .ok (.istore_n 1, 1) := by decide +kernel
theorem dX8_clear_10 : decode cX8_clear 10 = .ok (.aload_n 0, 1) := by decide +kernel
theorem dX8_clear_11 : decode cX8_clear 11 = .ok (.iconst 0, 1) := by decide +kernel
theorem dX8_clear_12 : decode cX8_clear 12 = .ok (.putfield 131, 3) := by decide +kernel
theorem dX8_clear_15 : decode cX8_clear 15 = .ok (.iload_n 1, 1) := by decide +kernel
theorem dX8_clear_16 : decode cX8_clear 16 = .ok (.ireturn, 1) := by decide +kernel
set_option maxRecDepth 20000 in
theorem ggX8_isSentence_X8_isIn : GoodIn wsX8_isSentence wsX8_isIn := goodIn_r _ [5] (by decide +kernel) (by decide +kernel)
set_option maxRecDepth 20000 in
theorem gX8_isSentence_X8_isIn : GoodIn wsX8_isSentence (va_wsS RX8 114 yX8_isIn wsX8_isIn) := goodIn_app (goodIn_of _ (by decide +kernel)) ggX8_isSentence_X8_isIn
theorem dX8_isSentence_0 : decode cX8_isSentence 0 = .ok (.iload_n 1, 1) := by decide +kernel
theorem dX8_isSentence_1 : decode cX8_isSentence 1 = .ok (.aload_n 0, 1) := by decide +kernel
theorem dX8_isSentence_2 : decode cX8_isSentence 2 = .ok (.getfield 104, 3) := by decide +kernel
theorem dX8_isSentence_5 : decode cX8_isSentence 5 = .ok (.invokestatic 114, 3) := by decide +kernel
theorem dX8_isSentence_8 : decode cX8_isSentence 8 = .ok (.ireturn, 1) := by decide +kernel
set_option maxRecDepth 20000 in
theorem ggX8_likeness_X8_isSentence : GoodIn wsX8_likeness wsX8_isSentence := goodIn_r _ [6, 7, 8, 9, 5, 10, 37, 38, 39, 40, 41, 42, 43, 44, 45, 46, 47, 48, 49, 50, 51, 52, 53, 54, 55, 56, 57, 58, 59, 60, 61, 62, 63, 64, 65, 66, 67, 68, 69, 70, 71] (by decide +kernel) (by decide +kernel)
set_option maxRecDepth 20000 in
theorem gX8_likeness_X8_isSentence : GoodIn wsX8_likeness (wsV RX8 151 RX8 yX8_isSentence wsX8_isSentence) := goodIn_app (goodIn_of _ (by decide +kernel)) ggX8_likeness_X8_isSentence
set_option maxRecDepth 20000 in
theorem ggX8_likeness_X8_holds : GoodIn wsX8_likeness wsX8_holds := goodIn_r _ [14, 15, 37, 38, 39, 40, 41, 42, 43, 44, 45, 46, 47, 48, 49, 50, 51, 52, 53, 54, 55, 56, 57, 58, 59, 60, 61, 62, 63, 64, 65, 66, 67, 68, 69, 70, 71] (by decide +kernel) (by decide +kernel)
set_option maxRecDepth 20000 in
theorem gX8_likeness_X8_holds : GoodIn wsX8_likeness (wsV RX8 118 RX8 yX8_holds wsX8_holds) := goodIn_app (goodIn_of _ (by decide +kernel)) ggX8_likeness_X8_holds
set_option maxRecDepth 20000 in
theorem ggX8_likeness_X8_takesDraft : GoodIn wsX8_likeness wsX8_takesDraft := goodIn_r _ [19, 1, 20, 21, 22, 37, 38, 39, 40, 41, 42, 43, 44, 45, 46, 47, 48, 49, 50, 51, 52, 53, 54, 55, 56, 57, 58, 59, 60, 61, 62, 63, 64, 65, 66, 67, 68, 69, 70, 71] (by decide +kernel) (by decide +kernel)
set_option maxRecDepth 20000 in
theorem gX8_likeness_X8_takesDraft : GoodIn wsX8_likeness (wsV RX8 154 RX8 yX8_takesDraft wsX8_takesDraft) := goodIn_app (goodIn_of _ (by decide +kernel)) ggX8_likeness_X8_takesDraft
set_option maxRecDepth 20000 in
theorem ggX8_likeness_X8_likenessOf : GoodIn wsX8_likeness wsX8_likenessOf := goodIn_r _ [26, 20, 27, 28, 29, 30, 31, 5, 32, 21, 33, 34, 35, 36, 37, 38, 39, 40, 41, 42, 43, 44, 45, 46, 47, 48, 49, 50, 51, 52, 53, 54, 55, 56, 57, 58, 59, 60, 61, 62, 63, 64, 65, 66, 67, 68, 69, 70, 71] (by decide +kernel) (by decide +kernel)
set_option maxRecDepth 20000 in
theorem gX8_likeness_X8_likenessOf : GoodIn wsX8_likeness (wsV RX8 144 RX8 yX8_likenessOf wsX8_likenessOf) := goodIn_app (goodIn_of _ (by decide +kernel)) ggX8_likeness_X8_likenessOf
theorem dX8_likeness_0 : decode cX8_likeness 0 = .ok (.aload_n 0, 1) := by decide +kernel
theorem dX8_likeness_1 : decode cX8_likeness 1 = .ok (.aload_n 0, 1) := by decide +kernel
theorem dX8_likeness_2 : decode cX8_likeness 2 = .ok (.iload_n 1, 1) := by decide +kernel
theorem dX8_likeness_3 : decode cX8_likeness 3 = .ok (.invokevirtual 151, 3) := by decide +kernel
theorem dX8_likeness_6 : decode cX8_likeness 6 = .ok (.ifCond .ne 7, 3) := by decide +kernel
theorem dX8_likeness_9 : decode cX8_likeness 9 = .ok (.iconst 1, 1) := by decide +kernel
theorem dX8_likeness_10 : decode cX8_likeness 10 = .ok (.goto 15, 3) := by decide +kernel
theorem dX8_likeness_13 : decode cX8_likeness 13 = .ok (.aload_n 0, 1) := by decide +kernel
theorem dX8_likeness_14 : decode cX8_likeness 14 = .ok (.getfield 131, 3) := by decide +kernel
theorem dX8_likeness_17 : decode cX8_likeness 17 = .ok (.ifCond .ne 7, 3) := by decide +kernel
theorem dX8_likeness_20 : decode cX8_likeness 20 = .ok (.iconst 2, 1) := by decide +kernel
theorem dX8_likeness_21 : decode cX8_likeness 21 = .ok (.goto 4, 3) := by decide +kernel
theorem dX8_likeness_24 : decode cX8_likeness 24 = .ok (.iconst 0, 1) := by decide +kernel
theorem dX8_likeness_25 : decode cX8_likeness 25 = .ok (.invokevirtual 118, 3) := by decide +kernel
theorem dX8_likeness_28 : decode cX8_likeness 28 = .ok (.ifCond .ne 5, 3) := by decide +kernel
theorem dX8_likeness_31 : decode cX8_likeness 31 = .ok (.iconst 0, 1) := by decide +kernel
theorem dX8_likeness_32 : decode cX8_likeness 32 = .ok (.ireturn, 1) := by decide +kernel
theorem dX8_likeness_33 : decode cX8_likeness 33 = .ok (.aload_n 0, 1) := by decide +kernel
theorem dX8_likeness_34 : decode cX8_likeness 34 = .ok (.invokevirtual 154, 3) := by decide +kernel
theorem dX8_likeness_37 : decode cX8_likeness 37 = .ok (.aload_n 0, 1) := by decide +kernel
theorem dX8_likeness_38 : decode cX8_likeness 38 = .ok (.iload_n 1, 1) := by decide +kernel
theorem dX8_likeness_39 : decode cX8_likeness 39 = .ok (.invokevirtual 144, 3) := by decide +kernel
theorem dX8_likeness_42 : decode cX8_likeness 42 = .ok (.ireturn, 1) := by decide +kernel
set_option maxRecDepth 20000 in
theorem ggX8_isAsked_X8_isIn : GoodIn wsX8_isAsked wsX8_isIn := goodIn_r _ [5] (by decide +kernel) (by decide +kernel)
set_option maxRecDepth 20000 in
theorem gX8_isAsked_X8_isIn : GoodIn wsX8_isAsked (va_wsS RX8 114 yX8_isIn wsX8_isIn) := goodIn_app (goodIn_of _ (by decide +kernel)) ggX8_isAsked_X8_isIn
set_option maxRecDepth 20000 in
theorem ggX8_isAsked_X8_holds : GoodIn wsX8_isAsked wsX8_holds := goodIn_r _ [9, 10, 18, 19, 20, 21, 22, 23, 24, 25, 26, 27, 28, 29, 30, 31, 32, 33, 34, 35, 36, 37, 38, 39, 40, 41, 42, 43, 44, 45, 46, 47, 48, 49, 50, 51, 52] (by decide +kernel) (by decide +kernel)
set_option maxRecDepth 20000 in
theorem gX8_isAsked_X8_holds : GoodIn wsX8_isAsked (wsV RX8 118 RX8 yX8_holds wsX8_holds) := goodIn_app (goodIn_of _ (by decide +kernel)) ggX8_isAsked_X8_holds
set_option maxRecDepth 20000 in
theorem ggX8_isAsked_X8_takesDraft : GoodIn wsX8_isAsked wsX8_takesDraft := goodIn_r _ [14, 1, 15, 16, 17, 18, 19, 20, 21, 22, 23, 24, 25, 26, 27, 28, 29, 30, 31, 32, 33, 34, 35, 36, 37, 38, 39, 40, 41, 42, 43, 44, 45, 46, 47, 48, 49, 50, 51, 52] (by decide +kernel) (by decide +kernel)
set_option maxRecDepth 20000 in
theorem gX8_isAsked_X8_takesDraft : GoodIn wsX8_isAsked (wsV RX8 154 RX8 yX8_takesDraft wsX8_takesDraft) := goodIn_app (goodIn_of _ (by decide +kernel)) ggX8_isAsked_X8_takesDraft
theorem dX8_isAsked_0 : decode cX8_isAsked 0 = .ok (.aload_n 0, 1) := by decide +kernel
theorem dX8_isAsked_1 : decode cX8_isAsked 1 = .ok (.iload_n 1, 1) := by decide +kernel
theorem dX8_isAsked_2 : decode cX8_isAsked 2 = .ok (.iconst 4, 1) := by decide +kernel
theorem dX8_isAsked_3 : decode cX8_isAsked 3 = .ok (.invokestatic 114, 3) := by decide +kernel
theorem dX8_isAsked_6 : decode cX8_isAsked 6 = .ok (.ifCond .ne 7, 3) := by decide +kernel
theorem dX8_isAsked_9 : decode cX8_isAsked 9 = .ok (.iconst 1, 1) := by decide +kernel
theorem dX8_isAsked_10 : decode cX8_isAsked 10 = .ok (.goto 15, 3) := by decide +kernel
theorem dX8_isAsked_13 : decode cX8_isAsked 13 = .ok (.aload_n 0, 1) := by decide +kernel
theorem dX8_isAsked_14 : decode cX8_isAsked 14 = .ok (.getfield 131, 3) := by decide +kernel
theorem dX8_isAsked_17 : decode cX8_isAsked 17 = .ok (.ifCond .ne 7, 3) := by decide +kernel
theorem dX8_isAsked_20 : decode cX8_isAsked 20 = .ok (.iconst 2, 1) := by decide +kernel
theorem dX8_isAsked_21 : decode cX8_isAsked 21 = .ok (.goto 4, 3) := by decide +kernel
theorem dX8_isAsked_24 : decode cX8_isAsked 24 = .ok (.iconst 0, 1) := by decide +kernel
theorem dX8_isAsked_25 : decode cX8_isAsked 25 = .ok (.invokevirtual 118, 3) := by decide +kernel
theorem dX8_isAsked_28 : decode cX8_isAsked 28 = .ok (.istore_n 2, 1) := by decide +kernel
theorem dX8_isAsked_29 : decode cX8_isAsked 29 = .ok (.aload_n 0, 1) := by decide +kernel
theorem dX8_isAsked_30 : decode cX8_isAsked 30 = .ok (.invokevirtual 154, 3) := by decide +kernel
theorem dX8_isAsked_33 : decode cX8_isAsked 33 = .ok (.iload_n 2, 1) := by decide +kernel
theorem dX8_isAsked_34 : decode cX8_isAsked 34 = .ok (.ireturn, 1) := by decide +kernel
set_option maxRecDepth 20000 in
theorem ggX8_best_X8_isAsked : GoodIn wsX8_best wsX8_isAsked := goodIn_r _ [5, 6, 7, 8, 4, 9, 10, 11, 12, 13, 14, 15, 16, 17, 18, 19, 20, 21, 44, 45, 46, 47, 48, 49, 50, 51, 52, 53, 54, 55, 56, 57, 58, 59, 60, 61, 62, 63, 64, 65, 66, 67, 68, 69, 70, 71, 72, 73, 74, 75, 76, 77, 78] (by decide +kernel) (by decide +kernel)
set_option maxRecDepth 20000 in
theorem gX8_best_X8_isAsked : GoodIn wsX8_best (wsV RX8 157 RX8 yX8_isAsked wsX8_isAsked) := goodIn_app (goodIn_of _ (by decide +kernel)) ggX8_best_X8_isAsked
set_option maxRecDepth 20000 in
theorem ggX8_best_X8_bestOf : GoodIn wsX8_best wsX8_bestOf := goodIn_r _ [25, 26, 27, 28, 29, 30, 31, 32, 4, 33, 19, 34, 35, 36, 37, 38, 39, 20, 40, 41, 42, 43, 44, 45, 46, 47, 48, 49, 50, 51, 52, 53, 54, 55, 56, 57, 58, 59, 60, 61, 62, 63, 64, 65, 66, 67, 68, 69, 70, 71, 72, 73, 74, 75, 76, 77, 78] (by decide +kernel) (by decide +kernel)
set_option maxRecDepth 20000 in
theorem gX8_best_X8_bestOf : GoodIn wsX8_best (wsV RX8 160 RX8 yX8_bestOf wsX8_bestOf) := goodIn_app (goodIn_of _ (by decide +kernel)) ggX8_best_X8_bestOf
theorem dX8_best_0 : decode cX8_best 0 = .ok (.aload_n 0, 1) := by decide +kernel
theorem dX8_best_1 : decode cX8_best 1 = .ok (.iload_n 1, 1) := by decide +kernel
theorem dX8_best_2 : decode cX8_best 2 = .ok (.invokevirtual 157, 3) := by decide +kernel
theorem dX8_best_5 : decode cX8_best 5 = .ok (.ifCond .eq 11, 3) := by decide +kernel
theorem dX8_best_8 : decode cX8_best 8 = .ok (.aload_n 0, 1) := by decide +kernel
theorem dX8_best_9 : decode cX8_best 9 = .ok (.iload_n 1, 1) := by decide +kernel
theorem dX8_best_10 : decode cX8_best 10 = .ok (.invokevirtual 160, 3) := by decide +kernel
theorem dX8_best_13 : decode cX8_best 13 = .ok (.goto 4, 3) := by decide +kernel
theorem dX8_best_16 : decode cX8_best 16 = .ok (.iconst 0, 1) := by decide +kernel
theorem dX8_best_17 : decode cX8_best 17 = .ok (.ireturn, 1) := by decide +kernel
set_option maxRecDepth 20000 in
theorem ggX8_bestByAll_X8_isAsked : GoodIn wsX8_bestByAll wsX8_isAsked := goodIn_r _ [5, 6, 7, 8, 4, 9, 10, 11, 12, 13, 14, 15, 16, 17, 18, 19, 20, 21, 44, 45, 46, 47, 48, 49, 50, 51, 52, 53, 54, 55, 56, 57, 58, 59, 60, 61, 62, 63, 64, 65, 66, 67, 68, 69, 70, 71, 72, 73, 74, 75, 76, 77, 78] (by decide +kernel) (by decide +kernel)
set_option maxRecDepth 20000 in
theorem gX8_bestByAll_X8_isAsked : GoodIn wsX8_bestByAll (wsV RX8 157 RX8 yX8_isAsked wsX8_isAsked) := goodIn_app (goodIn_of _ (by decide +kernel)) ggX8_bestByAll_X8_isAsked
set_option maxRecDepth 20000 in
theorem ggX8_bestByAll_X8_bestOf : GoodIn wsX8_bestByAll wsX8_bestOf := goodIn_r _ [25, 26, 27, 28, 29, 30, 31, 32, 4, 33, 19, 34, 35, 36, 37, 38, 39, 20, 40, 41, 42, 43, 44, 45, 46, 47, 48, 49, 50, 51, 52, 53, 54, 55, 56, 57, 58, 59, 60, 61, 62, 63, 64, 65, 66, 67, 68, 69, 70, 71, 72, 73, 74, 75, 76, 77, 78] (by decide +kernel) (by decide +kernel)
set_option maxRecDepth 20000 in
theorem gX8_bestByAll_X8_bestOf : GoodIn wsX8_bestByAll (wsV RX8 160 RX8 yX8_bestOf wsX8_bestOf) := goodIn_app (goodIn_of _ (by decide +kernel)) ggX8_bestByAll_X8_bestOf
theorem dX8_bestByAll_0 : decode cX8_bestByAll 0 = .ok (.aload_n 0, 1) := by decide +kernel
theorem dX8_bestByAll_1 : decode cX8_bestByAll 1 = .ok (.iload_n 1, 1) := by decide +kernel
theorem dX8_bestByAll_2 : decode cX8_bestByAll 2 = .ok (.invokevirtual 157, 3) := by decide +kernel
theorem dX8_bestByAll_5 : decode cX8_bestByAll 5 = .ok (.ifCond .eq 11, 3) := by decide +kernel
theorem dX8_bestByAll_8 : decode cX8_bestByAll 8 = .ok (.aload_n 0, 1) := by decide +kernel
theorem dX8_bestByAll_9 : decode cX8_bestByAll 9 = .ok (.iload_n 1, 1) := by decide +kernel
theorem dX8_bestByAll_10 : decode cX8_bestByAll 10 = .ok (.invokevirtual 160, 3) := by decide +kernel
theorem dX8_bestByAll_13 : decode cX8_bestByAll 13 = .ok (.goto 4, 3) := by decide +kernel
theorem dX8_bestByAll_16 : decode cX8_bestByAll 16 = .ok (.iconst 0, 1) := by decide +kernel
theorem dX8_bestByAll_17 : decode cX8_bestByAll 17 = .ok (.ireturn, 1) := by decide +kernel
set_option maxRecDepth 20000 in
theorem ggX8_cost_X8_isAsked : GoodIn wsX8_cost wsX8_isAsked := goodIn_r _ [5, 6, 7, 8, 4, 9, 10, 11, 12, 13, 14, 15, 16, 17, 18, 19, 20, 21, 53, 54, 55, 56, 57, 58, 59, 60, 61, 62, 63, 64, 65, 66, 67, 68, 69, 70, 71, 72, 73, 74, 75, 76, 77, 78, 79, 80, 81, 82, 83, 84, 85, 86, 87] (by decide +kernel) (by decide +kernel)
set_option maxRecDepth 20000 in
theorem gX8_cost_X8_isAsked : GoodIn wsX8_cost (wsV RX8 157 RX8 yX8_isAsked wsX8_isAsked) := goodIn_app (goodIn_of _ (by decide +kernel)) ggX8_cost_X8_isAsked
set_option maxRecDepth 20000 in
theorem ggX8_cost_X8_bestOf : GoodIn wsX8_cost wsX8_bestOf := goodIn_r _ [25, 26, 27, 28, 29, 30, 31, 32, 4, 33, 19, 34, 35, 36, 37, 38, 39, 20, 40, 41, 42, 43, 53, 54, 55, 56, 57, 58, 59, 60, 61, 62, 63, 64, 65, 66, 67, 68, 69, 70, 71, 72, 73, 74, 75, 76, 77, 78, 79, 80, 81, 82, 83, 84, 85, 86, 87] (by decide +kernel) (by decide +kernel)
set_option maxRecDepth 20000 in
theorem gX8_cost_X8_bestOf : GoodIn wsX8_cost (wsV RX8 160 RX8 yX8_bestOf wsX8_bestOf) := goodIn_app (goodIn_of _ (by decide +kernel)) ggX8_cost_X8_bestOf
set_option maxRecDepth 20000 in
theorem ggX8_cost_X8_costOf : GoodIn wsX8_cost wsX8_costOf := goodIn_r _ [47, 19, 48, 49, 50, 51, 4, 52, 30, 31, 32, 33, 34, 35, 36, 37, 38, 39, 20, 40, 41, 42, 43, 53, 54, 55, 56, 57, 58, 59, 60, 61, 62, 63, 64, 65, 66, 67, 68, 69, 70, 71, 72, 73, 74, 75, 76, 77, 78, 79, 80, 81, 82, 83, 84, 85, 86, 87] (by decide +kernel) (by decide +kernel)
set_option maxRecDepth 20000 in
theorem gX8_cost_X8_costOf : GoodIn wsX8_cost (wsV RX8 163 RX8 yX8_costOf wsX8_costOf) := goodIn_app (goodIn_of _ (by decide +kernel)) ggX8_cost_X8_costOf
theorem dX8_cost_0 : decode cX8_cost 0 = .ok (.aload_n 0, 1) := by decide +kernel
theorem dX8_cost_1 : decode cX8_cost 1 = .ok (.iload_n 1, 1) := by decide +kernel
theorem dX8_cost_2 : decode cX8_cost 2 = .ok (.invokevirtual 157, 3) := by decide +kernel
theorem dX8_cost_5 : decode cX8_cost 5 = .ok (.ifCond .eq 16, 3) := by decide +kernel
theorem dX8_cost_8 : decode cX8_cost 8 = .ok (.aload_n 0, 1) := by decide +kernel
theorem dX8_cost_9 : decode cX8_cost 9 = .ok (.aload_n 0, 1) := by decide +kernel
theorem dX8_cost_10 : decode cX8_cost 10 = .ok (.iload_n 1, 1) := by decide +kernel
theorem dX8_cost_11 : decode cX8_cost 11 = .ok (.invokevirtual 160, 3) := by decide +kernel
theorem dX8_cost_14 : decode cX8_cost 14 = .ok (.iload_n 2, 1) := by decide +kernel
theorem dX8_cost_15 : decode cX8_cost 15 = .ok (.invokevirtual 163, 3) := by decide +kernel
theorem dX8_cost_18 : decode cX8_cost 18 = .ok (.goto 4, 3) := by decide +kernel
theorem dX8_cost_21 : decode cX8_cost 21 = .ok (.iconst 0, 1) := by decide +kernel
theorem dX8_cost_22 : decode cX8_cost 22 = .ok (.ireturn, 1) := by decide +kernel
set_option maxRecDepth 20000 in
theorem ggX8_order_X8_isIn : GoodIn wsX8_order wsX8_isIn := goodIn_r _ [14] (by decide +kernel) (by decide +kernel)
set_option maxRecDepth 20000 in
theorem gX8_order_X8_isIn : GoodIn wsX8_order (va_wsS RX8 114 yX8_isIn wsX8_isIn) := goodIn_app (goodIn_of _ (by decide +kernel)) ggX8_order_X8_isIn
set_option maxRecDepth 20000 in
theorem ggX8_order_X8_holds : GoodIn wsX8_order wsX8_holds := goodIn_r _ [18, 19, 20, 21, 22, 23, 24, 25, 26, 27, 28, 29, 30, 31, 32, 33, 34, 35, 36, 37, 38, 39, 40, 41, 42, 43, 44, 45, 46, 47, 48, 49, 50, 51, 52, 53, 54] (by decide +kernel) (by decide +kernel)
set_option maxRecDepth 20000 in
theorem gX8_order_X8_holds : GoodIn wsX8_order (wsV RX8 118 RX8 yX8_holds wsX8_holds) := goodIn_app (goodIn_of _ (by decide +kernel)) ggX8_order_X8_holds
theorem dX8_order_0 : decode cX8_order 0 = .ok (.aload_n 0, 1) := by decide +kernel
theorem dX8_order_1 : decode cX8_order 1 = .ok (.iload_n 1, 1) := by decide +kernel
theorem dX8_order_2 : decode cX8_order 2 = .ok (.iconst 4, 1) := by decide +kernel
theorem dX8_order_3 : decode cX8_order 3 = .ok (.invokestatic 114, 3) := by decide +kernel
theorem dX8_order_6 : decode cX8_order 6 = .ok (.ifCond .ne 7, 3) := by decide +kernel
theorem dX8_order_9 : decode cX8_order 9 = .ok (.iconst 1, 1) := by decide +kernel
theorem dX8_order_10 : decode cX8_order 10 = .ok (.goto 24, 3) := by decide +kernel
theorem dX8_order_13 : decode cX8_order 13 = .ok (.aload_n 0, 1) := by decide +kernel
theorem dX8_order_14 : decode cX8_order 14 = .ok (.getfield 131, 3) := by decide +kernel
theorem dX8_order_17 : decode cX8_order 17 = .ok (.ifCond .eq 12, 3) := by decide +kernel
theorem dX8_order_20 : decode cX8_order 20 = .ok (.aload_n 0, 1) := by decide +kernel
theorem dX8_order_21 : decode cX8_order 21 = .ok (.getfield 167, 3) := by decide +kernel
theorem dX8_order_24 : decode cX8_order 24 = .ok (.bipush 60, 2) := by decide +kernel
theorem dX8_order_26 : decode cX8_order 26 = .ok (.if_icmp .ne 7, 3) := by decide +kernel
theorem dX8_order_29 : decode cX8_order 29 = .ok (.iconst 2, 1) := by decide +kernel
theorem dX8_order_30 : decode cX8_order 30 = .ok (.goto 4, 3) := by decide +kernel
theorem dX8_order_33 : decode cX8_order 33 = .ok (.iconst 0, 1) := by decide +kernel
theorem dX8_order_34 : decode cX8_order 34 = .ok (.invokevirtual 118, 3) := by decide +kernel
theorem dX8_order_37 : decode cX8_order 37 = .ok (.ifCond .ne 5, 3) := by decide +kernel
theorem dX8_order_40 : decode cX8_order 40 = .ok (.iconst 0, 1) := by decide +kernel
theorem dX8_order_41 : decode cX8_order 41 = .ok (.ireturn, 1) := by decide +kernel
theorem dX8_order_42 : decode cX8_order 42 = .ok (.aload_n 0, 1) := by decide +kernel
theorem dX8_order_43 : decode cX8_order 43 = .ok (.getfield 38, 3) := by decide +kernel
theorem dX8_order_46 : decode cX8_order 46 = .ok (.aload_n 0, 1) := by decide +kernel
theorem dX8_order_47 : decode cX8_order 47 = .ok (.getfield 167, 3) := by decide +kernel
theorem dX8_order_50 : decode cX8_order 50 = .ok (.iload_n 1, 1) := by decide +kernel
theorem dX8_order_51 : decode cX8_order 51 = .ok (.iastore, 1) := by decide +kernel
theorem dX8_order_52 : decode cX8_order 52 = .ok (.aload_n 0, 1) := by decide +kernel
theorem dX8_order_53 : decode cX8_order 53 = .ok (.getfield 41, 3) := by decide +kernel
theorem dX8_order_56 : decode cX8_order 56 = .ok (.aload_n 0, 1) := by decide +kernel
theorem dX8_order_57 : decode cX8_order 57 = .ok (.getfield 167, 3) := by decide +kernel
theorem dX8_order_60 : decode cX8_order 60 = .ok (.aload_n 0, 1) := by decide +kernel
theorem dX8_order_61 : decode cX8_order 61 = .ok (.getfield 131, 3) := by decide +kernel
theorem dX8_order_64 : decode cX8_order 64 = .ok (.iastore, 1) := by decide +kernel
theorem dX8_order_65 : decode cX8_order 65 = .ok (.iconst 0, 1) := by decide +kernel
theorem dX8_order_66 : decode cX8_order 66 = .ok (.istore_n 3, 1) := by decide +kernel
theorem dX8_order_67 : decode cX8_order 67 = .ok (.iload_n 3, 1) := by decide +kernel
theorem dX8_order_68 : decode cX8_order 68 = .ok (.aload_n 0, 1) := by decide +kernel
theorem dX8_order_69 : decode cX8_order 69 = .ok (.getfield 131, 3) := by decide +kernel
theorem dX8_order_72 : decode cX8_order 72 = .ok (.if_icmp .ge 29, 3) := by decide +kernel
theorem dX8_order_75 : decode cX8_order 75 = .ok (.aload_n 0, 1) := by decide +kernel
theorem dX8_order_76 : decode cX8_order 76 = .ok (.getfield 44, 3) := by decide +kernel
theorem dX8_order_79 : decode cX8_order 79 = .ok (.bipush 8, 2) := by decide +kernel
theorem dX8_order_81 : decode cX8_order 81 = .ok (.aload_n 0, 1) := by decide +kernel
theorem dX8_order_82 : decode cX8_order 82 = .ok (.getfield 167, 3) := by decide +kernel
theorem dX8_order_85 : decode cX8_order 85 = .ok (.imul, 1) := by decide +kernel
theorem dX8_order_86 : decode cX8_order 86 = .ok (.iload_n 3, 1) := by decide +kernel
theorem dX8_order_87 : decode cX8_order 87 = .ok (.iadd, 1) := by decide +kernel
theorem dX8_order_88 : decode cX8_order 88 = .ok (.aload_n 0, 1) := by decide +kernel
theorem dX8_order_89 : decode cX8_order 89 = .ok (.getfield 7, 3) := by decide +kernel
theorem dX8_order_92 : decode cX8_order 92 = .ok (.iload_n 3, 1) := by decide +kernel
theorem dX8_order_93 : decode cX8_order 93 = .ok (.iaload, 1) := by decide +kernel
theorem dX8_order_94 : decode cX8_order 94 = .ok (.iastore, 1) := by decide +kernel
theorem dX8_order_95 : decode cX8_order 95 = .ok (.iinc 3 1, 3) := by decide +kernel
theorem dX8_order_98 : decode cX8_order 98 = .ok (.goto (-31), 3) := by decide +kernel
theorem dX8_order_101 : decode cX8_order 101 = .ok (.aload_n 0, 1) := by decide +kernel
theorem dX8_order_102 : decode cX8_order 102 = .ok (.getfield 47, 3) := by decide +kernel
theorem dX8_order_105 : decode cX8_order 105 = .ok (.aload_n 0, 1) := by decide +kernel
theorem dX8_order_106 : decode cX8_order 106 = .ok (.getfield 167, 3) := by decide +kernel
theorem dX8_order_109 : decode cX8_order 109 = .ok (.iload_n 2, 1) := by decide +kernel
theorem dX8_order_110 : decode cX8_order 110 = .ok (.bastore, 1) := by decide +kernel
theorem dX8_order_111 : decode cX8_order 111 = .ok (.aload_n 0, 1) := by decide +kernel
theorem dX8_order_112 : decode cX8_order 112 = .ok (.getfield 51, 3) := by decide +kernel
theorem dX8_order_115 : decode cX8_order 115 = .ok (.aload_n 0, 1) := by decide +kernel
theorem dX8_order_116 : decode cX8_order 116 = .ok (.getfield 167, 3) := by decide +kernel
theorem dX8_order_119 : decode cX8_order 119 = .ok (.iconst (-1), 1) := by decide +kernel
theorem dX8_order_120 : decode cX8_order 120 = .ok (.iastore, 1) := by decide +kernel
theorem dX8_order_121 : decode cX8_order 121 = .ok (.aload_n 0, 1) := by decide +kernel
theorem dX8_order_122 : decode cX8_order 122 = .ok (.dup, 1) := by decide +kernel
theorem dX8_order_123 : decode cX8_order 123 = .ok (.getfield 170, 3) := by decide +kernel
theorem dX8_order_126 : decode cX8_order 126 = .ok (.iconst 1, 1) := by decide +kernel
theorem dX8_order_127 : decode cX8_order 127 = .ok (.iadd, 1) := by decide +kernel
theorem dX8_order_128 : decode cX8_order 128 = .ok (.putfield 170, 3) := by decide +kernel
theorem dX8_order_131 : decode cX8_order 131 = .ok (.aload_n 0, 1) := by decide +kernel
theorem dX8_order_132 : decode cX8_order 132 = .ok (.getfield 54, 3) := by decide +kernel
theorem dX8_order_135 : decode cX8_order 135 = .ok (.aload_n 0, 1) := by decide +kernel
theorem dX8_order_136 : decode cX8_order 136 = .ok (.getfield 167, 3) := by decide +kernel
theorem dX8_order_139 : decode cX8_order 139 = .ok (.aload_n 0, 1) := by decide +kernel
theorem dX8_order_140 : decode cX8_order 140 = .ok (.getfield 170, 3) := by decide +kernel
theorem dX8_order_143 : decode cX8_order 143 = .ok (.iastore, 1) := by decide +kernel
theorem dX8_order_144 : decode cX8_order 144 = .ok (.aload_n 0, 1) := by decide +kernel
theorem dX8_order_145 : decode cX8_order 145 = .ok (.dup, 1) := by decide +kernel
theorem dX8_order_146 : decode cX8_order 146 = .ok (.getfield 167, 3) := by decide +kernel
theorem dX8_order_149 : decode cX8_order 149 = .ok (.iconst 1, 1) := by decide +kernel
theorem dX8_order_150 : decode cX8_order 150 = .ok (.iadd, 1) := by decide +kernel
theorem dX8_order_151 : decode cX8_order 151 = .ok (.putfield 167, 3) := by decide +kernel
theorem dX8_order_154 : decode cX8_order 154 = .ok (.aload_n 0, 1) := by decide +kernel
theorem dX8_order_155 : decode cX8_order 155 = .ok (.getfield 167, 3) := by decide +kernel
theorem dX8_order_158 : decode cX8_order 158 = .ok (.iconst 1, 1) := by decide +kernel
theorem dX8_order_159 : decode cX8_order 159 = .ok (.isub, 1) := by decide +kernel
theorem dX8_order_160 : decode cX8_order 160 = .ok (.ireturn, 1) := by decide +kernel
theorem dX8_orderOf_0 : decode cX8_orderOf 0 = .ok (.iconst (-1), 1) := by decide +kernel
theorem dX8_orderOf_1 : decode cX8_orderOf 1 = .ok (.istore_n 2, 1) := by decide +kernel
theorem dX8_orderOf_2 : decode cX8_orderOf 2 = .ok (.iconst 0, 1) := by decide +kernel
theorem dX8_orderOf_3 : decode cX8_orderOf 3 = .ok (.istore_n 3, 1) := by decide +kernel
theorem dX8_orderOf_4 : decode cX8_orderOf 4 = .ok (.iload_n 3, 1) := by decide +kernel
theorem dX8_orderOf_5 : decode cX8_orderOf 5 = .ok (.aload_n 0, 1) := by decide +kernel
theorem dX8_orderOf_6 : decode cX8_orderOf 6 = .ok (.getfield 167, 3) := by decide +kernel
theorem dX8_orderOf_9 : decode cX8_orderOf 9 = .ok (.if_icmp .ge 25, 3) := by decide +kernel
theorem dX8_orderOf_12 : decode cX8_orderOf 12 = .ok (.aload_n 0, 1) := by decide +kernel
theorem dX8_orderOf_13 : decode cX8_orderOf 13 = .ok (.getfield 51, 3) := by decide +kernel
theorem dX8_orderOf_16 : decode cX8_orderOf 16 = .ok (.iload_n 3, 1) := by decide +kernel
theorem dX8_orderOf_17 : decode cX8_orderOf 17 = .ok (.iaload, 1) := by decide +kernel
theorem dX8_orderOf_18 : decode cX8_orderOf 18 = .ok (.iload_n 1, 1) := by decide +kernel
theorem dX8_orderOf_19 : decode cX8_orderOf 19 = .ok (.if_icmp .ne 7, 3) := by decide +kernel
theorem dX8_orderOf_22 : decode cX8_orderOf 22 = .ok (.iload_n 3, 1) := by decide +kernel
theorem dX8_orderOf_23 : decode cX8_orderOf 23 = .ok (.goto 4, 3) := by decide +kernel
theorem dX8_orderOf_26 : decode cX8_orderOf 26 = .ok (.iload_n 2, 1) := by decide +kernel
theorem dX8_orderOf_27 : decode cX8_orderOf 27 = .ok (.istore_n 2, 1) := by decide +kernel
theorem dX8_orderOf_28 : decode cX8_orderOf 28 = .ok (.iinc 3 1, 3) := by decide +kernel
theorem dX8_orderOf_31 : decode cX8_orderOf 31 = .ok (.goto (-27), 3) := by decide +kernel
theorem dX8_orderOf_34 : decode cX8_orderOf 34 = .ok (.iload_n 2, 1) := by decide +kernel
theorem dX8_orderOf_35 : decode cX8_orderOf 35 = .ok (.ireturn, 1) := by decide +kernel
theorem dX8_next_0 : decode cX8_next 0 = .ok (.iconst (-1), 1) := by decide +kernel
theorem dX8_next_1 : decode cX8_next 1 = .ok (.istore_n 1, 1) := by decide +kernel
theorem dX8_next_2 : decode cX8_next 2 = .ok (.iconst 0, 1) := by decide +kernel
theorem dX8_next_3 : decode cX8_next 3 = .ok (.istore_n 2, 1) := by decide +kernel
theorem dX8_next_4 : decode cX8_next 4 = .ok (.iload_n 2, 1) := by decide +kernel
theorem dX8_next_5 : decode cX8_next 5 = .ok (.aload_n 0, 1) := by decide +kernel
theorem dX8_next_6 : decode cX8_next 6 = .ok (.getfield 167, 3) := by decide +kernel
theorem dX8_next_9 : decode cX8_next 9 = .ok (.if_icmp .ge 94, 3) := by decide +kernel
theorem dX8_next_12 : decode cX8_next 12 = .ok (.aload_n 0, 1) := by decide +kernel
theorem dX8_next_13 : decode cX8_next 13 = .ok (.getfield 51, 3) := by decide +kernel
theorem dX8_next_16 : decode cX8_next 16 = .ok (.iload_n 2, 1) := by decide +kernel
theorem dX8_next_17 : decode cX8_next 17 = .ok (.iaload, 1) := by decide +kernel
theorem dX8_next_18 : decode cX8_next 18 = .ok (.iconst (-1), 1) := by decide +kernel
theorem dX8_next_19 : decode cX8_next 19 = .ok (.if_icmp .ne 7, 3) := by decide +kernel
theorem dX8_next_22 : decode cX8_next 22 = .ok (.iconst 1, 1) := by decide +kernel
theorem dX8_next_23 : decode cX8_next 23 = .ok (.goto 4, 3) := by decide +kernel
theorem dX8_next_26 : decode cX8_next 26 = .ok (.iconst 0, 1) := by decide +kernel
theorem dX8_next_27 : decode cX8_next 27 = .ok (.istore_n 3, 1) := by decide +kernel
theorem dX8_next_28 : decode cX8_next 28 = .ok (.iload_n 1, 1) := by decide +kernel
theorem dX8_next_29 : decode cX8_next 29 = .ok (.iconst (-1), 1) := by decide +kernel
theorem dX8_next_30 : decode cX8_next 30 = .ok (.if_icmp .eq 45, 3) := by decide +kernel
theorem dX8_next_33 : decode cX8_next 33 = .ok (.aload_n 0, 1) := by decide +kernel
theorem dX8_next_34 : decode cX8_next 34 = .ok (.getfield 47, 3) := by decide +kernel
theorem dX8_next_37 : decode cX8_next 37 = .ok (.iload_n 2, 1) := by decide +kernel
theorem dX8_next_38 : decode cX8_next 38 = .ok (.baload, 1) := by decide +kernel
theorem dX8_next_39 : decode cX8_next 39 = .ok (.aload_n 0, 1) := by decide +kernel
theorem dX8_next_40 : decode cX8_next 40 = .ok (.getfield 47, 3) := by decide +kernel
theorem dX8_next_43 : decode cX8_next 43 = .ok (.iload_n 1, 1) := by decide +kernel
theorem dX8_next_44 : decode cX8_next 44 = .ok (.baload, 1) := by decide +kernel
theorem dX8_next_45 : decode cX8_next 45 = .ok (.if_icmp .eq 15, 3) := by decide +kernel
theorem dX8_next_48 : decode cX8_next 48 = .ok (.aload_n 0, 1) := by decide +kernel
theorem dX8_next_49 : decode cX8_next 49 = .ok (.getfield 47, 3) := by decide +kernel
theorem dX8_next_52 : decode cX8_next 52 = .ok (.iload_n 2, 1) := by decide +kernel
theorem dX8_next_53 : decode cX8_next 53 = .ok (.baload, 1) := by decide +kernel
theorem dX8_next_54 : decode cX8_next 54 = .ok (.ifCond .eq 25, 3) := by decide +kernel
theorem dX8_next_57 : decode cX8_next 57 = .ok (.goto 18, 3) := by decide +kernel
theorem dX8_next_60 : decode cX8_next 60 = .ok (.aload_n 0, 1) := by decide +kernel
theorem dX8_next_61 : decode cX8_next 61 = .ok (.getfield 54, 3) := by decide +kernel
theorem dX8_next_64 : decode cX8_next 64 = .ok (.iload_n 2, 1) := by decide +kernel
theorem dX8_next_65 : decode cX8_next 65 = .ok (.iaload, 1) := by decide +kernel
theorem dX8_next_66 : decode cX8_next 66 = .ok (.aload_n 0, 1) := by decide +kernel
theorem dX8_next_67 : decode cX8_next 67 = .ok (.getfield 54, 3) := by decide +kernel
theorem dX8_next_70 : decode cX8_next 70 = .ok (.iload_n 1, 1) := by decide +kernel
theorem dX8_next_71 : decode cX8_next 71 = .ok (.iaload, 1) := by decide +kernel
theorem dX8_next_72 : decode cX8_next 72 = .ok (.if_icmp .ge 7, 3) := by decide +kernel
theorem dX8_next_75 : decode cX8_next 75 = .ok (.iconst 1, 1) := by decide +kernel
theorem dX8_next_76 : decode cX8_next 76 = .ok (.goto 4, 3) := by decide +kernel
theorem dX8_next_79 : decode cX8_next 79 = .ok (.iconst 0, 1) := by decide +kernel
theorem dX8_next_80 : decode cX8_next 80 = .ok (.istore 4, 2) := by decide +kernel
theorem dX8_next_82 : decode cX8_next 82 = .ok (.iload_n 3, 1) := by decide +kernel
theorem dX8_next_83 : decode cX8_next 83 = .ok (.ifCond .eq 12, 3) := by decide +kernel
theorem dX8_next_86 : decode cX8_next 86 = .ok (.iload 4, 2) := by decide +kernel
theorem dX8_next_88 : decode cX8_next 88 = .ok (.ifCond .eq 7, 3) := by decide +kernel
theorem dX8_next_91 : decode cX8_next 91 = .ok (.iload_n 2, 1) := by decide +kernel
theorem dX8_next_92 : decode cX8_next 92 = .ok (.goto 4, 3) := by decide +kernel
theorem dX8_next_95 : decode cX8_next 95 = .ok (.iload_n 1, 1) := by decide +kernel
theorem dX8_next_96 : decode cX8_next 96 = .ok (.istore_n 1, 1) := by decide +kernel
theorem dX8_next_97 : decode cX8_next 97 = .ok (.iinc 2 1, 3) := by decide +kernel
theorem dX8_next_100 : decode cX8_next 100 = .ok (.goto (-96), 3) := by decide +kernel
theorem dX8_next_103 : decode cX8_next 103 = .ok (.iload_n 1, 1) := by decide +kernel
theorem dX8_next_104 : decode cX8_next 104 = .ok (.ireturn, 1) := by decide +kernel
set_option maxRecDepth 20000 in
theorem ggX8_pairs_X8_compares : GoodIn wsX8_pairs wsX8_compares := goodIn_r _ [12, 1, 2, 4, 5, 3, 13, 14, 11, 15, 16, 17, 18, 19, 20, 21, 22, 23, 24, 25, 26, 27, 28, 29, 30, 31, 32, 33, 34, 35, 36, 37, 38, 39, 40, 41, 42, 43, 44, 45, 46, 47, 48, 49, 50] (by decide +kernel) (by decide +kernel)
set_option maxRecDepth 20000 in
theorem gX8_pairs_X8_compares : GoodIn wsX8_pairs (wsV RX8 140 RX8 yX8_compares wsX8_compares) := goodIn_app (goodIn_of _ (by decide +kernel)) ggX8_pairs_X8_compares
theorem dX8_pairs_0 : decode cX8_pairs 0 = .ok (.aload_n 0, 1) := by decide +kernel
theorem dX8_pairs_1 : decode cX8_pairs 1 = .ok (.iload_n 2, 1) := by decide +kernel
theorem dX8_pairs_2 : decode cX8_pairs 2 = .ok (.invokevirtual 140, 3) := by decide +kernel
theorem dX8_pairs_5 : decode cX8_pairs 5 = .ok (.aload_n 0, 1) := by decide +kernel
theorem dX8_pairs_6 : decode cX8_pairs 6 = .ok (.getfield 134, 3) := by decide +kernel
theorem dX8_pairs_9 : decode cX8_pairs 9 = .ok (.istore_n 3, 1) := by decide +kernel
theorem dX8_pairs_10 : decode cX8_pairs 10 = .ok (.aload_n 0, 1) := by decide +kernel
theorem dX8_pairs_11 : decode cX8_pairs 11 = .ok (.getfield 26, 3) := by decide +kernel
theorem dX8_pairs_14 : decode cX8_pairs 14 = .ok (.iload_n 2, 1) := by decide +kernel
theorem dX8_pairs_15 : decode cX8_pairs 15 = .ok (.iaload, 1) := by decide +kernel
theorem dX8_pairs_16 : decode cX8_pairs 16 = .ok (.istore 4, 2) := by decide +kernel
theorem dX8_pairs_18 : decode cX8_pairs 18 = .ok (.iload_n 3, 1) := by decide +kernel
theorem dX8_pairs_19 : decode cX8_pairs 19 = .ok (.ifCond .le 158, 3) := by decide +kernel
theorem dX8_pairs_22 : decode cX8_pairs 22 = .ok (.iload 4, 2) := by decide +kernel
theorem dX8_pairs_24 : decode cX8_pairs 24 = .ok (.ifCond .le 153, 3) := by decide +kernel
theorem dX8_pairs_27 : decode cX8_pairs 27 = .ok (.bipush 8, 2) := by decide +kernel
theorem dX8_pairs_29 : decode cX8_pairs 29 = .ok (.iload_n 2, 1) := by decide +kernel
theorem dX8_pairs_30 : decode cX8_pairs 30 = .ok (.imul, 1) := by decide +kernel
theorem dX8_pairs_31 : decode cX8_pairs 31 = .ok (.iload 4, 2) := by decide +kernel
theorem dX8_pairs_33 : decode cX8_pairs 33 = .ok (.iadd, 1) := by decide +kernel
theorem dX8_pairs_34 : decode cX8_pairs 34 = .ok (.iconst 1, 1) := by decide +kernel
theorem dX8_pairs_35 : decode cX8_pairs 35 = .ok (.isub, 1) := by decide +kernel
theorem dX8_pairs_36 : decode cX8_pairs 36 = .ok (.istore 5, 2) := by decide +kernel
theorem dX8_pairs_38 : decode cX8_pairs 38 = .ok (.aload_n 0, 1) := by decide +kernel
theorem dX8_pairs_39 : decode cX8_pairs 39 = .ok (.getfield 87, 3) := by decide +kernel
theorem dX8_pairs_42 : decode cX8_pairs 42 = .ok (.bipush 9, 2) := by decide +kernel
theorem dX8_pairs_44 : decode cX8_pairs 44 = .ok (.iload_n 3, 1) := by decide +kernel
theorem dX8_pairs_45 : decode cX8_pairs 45 = .ok (.iconst 1, 1) := by decide +kernel
theorem dX8_pairs_46 : decode cX8_pairs 46 = .ok (.isub, 1) := by decide +kernel
theorem dX8_pairs_47 : decode cX8_pairs 47 = .ok (.imul, 1) := by decide +kernel
theorem dX8_pairs_48 : decode cX8_pairs 48 = .ok (.iload 4, 2) := by decide +kernel
theorem dX8_pairs_50 : decode cX8_pairs 50 = .ok (.iadd, 1) := by decide +kernel
theorem dX8_pairs_51 : decode cX8_pairs 51 = .ok (.iaload, 1) := by decide +kernel
theorem dX8_pairs_52 : decode cX8_pairs 52 = .ok (.istore 6, 2) := by decide +kernel
theorem dX8_pairs_54 : decode cX8_pairs 54 = .ok (.aload_n 0, 1) := by decide +kernel
theorem dX8_pairs_55 : decode cX8_pairs 55 = .ok (.getfield 87, 3) := by decide +kernel
theorem dX8_pairs_58 : decode cX8_pairs 58 = .ok (.bipush 9, 2) := by decide +kernel
theorem dX8_pairs_60 : decode cX8_pairs 60 = .ok (.iload_n 3, 1) := by decide +kernel
theorem dX8_pairs_61 : decode cX8_pairs 61 = .ok (.imul, 1) := by decide +kernel
theorem dX8_pairs_62 : decode cX8_pairs 62 = .ok (.iload 4, 2) := by decide +kernel
theorem dX8_pairs_64 : decode cX8_pairs 64 = .ok (.iadd, 1) := by decide +kernel
theorem dX8_pairs_65 : decode cX8_pairs 65 = .ok (.iconst 1, 1) := by decide +kernel
theorem dX8_pairs_66 : decode cX8_pairs 66 = .ok (.isub, 1) := by decide +kernel
theorem dX8_pairs_67 : decode cX8_pairs 67 = .ok (.iaload, 1) := by decide +kernel
theorem dX8_pairs_68 : decode cX8_pairs 68 = .ok (.istore 7, 2) := by decide +kernel
theorem dX8_pairs_70 : decode cX8_pairs 70 = .ok (.aload_n 0, 1) := by decide +kernel
theorem dX8_pairs_71 : decode cX8_pairs 71 = .ok (.getfield 87, 3) := by decide +kernel
theorem dX8_pairs_74 : decode cX8_pairs 74 = .ok (.bipush 9, 2) := by decide +kernel
theorem dX8_pairs_76 : decode cX8_pairs 76 = .ok (.iload_n 3, 1) := by decide +kernel
theorem dX8_pairs_77 : decode cX8_pairs 77 = .ok (.iconst 1, 1) := by decide +kernel
theorem dX8_pairs_78 : decode cX8_pairs 78 = .ok (.isub, 1) := by decide +kernel
theorem dX8_pairs_79 : decode cX8_pairs 79 = .ok (.imul, 1) := by decide +kernel
theorem dX8_pairs_80 : decode cX8_pairs 80 = .ok (.iload 4, 2) := by decide +kernel
theorem dX8_pairs_82 : decode cX8_pairs 82 = .ok (.iadd, 1) := by decide +kernel
theorem dX8_pairs_83 : decode cX8_pairs 83 = .ok (.iconst 1, 1) := by decide +kernel
theorem dX8_pairs_84 : decode cX8_pairs 84 = .ok (.isub, 1) := by decide +kernel
theorem dX8_pairs_85 : decode cX8_pairs 85 = .ok (.iaload, 1) := by decide +kernel
theorem dX8_pairs_86 : decode cX8_pairs 86 = .ok (.istore 8, 2) := by decide +kernel
theorem dX8_pairs_88 : decode cX8_pairs 88 = .ok (.aload_n 0, 1) := by decide +kernel
theorem dX8_pairs_89 : decode cX8_pairs 89 = .ok (.getfield 84, 3) := by decide +kernel
theorem dX8_pairs_92 : decode cX8_pairs 92 = .ok (.iload_n 3, 1) := by decide +kernel
theorem dX8_pairs_93 : decode cX8_pairs 93 = .ok (.iconst 1, 1) := by decide +kernel
theorem dX8_pairs_94 : decode cX8_pairs 94 = .ok (.isub, 1) := by decide +kernel
theorem dX8_pairs_95 : decode cX8_pairs 95 = .ok (.iaload, 1) := by decide +kernel
theorem dX8_pairs_96 : decode cX8_pairs 96 = .ok (.aload_n 0, 1) := by decide +kernel
theorem dX8_pairs_97 : decode cX8_pairs 97 = .ok (.getfield 29, 3) := by decide +kernel
theorem dX8_pairs_100 : decode cX8_pairs 100 = .ok (.iload 5, 2) := by decide +kernel
theorem dX8_pairs_102 : decode cX8_pairs 102 = .ok (.iaload, 1) := by decide +kernel
theorem dX8_pairs_103 : decode cX8_pairs 103 = .ok (.if_icmp .ne 32, 3) := by decide +kernel
theorem dX8_pairs_106 : decode cX8_pairs 106 = .ok (.aload_n 0, 1) := by decide +kernel
theorem dX8_pairs_107 : decode cX8_pairs 107 = .ok (.getfield 60, 3) := by decide +kernel
theorem dX8_pairs_110 : decode cX8_pairs 110 = .ok (.bipush 8, 2) := by decide +kernel
theorem dX8_pairs_112 : decode cX8_pairs 112 = .ok (.iload_n 1, 1) := by decide +kernel
theorem dX8_pairs_113 : decode cX8_pairs 113 = .ok (.imul, 1) := by decide +kernel
theorem dX8_pairs_114 : decode cX8_pairs 114 = .ok (.iload_n 3, 1) := by decide +kernel
theorem dX8_pairs_115 : decode cX8_pairs 115 = .ok (.iadd, 1) := by decide +kernel
theorem dX8_pairs_116 : decode cX8_pairs 116 = .ok (.iconst 1, 1) := by decide +kernel
theorem dX8_pairs_117 : decode cX8_pairs 117 = .ok (.isub, 1) := by decide +kernel
theorem dX8_pairs_118 : decode cX8_pairs 118 = .ok (.aload_n 0, 1) := by decide +kernel
theorem dX8_pairs_119 : decode cX8_pairs 119 = .ok (.getfield 32, 3) := by decide +kernel
theorem dX8_pairs_122 : decode cX8_pairs 122 = .ok (.iload 5, 2) := by decide +kernel
theorem dX8_pairs_124 : decode cX8_pairs 124 = .ok (.iaload, 1) := by decide +kernel
theorem dX8_pairs_125 : decode cX8_pairs 125 = .ok (.iastore, 1) := by decide +kernel
theorem dX8_pairs_126 : decode cX8_pairs 126 = .ok (.iinc 3 (-1), 3) := by decide +kernel
theorem dX8_pairs_129 : decode cX8_pairs 129 = .ok (.iinc 4 (-1), 3) := by decide +kernel
theorem dX8_pairs_132 : decode cX8_pairs 132 = .ok (.goto 42, 3) := by decide +kernel
theorem dX8_pairs_135 : decode cX8_pairs 135 = .ok (.iload 6, 2) := by decide +kernel
theorem dX8_pairs_137 : decode cX8_pairs 137 = .ok (.iload 7, 2) := by decide +kernel
theorem dX8_pairs_139 : decode cX8_pairs 139 = .ok (.if_icmp .gt 16, 3) := by decide +kernel
theorem dX8_pairs_142 : decode cX8_pairs 142 = .ok (.iload 6, 2) := by decide +kernel
theorem dX8_pairs_144 : decode cX8_pairs 144 = .ok (.iload 8, 2) := by decide +kernel
theorem dX8_pairs_146 : decode cX8_pairs 146 = .ok (.if_icmp .gt 9, 3) := by decide +kernel
theorem dX8_pairs_149 : decode cX8_pairs 149 = .ok (.iinc 3 (-1), 3) := by decide +kernel
theorem dX8_pairs_152 : decode cX8_pairs 152 = .ok (.goto 22, 3) := by decide +kernel
theorem dX8_pairs_155 : decode cX8_pairs 155 = .ok (.iload 7, 2) := by decide +kernel
theorem dX8_pairs_157 : decode cX8_pairs 157 = .ok (.iload 8, 2) := by decide +kernel
theorem dX8_pairs_159 : decode cX8_pairs 159 = .ok (.if_icmp .gt 9, 3) := by decide +kernel
theorem dX8_pairs_162 : decode cX8_pairs 162 = .ok (.iinc 4 (-1), 3) := by decide +kernel
theorem dX8_pairs_165 : decode cX8_pairs 165 = .ok (.goto 9, 3) := by decide +kernel
theorem dX8_pairs_168 : decode cX8_pairs 168 = .ok (.iinc 3 (-1), 3) := by decide +kernel
theorem dX8_pairs_171 : decode cX8_pairs 171 = .ok (.iinc 4 (-1), 3) := by decide +kernel
theorem dX8_pairs_174 : decode cX8_pairs 174 = .ok (.goto (-156), 3) := by decide +kernel
theorem dX8_pairs_177 : decode cX8_pairs 177 = .ok (.return_, 1) := by decide +kernel
set_option maxRecDepth 20000 in
theorem ggX8_takes_X8_bestOf : GoodIn wsX8_takes wsX8_bestOf := goodIn_r _ [17, 18, 19, 20, 21, 22, 23, 24, 16, 25, 3, 26, 27, 28, 29, 30, 31, 4, 32, 33, 34, 35, 50, 51, 52, 53, 54, 55, 56, 57, 58, 59, 60, 61, 62, 63, 64, 65, 66, 67, 68, 69, 70, 71, 72, 73, 74, 75, 76, 77, 78, 79, 80, 81, 82, 83, 84] (by decide +kernel) (by decide +kernel)
set_option maxRecDepth 20000 in
theorem gX8_takes_X8_bestOf : GoodIn wsX8_takes (wsV RX8 160 RX8 yX8_bestOf wsX8_bestOf) := goodIn_app (goodIn_of _ (by decide +kernel)) ggX8_takes_X8_bestOf
set_option maxRecDepth 20000 in
theorem ggX8_takes_X8_costOf : GoodIn wsX8_takes wsX8_costOf := goodIn_r _ [39, 3, 40, 41, 42, 43, 16, 44, 22, 23, 24, 25, 26, 27, 28, 29, 30, 31, 4, 32, 33, 34, 35, 50, 51, 52, 53, 54, 55, 56, 57, 58, 59, 60, 61, 62, 63, 64, 65, 66, 67, 68, 69, 70, 71, 72, 73, 74, 75, 76, 77, 78, 79, 80, 81, 82, 83, 84] (by decide +kernel) (by decide +kernel)
set_option maxRecDepth 20000 in
theorem gX8_takes_X8_costOf : GoodIn wsX8_takes (wsV RX8 163 RX8 yX8_costOf wsX8_costOf) := goodIn_app (goodIn_of _ (by decide +kernel)) ggX8_takes_X8_costOf
set_option maxRecDepth 20000 in
theorem ggX8_takes_X8_shareOf : GoodIn wsX8_takes wsX8_shareOf := goodIn_r _ [44, 22, 23, 24, 16, 25, 3, 26, 27, 28, 29, 30, 31, 4, 32, 33, 34, 35, 50, 51, 52, 53, 54, 55, 56, 57, 58, 59, 60, 61, 62, 63, 64, 65, 66, 67, 68, 69, 70, 71, 72, 73, 74, 75, 76, 77, 78, 79, 80, 81, 82, 83, 84] (by decide +kernel) (by decide +kernel)
set_option maxRecDepth 20000 in
theorem gX8_takes_X8_shareOf : GoodIn wsX8_takes (wsV RX8 148 RX8 yX8_shareOf wsX8_shareOf) := goodIn_app (goodIn_of _ (by decide +kernel)) ggX8_takes_X8_shareOf
set_option maxRecDepth 20000 in
theorem ggX8_takes_X8_pairs : GoodIn wsX8_takes wsX8_pairs := goodIn_r _ [48, 3, 26, 27, 4, 32, 6, 49, 28, 29, 30, 16, 31, 33, 34, 35, 50, 51, 52, 53, 54, 55, 56, 57, 58, 59, 60, 61, 62, 63, 64, 65, 66, 67, 68, 69, 70, 71, 72, 73, 74, 75, 76, 77, 78, 79, 80, 81, 82, 83, 84] (by decide +kernel) (by decide +kernel)
set_option maxRecDepth 20000 in
theorem gX8_takes_X8_pairs : GoodIn wsX8_takes (wsV RX8 173 RX8 yX8_pairs wsX8_pairs) := goodIn_app (goodIn_of _ (by decide +kernel)) ggX8_takes_X8_pairs
theorem dX8_takes_0 : decode cX8_takes 0 = .ok (.aload_n 0, 1) := by decide +kernel
theorem dX8_takes_1 : decode cX8_takes 1 = .ok (.getfield 51, 3) := by decide +kernel
theorem dX8_takes_4 : decode cX8_takes 4 = .ok (.iload_n 1, 1) := by decide +kernel
theorem dX8_takes_5 : decode cX8_takes 5 = .ok (.iload_n 2, 1) := by decide +kernel
theorem dX8_takes_6 : decode cX8_takes 6 = .ok (.iastore, 1) := by decide +kernel
theorem dX8_takes_7 : decode cX8_takes 7 = .ok (.aload_n 0, 1) := by decide +kernel
theorem dX8_takes_8 : decode cX8_takes 8 = .ok (.aload_n 0, 1) := by decide +kernel
theorem dX8_takes_9 : decode cX8_takes 9 = .ok (.getfield 41, 3) := by decide +kernel
theorem dX8_takes_12 : decode cX8_takes 12 = .ok (.iload_n 1, 1) := by decide +kernel
theorem dX8_takes_13 : decode cX8_takes 13 = .ok (.iaload, 1) := by decide +kernel
theorem dX8_takes_14 : decode cX8_takes 14 = .ok (.putfield 134, 3) := by decide +kernel
theorem dX8_takes_17 : decode cX8_takes 17 = .ok (.iconst 0, 1) := by decide +kernel
theorem dX8_takes_18 : decode cX8_takes 18 = .ok (.istore_n 3, 1) := by decide +kernel
theorem dX8_takes_19 : decode cX8_takes 19 = .ok (.iload_n 3, 1) := by decide +kernel
theorem dX8_takes_20 : decode cX8_takes 20 = .ok (.aload_n 0, 1) := by decide +kernel
theorem dX8_takes_21 : decode cX8_takes 21 = .ok (.getfield 134, 3) := by decide +kernel
theorem dX8_takes_24 : decode cX8_takes 24 = .ok (.if_icmp .ge 38, 3) := by decide +kernel
theorem dX8_takes_27 : decode cX8_takes 27 = .ok (.aload_n 0, 1) := by decide +kernel
theorem dX8_takes_28 : decode cX8_takes 28 = .ok (.getfield 84, 3) := by decide +kernel
theorem dX8_takes_31 : decode cX8_takes 31 = .ok (.iload_n 3, 1) := by decide +kernel
theorem dX8_takes_32 : decode cX8_takes 32 = .ok (.aload_n 0, 1) := by decide +kernel
theorem dX8_takes_33 : decode cX8_takes 33 = .ok (.getfield 44, 3) := by decide +kernel
theorem dX8_takes_36 : decode cX8_takes 36 = .ok (.bipush 8, 2) := by decide +kernel
theorem dX8_takes_38 : decode cX8_takes 38 = .ok (.iload_n 1, 1) := by decide +kernel
theorem dX8_takes_39 : decode cX8_takes 39 = .ok (.imul, 1) := by decide +kernel
theorem dX8_takes_40 : decode cX8_takes 40 = .ok (.iload_n 3, 1) := by decide +kernel
theorem dX8_takes_41 : decode cX8_takes 41 = .ok (.iadd, 1) := by decide +kernel
theorem dX8_takes_42 : decode cX8_takes 42 = .ok (.iaload, 1) := by decide +kernel
theorem dX8_takes_43 : decode cX8_takes 43 = .ok (.iastore, 1) := by decide +kernel
theorem dX8_takes_44 : decode cX8_takes 44 = .ok (.aload_n 0, 1) := by decide +kernel
theorem dX8_takes_45 : decode cX8_takes 45 = .ok (.getfield 60, 3) := by decide +kernel
theorem dX8_takes_48 : decode cX8_takes 48 = .ok (.bipush 8, 2) := by decide +kernel
theorem dX8_takes_50 : decode cX8_takes 50 = .ok (.iload_n 1, 1) := by decide +kernel
theorem dX8_takes_51 : decode cX8_takes 51 = .ok (.imul, 1) := by decide +kernel
theorem dX8_takes_52 : decode cX8_takes 52 = .ok (.iload_n 3, 1) := by decide +kernel
theorem dX8_takes_53 : decode cX8_takes 53 = .ok (.iadd, 1) := by decide +kernel
theorem dX8_takes_54 : decode cX8_takes 54 = .ok (.iconst (-1), 1) := by decide +kernel
theorem dX8_takes_55 : decode cX8_takes 55 = .ok (.iastore, 1) := by decide +kernel
theorem dX8_takes_56 : decode cX8_takes 56 = .ok (.iinc 3 1, 3) := by decide +kernel
theorem dX8_takes_59 : decode cX8_takes 59 = .ok (.goto (-40), 3) := by decide +kernel
theorem dX8_takes_62 : decode cX8_takes 62 = .ok (.aload_n 0, 1) := by decide +kernel
theorem dX8_takes_63 : decode cX8_takes 63 = .ok (.aload_n 0, 1) := by decide +kernel
theorem dX8_takes_64 : decode cX8_takes 64 = .ok (.getfield 38, 3) := by decide +kernel
theorem dX8_takes_67 : decode cX8_takes 67 = .ok (.iload_n 1, 1) := by decide +kernel
theorem dX8_takes_68 : decode cX8_takes 68 = .ok (.iaload, 1) := by decide +kernel
theorem dX8_takes_69 : decode cX8_takes 69 = .ok (.invokevirtual 160, 3) := by decide +kernel
theorem dX8_takes_72 : decode cX8_takes 72 = .ok (.istore_n 3, 1) := by decide +kernel
theorem dX8_takes_73 : decode cX8_takes 73 = .ok (.aload_n 0, 1) := by decide +kernel
theorem dX8_takes_74 : decode cX8_takes 74 = .ok (.getfield 57, 3) := by decide +kernel
theorem dX8_takes_77 : decode cX8_takes 77 = .ok (.iload_n 1, 1) := by decide +kernel
theorem dX8_takes_78 : decode cX8_takes 78 = .ok (.iload_n 3, 1) := by decide +kernel
theorem dX8_takes_79 : decode cX8_takes 79 = .ok (.iastore, 1) := by decide +kernel
theorem dX8_takes_80 : decode cX8_takes 80 = .ok (.aload_n 0, 1) := by decide +kernel
theorem dX8_takes_81 : decode cX8_takes 81 = .ok (.getfield 63, 3) := by decide +kernel
theorem dX8_takes_84 : decode cX8_takes 84 = .ok (.iload_n 1, 1) := by decide +kernel
theorem dX8_takes_85 : decode cX8_takes 85 = .ok (.aload_n 0, 1) := by decide +kernel
theorem dX8_takes_86 : decode cX8_takes 86 = .ok (.iload_n 3, 1) := by decide +kernel
theorem dX8_takes_87 : decode cX8_takes 87 = .ok (.aload_n 0, 1) := by decide +kernel
theorem dX8_takes_88 : decode cX8_takes 88 = .ok (.getfield 47, 3) := by decide +kernel
theorem dX8_takes_91 : decode cX8_takes 91 = .ok (.iload_n 1, 1) := by decide +kernel
theorem dX8_takes_92 : decode cX8_takes 92 = .ok (.baload, 1) := by decide +kernel
theorem dX8_takes_93 : decode cX8_takes 93 = .ok (.invokevirtual 163, 3) := by decide +kernel
theorem dX8_takes_96 : decode cX8_takes 96 = .ok (.iastore, 1) := by decide +kernel
theorem dX8_takes_97 : decode cX8_takes 97 = .ok (.aload_n 0, 1) := by decide +kernel
theorem dX8_takes_98 : decode cX8_takes 98 = .ok (.getfield 66, 3) := by decide +kernel
theorem dX8_takes_101 : decode cX8_takes 101 = .ok (.iload_n 1, 1) := by decide +kernel
theorem dX8_takes_102 : decode cX8_takes 102 = .ok (.aload_n 0, 1) := by decide +kernel
theorem dX8_takes_103 : decode cX8_takes 103 = .ok (.getfield 134, 3) := by decide +kernel
theorem dX8_takes_106 : decode cX8_takes 106 = .ok (.aload_n 0, 1) := by decide +kernel
theorem dX8_takes_107 : decode cX8_takes 107 = .ok (.getfield 20, 3) := by decide +kernel
theorem dX8_takes_110 : decode cX8_takes 110 = .ok (.imul, 1) := by decide +kernel
theorem dX8_takes_111 : decode cX8_takes 111 = .ok (.aload_n 0, 1) := by decide +kernel
theorem dX8_takes_112 : decode cX8_takes 112 = .ok (.iload_n 3, 1) := by decide +kernel
theorem dX8_takes_113 : decode cX8_takes 113 = .ok (.invokevirtual 148, 3) := by decide +kernel
theorem dX8_takes_116 : decode cX8_takes 116 = .ok (.imul, 1) := by decide +kernel
theorem dX8_takes_117 : decode cX8_takes 117 = .ok (.bipush 100, 2) := by decide +kernel
theorem dX8_takes_119 : decode cX8_takes 119 = .ok (.idiv, 1) := by decide +kernel
theorem dX8_takes_120 : decode cX8_takes 120 = .ok (.iastore, 1) := by decide +kernel
theorem dX8_takes_121 : decode cX8_takes 121 = .ok (.iload_n 3, 1) := by decide +kernel
theorem dX8_takes_122 : decode cX8_takes 122 = .ok (.iconst (-1), 1) := by decide +kernel
theorem dX8_takes_123 : decode cX8_takes 123 = .ok (.if_icmp .eq 9, 3) := by decide +kernel
theorem dX8_takes_126 : decode cX8_takes 126 = .ok (.aload_n 0, 1) := by decide +kernel
theorem dX8_takes_127 : decode cX8_takes 127 = .ok (.iload_n 1, 1) := by decide +kernel
theorem dX8_takes_128 : decode cX8_takes 128 = .ok (.iload_n 3, 1) := by decide +kernel
theorem dX8_takes_129 : decode cX8_takes 129 = .ok (.invokevirtual 173, 3) := by decide +kernel
theorem dX8_takes_132 : decode cX8_takes 132 = .ok (.return_, 1) := by decide +kernel
set_option maxRecDepth 20000 in
theorem ggX8_take_X8_isIn : GoodIn wsX8_take wsX8_isIn := goodIn_r _ [4] (by decide +kernel) (by decide +kernel)
set_option maxRecDepth 20000 in
theorem gX8_take_X8_isIn : GoodIn wsX8_take (va_wsS RX8 114 yX8_isIn wsX8_isIn) := goodIn_app (goodIn_of _ (by decide +kernel)) ggX8_take_X8_isIn
set_option maxRecDepth 20000 in
theorem ggX8_take_X8_orderOf : GoodIn wsX8_take wsX8_orderOf := goodIn_r _ [8, 9, 10, 72, 73, 74, 75, 76, 77, 78, 79, 80, 81, 82, 83, 84, 85, 86, 87, 88, 89, 90, 91, 92, 93, 94, 95, 96, 97, 98, 99, 100, 101, 102, 103, 104, 105, 106] (by decide +kernel) (by decide +kernel)
set_option maxRecDepth 20000 in
theorem gX8_take_X8_orderOf : GoodIn wsX8_take (wsV RX8 177 RX8 yX8_orderOf wsX8_orderOf) := goodIn_app (goodIn_of _ (by decide +kernel)) ggX8_take_X8_orderOf
set_option maxRecDepth 20000 in
theorem ggX8_take_X8_holds : GoodIn wsX8_take wsX8_holds := goodIn_r _ [14, 15, 72, 73, 74, 75, 76, 77, 78, 79, 80, 81, 82, 83, 84, 85, 86, 87, 88, 89, 90, 91, 92, 93, 94, 95, 96, 97, 98, 99, 100, 101, 102, 103, 104, 105, 106] (by decide +kernel) (by decide +kernel)
set_option maxRecDepth 20000 in
theorem gX8_take_X8_holds : GoodIn wsX8_take (wsV RX8 118 RX8 yX8_holds wsX8_holds) := goodIn_app (goodIn_of _ (by decide +kernel)) ggX8_take_X8_holds
set_option maxRecDepth 20000 in
theorem ggX8_take_X8_next : GoodIn wsX8_take wsX8_next := goodIn_r _ [19, 9, 10, 20, 21, 72, 73, 74, 75, 76, 77, 78, 79, 80, 81, 82, 83, 84, 85, 86, 87, 88, 89, 90, 91, 92, 93, 94, 95, 96, 97, 98, 99, 100, 101, 102, 103, 104, 105, 106] (by decide +kernel) (by decide +kernel)
set_option maxRecDepth 20000 in
theorem gX8_take_X8_next : GoodIn wsX8_take (wsV RX8 180 RX8 yX8_next wsX8_next) := goodIn_app (goodIn_of _ (by decide +kernel)) ggX8_take_X8_next
set_option maxRecDepth 20000 in
theorem ggX8_take_X8_takes : GoodIn wsX8_take wsX8_takes := goodIn_r _ [25, 10, 26, 27, 28, 29, 30, 31, 32, 33, 20, 34, 35, 36, 37, 38, 3, 39, 40, 41, 42, 43, 44, 45, 46, 47, 48, 49, 50, 51, 52, 53, 54, 55, 56, 57, 58, 59, 60, 61, 62, 63, 64, 65, 66, 67, 68, 69, 70, 71, 72, 73, 74, 75, 76, 77, 78, 79, 80, 81, 82, 83, 84, 85, 86, 87, 88, 89, 90, 91, 92, 93, 94, 95, 96, 97, 98, 99, 100, 101, 102, 103, 104, 105, 106] (by decide +kernel) (by decide +kernel)
set_option maxRecDepth 20000 in
theorem gX8_take_X8_takes : GoodIn wsX8_take (wsV RX8 183 RX8 yX8_takes wsX8_takes) := goodIn_app (goodIn_of _ (by decide +kernel)) ggX8_take_X8_takes
theorem dX8_take_0 : decode cX8_take 0 = .ok (.iload_n 1, 1) := by decide +kernel
theorem dX8_take_1 : decode cX8_take 1 = .ok (.iconst 4, 1) := by decide +kernel
theorem dX8_take_2 : decode cX8_take 2 = .ok (.invokestatic 114, 3) := by decide +kernel
theorem dX8_take_5 : decode cX8_take 5 = .ok (.istore_n 2, 1) := by decide +kernel
theorem dX8_take_6 : decode cX8_take 6 = .ok (.aload_n 0, 1) := by decide +kernel
theorem dX8_take_7 : decode cX8_take 7 = .ok (.iload_n 2, 1) := by decide +kernel
theorem dX8_take_8 : decode cX8_take 8 = .ok (.ifCond .ne 7, 3) := by decide +kernel
theorem dX8_take_11 : decode cX8_take 11 = .ok (.iconst 1, 1) := by decide +kernel
theorem dX8_take_12 : decode cX8_take 12 = .ok (.goto 17, 3) := by decide +kernel
theorem dX8_take_15 : decode cX8_take 15 = .ok (.aload_n 0, 1) := by decide +kernel
theorem dX8_take_16 : decode cX8_take 16 = .ok (.iload_n 1, 1) := by decide +kernel
theorem dX8_take_17 : decode cX8_take 17 = .ok (.invokevirtual 177, 3) := by decide +kernel
theorem dX8_take_20 : decode cX8_take 20 = .ok (.iconst (-1), 1) := by decide +kernel
theorem dX8_take_21 : decode cX8_take 21 = .ok (.if_icmp .eq 7, 3) := by decide +kernel
theorem dX8_take_24 : decode cX8_take 24 = .ok (.iconst 2, 1) := by decide +kernel
theorem dX8_take_25 : decode cX8_take 25 = .ok (.goto 4, 3) := by decide +kernel
theorem dX8_take_28 : decode cX8_take 28 = .ok (.iconst 0, 1) := by decide +kernel
theorem dX8_take_29 : decode cX8_take 29 = .ok (.invokevirtual 118, 3) := by decide +kernel
theorem dX8_take_32 : decode cX8_take 32 = .ok (.ifCond .ne 5, 3) := by decide +kernel
theorem dX8_take_35 : decode cX8_take 35 = .ok (.iconst 0, 1) := by decide +kernel
theorem dX8_take_36 : decode cX8_take 36 = .ok (.ireturn, 1) := by decide +kernel
theorem dX8_take_37 : decode cX8_take 37 = .ok (.aload_n 0, 1) := by decide +kernel
theorem dX8_take_38 : decode cX8_take 38 = .ok (.invokevirtual 180, 3) := by decide +kernel
theorem dX8_take_41 : decode cX8_take 41 = .ok (.istore_n 3, 1) := by decide +kernel
theorem dX8_take_42 : decode cX8_take 42 = .ok (.iload_n 3, 1) := by decide +kernel
theorem dX8_take_43 : decode cX8_take 43 = .ok (.iconst (-1), 1) := by decide +kernel
theorem dX8_take_44 : decode cX8_take 44 = .ok (.if_icmp .eq 9, 3) := by decide +kernel
theorem dX8_take_47 : decode cX8_take 47 = .ok (.aload_n 0, 1) := by decide +kernel
theorem dX8_take_48 : decode cX8_take 48 = .ok (.iload_n 3, 1) := by decide +kernel
theorem dX8_take_49 : decode cX8_take 49 = .ok (.iload_n 1, 1) := by decide +kernel
theorem dX8_take_50 : decode cX8_take 50 = .ok (.invokevirtual 183, 3) := by decide +kernel
theorem dX8_take_53 : decode cX8_take 53 = .ok (.iload_n 3, 1) := by decide +kernel
theorem dX8_take_54 : decode cX8_take 54 = .ok (.ireturn, 1) := by decide +kernel
set_option maxRecDepth 20000 in
theorem ggX8_isAtWork_X8_isIn : GoodIn wsX8_isAtWork wsX8_isIn := goodIn_r _ [4] (by decide +kernel) (by decide +kernel)
set_option maxRecDepth 20000 in
theorem gX8_isAtWork_X8_isIn : GoodIn wsX8_isAtWork (va_wsS RX8 114 yX8_isIn wsX8_isIn) := goodIn_app (goodIn_of _ (by decide +kernel)) ggX8_isAtWork_X8_isIn
set_option maxRecDepth 20000 in
theorem ggX8_isAtWork_X8_orderOf : GoodIn wsX8_isAtWork wsX8_orderOf := goodIn_r _ [8, 9, 10, 16, 17, 18, 19, 20, 21, 22, 23, 24, 25, 26, 27, 28, 29, 30, 31, 32, 33, 34, 35, 36, 37, 38, 39, 40, 41, 42, 43, 44, 45, 46, 47, 48, 49, 50] (by decide +kernel) (by decide +kernel)
set_option maxRecDepth 20000 in
theorem gX8_isAtWork_X8_orderOf : GoodIn wsX8_isAtWork (wsV RX8 177 RX8 yX8_orderOf wsX8_orderOf) := goodIn_app (goodIn_of _ (by decide +kernel)) ggX8_isAtWork_X8_orderOf
set_option maxRecDepth 20000 in
theorem ggX8_isAtWork_X8_holds : GoodIn wsX8_isAtWork wsX8_holds := goodIn_r _ [14, 15, 16, 17, 18, 19, 20, 21, 22, 23, 24, 25, 26, 27, 28, 29, 30, 31, 32, 33, 34, 35, 36, 37, 38, 39, 40, 41, 42, 43, 44, 45, 46, 47, 48, 49, 50] (by decide +kernel) (by decide +kernel)
set_option maxRecDepth 20000 in
theorem gX8_isAtWork_X8_holds : GoodIn wsX8_isAtWork (wsV RX8 118 RX8 yX8_holds wsX8_holds) := goodIn_app (goodIn_of _ (by decide +kernel)) ggX8_isAtWork_X8_holds
theorem dX8_isAtWork_0 : decode cX8_isAtWork 0 = .ok (.iload_n 1, 1) := by decide +kernel
theorem dX8_isAtWork_1 : decode cX8_isAtWork 1 = .ok (.iconst 4, 1) := by decide +kernel
theorem dX8_isAtWork_2 : decode cX8_isAtWork 2 = .ok (.invokestatic 114, 3) := by decide +kernel
theorem dX8_isAtWork_5 : decode cX8_isAtWork 5 = .ok (.istore_n 2, 1) := by decide +kernel
theorem dX8_isAtWork_6 : decode cX8_isAtWork 6 = .ok (.aload_n 0, 1) := by decide +kernel
theorem dX8_isAtWork_7 : decode cX8_isAtWork 7 = .ok (.iload_n 2, 1) := by decide +kernel
theorem dX8_isAtWork_8 : decode cX8_isAtWork 8 = .ok (.ifCond .ne 7, 3) := by decide +kernel
theorem dX8_isAtWork_11 : decode cX8_isAtWork 11 = .ok (.iconst 1, 1) := by decide +kernel
theorem dX8_isAtWork_12 : decode cX8_isAtWork 12 = .ok (.goto 17, 3) := by decide +kernel
theorem dX8_isAtWork_15 : decode cX8_isAtWork 15 = .ok (.aload_n 0, 1) := by decide +kernel
theorem dX8_isAtWork_16 : decode cX8_isAtWork 16 = .ok (.iload_n 1, 1) := by decide +kernel
theorem dX8_isAtWork_17 : decode cX8_isAtWork 17 = .ok (.invokevirtual 177, 3) := by decide +kernel
theorem dX8_isAtWork_20 : decode cX8_isAtWork 20 = .ok (.iconst (-1), 1) := by decide +kernel
theorem dX8_isAtWork_21 : decode cX8_isAtWork 21 = .ok (.if_icmp .ne 7, 3) := by decide +kernel
theorem dX8_isAtWork_24 : decode cX8_isAtWork 24 = .ok (.iconst 2, 1) := by decide +kernel
theorem dX8_isAtWork_25 : decode cX8_isAtWork 25 = .ok (.goto 4, 3) := by decide +kernel
theorem dX8_isAtWork_28 : decode cX8_isAtWork 28 = .ok (.iconst 0, 1) := by decide +kernel
theorem dX8_isAtWork_29 : decode cX8_isAtWork 29 = .ok (.invokevirtual 118, 3) := by decide +kernel
theorem dX8_isAtWork_32 : decode cX8_isAtWork 32 = .ok (.ireturn, 1) := by decide +kernel
set_option maxRecDepth 20000 in
theorem ggX8_giveBack_X8_isAtWork : GoodIn wsX8_giveBack wsX8_isAtWork := goodIn_r _ [8, 9, 10, 7, 11, 12, 13, 14, 15, 16, 1, 17, 18, 19, 20, 21, 22, 23, 24, 25, 26, 27, 28, 29, 30, 31, 32, 33, 34, 35, 36, 37, 38, 39, 40, 41, 42, 43, 44, 45, 46, 47, 48, 49, 50, 51, 52, 53, 54, 55, 56] (by decide +kernel) (by decide +kernel)
set_option maxRecDepth 20000 in
theorem gX8_giveBack_X8_isAtWork : GoodIn wsX8_giveBack (wsV RX8 186 RX8 yX8_isAtWork wsX8_isAtWork) := goodIn_app (goodIn_of _ (by decide +kernel)) ggX8_giveBack_X8_isAtWork
set_option maxRecDepth 20000 in
theorem ggX8_giveBack_X8_orderOf : GoodIn wsX8_giveBack wsX8_orderOf := goodIn_r _ [15, 16, 1, 22, 23, 24, 25, 26, 27, 28, 29, 30, 31, 32, 33, 34, 35, 36, 37, 38, 39, 40, 41, 42, 43, 44, 45, 46, 47, 48, 49, 50, 51, 52, 53, 54, 55, 56] (by decide +kernel) (by decide +kernel)
set_option maxRecDepth 20000 in
theorem gX8_giveBack_X8_orderOf : GoodIn wsX8_giveBack (wsV RX8 177 RX8 yX8_orderOf wsX8_orderOf) := goodIn_app (goodIn_of _ (by decide +kernel)) ggX8_giveBack_X8_orderOf
theorem dX8_giveBack_0 : decode cX8_giveBack 0 = .ok (.aload_n 0, 1) := by decide +kernel
theorem dX8_giveBack_1 : decode cX8_giveBack 1 = .ok (.iload_n 1, 1) := by decide +kernel
theorem dX8_giveBack_2 : decode cX8_giveBack 2 = .ok (.invokevirtual 186, 3) := by decide +kernel
theorem dX8_giveBack_5 : decode cX8_giveBack 5 = .ok (.ifCond .ne 5, 3) := by decide +kernel
theorem dX8_giveBack_8 : decode cX8_giveBack 8 = .ok (.iconst 0, 1) := by decide +kernel
theorem dX8_giveBack_9 : decode cX8_giveBack 9 = .ok (.ireturn, 1) := by decide +kernel
theorem dX8_giveBack_10 : decode cX8_giveBack 10 = .ok (.aload_n 0, 1) := by decide +kernel
theorem dX8_giveBack_11 : decode cX8_giveBack 11 = .ok (.iload_n 1, 1) := by decide +kernel
theorem dX8_giveBack_12 : decode cX8_giveBack 12 = .ok (.invokevirtual 177, 3) := by decide +kernel
theorem dX8_giveBack_15 : decode cX8_giveBack 15 = .ok (.istore_n 2, 1) := by decide +kernel
theorem dX8_giveBack_16 : decode cX8_giveBack 16 = .ok (.aload_n 0, 1) := by decide +kernel
theorem dX8_giveBack_17 : decode cX8_giveBack 17 = .ok (.getfield 51, 3) := by decide +kernel
theorem dX8_giveBack_20 : decode cX8_giveBack 20 = .ok (.iload_n 2, 1) := by decide +kernel
theorem dX8_giveBack_21 : decode cX8_giveBack 21 = .ok (.iconst (-1), 1) := by decide +kernel
theorem dX8_giveBack_22 : decode cX8_giveBack 22 = .ok (.iastore, 1) := by decide +kernel
theorem dX8_giveBack_23 : decode cX8_giveBack 23 = .ok (.aload_n 0, 1) := by decide +kernel
theorem dX8_giveBack_24 : decode cX8_giveBack 24 = .ok (.dup, 1) := by decide +kernel
theorem dX8_giveBack_25 : decode cX8_giveBack 25 = .ok (.getfield 189, 3) := by decide +kernel
theorem dX8_giveBack_28 : decode cX8_giveBack 28 = .ok (.iconst 1, 1) := by decide +kernel
theorem dX8_giveBack_29 : decode cX8_giveBack 29 = .ok (.isub, 1) := by decide +kernel
theorem dX8_giveBack_30 : decode cX8_giveBack 30 = .ok (.putfield 189, 3) := by decide +kernel
theorem dX8_giveBack_33 : decode cX8_giveBack 33 = .ok (.aload_n 0, 1) := by decide +kernel
theorem dX8_giveBack_34 : decode cX8_giveBack 34 = .ok (.getfield 54, 3) := by decide +kernel
theorem dX8_giveBack_37 : decode cX8_giveBack 37 = .ok (.iload_n 2, 1) := by decide +kernel
theorem dX8_giveBack_38 : decode cX8_giveBack 38 = .ok (.aload_n 0, 1) := by decide +kernel
theorem dX8_giveBack_39 : decode cX8_giveBack 39 = .ok (.getfield 189, 3) := by decide +kernel
theorem dX8_giveBack_42 : decode cX8_giveBack 42 = .ok (.iastore, 1) := by decide +kernel
theorem dX8_giveBack_43 : decode cX8_giveBack 43 = .ok (.iload_n 2, 1) := by decide +kernel
theorem dX8_giveBack_44 : decode cX8_giveBack 44 = .ok (.ireturn, 1) := by decide +kernel
theorem dX8_open_0 : decode cX8_open 0 = .ok (.iconst 0, 1) := by decide +kernel
theorem dX8_open_1 : decode cX8_open 1 = .ok (.istore_n 2, 1) := by decide +kernel
theorem dX8_open_2 : decode cX8_open 2 = .ok (.bipush 8, 2) := by decide +kernel
theorem dX8_open_4 : decode cX8_open 4 = .ok (.iload_n 1, 1) := by decide +kernel
theorem dX8_open_5 : decode cX8_open 5 = .ok (.imul, 1) := by decide +kernel
theorem dX8_open_6 : decode cX8_open 6 = .ok (.istore_n 3, 1) := by decide +kernel
theorem dX8_open_7 : decode cX8_open 7 = .ok (.iload_n 3, 1) := by decide +kernel
theorem dX8_open_8 : decode cX8_open 8 = .ok (.bipush 8, 2) := by decide +kernel
theorem dX8_open_10 : decode cX8_open 10 = .ok (.iload_n 1, 1) := by decide +kernel
theorem dX8_open_11 : decode cX8_open 11 = .ok (.imul, 1) := by decide +kernel
theorem dX8_open_12 : decode cX8_open 12 = .ok (.aload_n 0, 1) := by decide +kernel
theorem dX8_open_13 : decode cX8_open 13 = .ok (.getfield 41, 3) := by decide +kernel
theorem dX8_open_16 : decode cX8_open 16 = .ok (.iload_n 1, 1) := by decide +kernel
theorem dX8_open_17 : decode cX8_open 17 = .ok (.iaload, 1) := by decide +kernel
theorem dX8_open_18 : decode cX8_open 18 = .ok (.iadd, 1) := by decide +kernel
theorem dX8_open_19 : decode cX8_open 19 = .ok (.if_icmp .ge 27, 3) := by decide +kernel
theorem dX8_open_22 : decode cX8_open 22 = .ok (.iload_n 2, 1) := by decide +kernel
theorem dX8_open_23 : decode cX8_open 23 = .ok (.aload_n 0, 1) := by decide +kernel
theorem dX8_open_24 : decode cX8_open 24 = .ok (.getfield 60, 3) := by decide +kernel
theorem dX8_open_27 : decode cX8_open 27 = .ok (.iload_n 3, 1) := by decide +kernel
theorem dX8_open_28 : decode cX8_open 28 = .ok (.iaload, 1) := by decide +kernel
theorem dX8_open_29 : decode cX8_open 29 = .ok (.iconst (-1), 1) := by decide +kernel
theorem dX8_open_30 : decode cX8_open 30 = .ok (.if_icmp .ne 7, 3) := by decide +kernel
theorem dX8_open_33 : decode cX8_open 33 = .ok (.iconst 1, 1) := by decide +kernel
theorem dX8_open_34 : decode cX8_open 34 = .ok (.goto 4, 3) := by decide +kernel
theorem dX8_open_37 : decode cX8_open 37 = .ok (.iconst 0, 1) := by decide +kernel
theorem dX8_open_38 : decode cX8_open 38 = .ok (.iadd, 1) := by decide +kernel
theorem dX8_open_39 : decode cX8_open 39 = .ok (.istore_n 2, 1) := by decide +kernel
theorem dX8_open_40 : decode cX8_open 40 = .ok (.iinc 3 1, 3) := by decide +kernel
theorem dX8_open_43 : decode cX8_open 43 = .ok (.goto (-36), 3) := by decide +kernel
theorem dX8_open_46 : decode cX8_open 46 = .ok (.iload_n 2, 1) := by decide +kernel
theorem dX8_open_47 : decode cX8_open 47 = .ok (.ireturn, 1) := by decide +kernel
set_option maxRecDepth 20000 in
theorem ggX8_translate_X8_isIn : GoodIn wsX8_translate wsX8_isIn := goodIn_r _ [6] (by decide +kernel) (by decide +kernel)
set_option maxRecDepth 20000 in
theorem gX8_translate_X8_isIn : GoodIn wsX8_translate (va_wsS RX8 114 yX8_isIn wsX8_isIn) := goodIn_app (goodIn_of _ (by decide +kernel)) ggX8_translate_X8_isIn
set_option maxRecDepth 20000 in
theorem ggX8_translate_X8_orderOf : GoodIn wsX8_translate wsX8_orderOf := goodIn_r _ [10, 11, 12, 22, 23, 24, 25, 26, 27, 28, 29, 30, 31, 32, 33, 34, 35, 36, 37, 38, 39, 40, 41, 42, 43, 44, 45, 46, 47, 48, 49, 50, 51, 52, 53, 54, 55, 56] (by decide +kernel) (by decide +kernel)
set_option maxRecDepth 20000 in
theorem gX8_translate_X8_orderOf : GoodIn wsX8_translate (wsV RX8 177 RX8 yX8_orderOf wsX8_orderOf) := goodIn_app (goodIn_of _ (by decide +kernel)) ggX8_translate_X8_orderOf
set_option maxRecDepth 20000 in
theorem ggX8_translate_X8_holds : GoodIn wsX8_translate wsX8_holds := goodIn_r _ [16, 17, 22, 23, 24, 25, 26, 27, 28, 29, 30, 31, 32, 33, 34, 35, 36, 37, 38, 39, 40, 41, 42, 43, 44, 45, 46, 47, 48, 49, 50, 51, 52, 53, 54, 55, 56] (by decide +kernel) (by decide +kernel)
set_option maxRecDepth 20000 in
theorem gX8_translate_X8_holds : GoodIn wsX8_translate (wsV RX8 118 RX8 yX8_holds wsX8_holds) := goodIn_app (goodIn_of _ (by decide +kernel)) ggX8_translate_X8_holds
set_option maxRecDepth 20000 in
theorem ggX8_translate_X8_open : GoodIn wsX8_translate wsX8_open := goodIn_r _ [21, 1, 2, 22, 23, 24, 25, 26, 27, 28, 29, 30, 31, 32, 33, 34, 35, 36, 37, 38, 39, 40, 41, 42, 43, 44, 45, 46, 47, 48, 49, 50, 51, 52, 53, 54, 55, 56] (by decide +kernel) (by decide +kernel)
set_option maxRecDepth 20000 in
theorem gX8_translate_X8_open : GoodIn wsX8_translate (wsV RX8 192 RX8 yX8_open wsX8_open) := goodIn_app (goodIn_of _ (by decide +kernel)) ggX8_translate_X8_open
theorem dX8_translate_0 : decode cX8_translate 0 = .ok (.iload_n 1, 1) := by decide +kernel
theorem dX8_translate_1 : decode cX8_translate 1 = .ok (.iconst 4, 1) := by decide +kernel
theorem dX8_translate_2 : decode cX8_translate 2 = .ok (.invokestatic 114, 3) := by decide +kernel
theorem dX8_translate_5 : decode cX8_translate 5 = .ok (.ifCond .eq 16, 3) := by decide +kernel
theorem dX8_translate_8 : decode cX8_translate 8 = .ok (.iload_n 3, 1) := by decide +kernel
theorem dX8_translate_9 : decode cX8_translate 9 = .ok (.bipush 100, 2) := by decide +kernel
theorem dX8_translate_11 : decode cX8_translate 11 = .ok (.invokestatic 114, 3) := by decide +kernel
theorem dX8_translate_14 : decode cX8_translate 14 = .ok (.ifCond .eq 7, 3) := by decide +kernel
theorem dX8_translate_17 : decode cX8_translate 17 = .ok (.iconst 1, 1) := by decide +kernel
theorem dX8_translate_18 : decode cX8_translate 18 = .ok (.goto 4, 3) := by decide +kernel
theorem dX8_translate_21 : decode cX8_translate 21 = .ok (.iconst 0, 1) := by decide +kernel
theorem dX8_translate_22 : decode cX8_translate 22 = .ok (.istore 4, 2) := by decide +kernel
theorem dX8_translate_24 : decode cX8_translate 24 = .ok (.iload 4, 2) := by decide +kernel
theorem dX8_translate_26 : decode cX8_translate 26 = .ok (.ifCond .eq 11, 3) := by decide +kernel
theorem dX8_translate_29 : decode cX8_translate 29 = .ok (.aload_n 0, 1) := by decide +kernel
theorem dX8_translate_30 : decode cX8_translate 30 = .ok (.iload_n 1, 1) := by decide +kernel
theorem dX8_translate_31 : decode cX8_translate 31 = .ok (.invokevirtual 177, 3) := by decide +kernel
theorem dX8_translate_34 : decode cX8_translate 34 = .ok (.goto 4, 3) := by decide +kernel
theorem dX8_translate_37 : decode cX8_translate 37 = .ok (.iconst (-1), 1) := by decide +kernel
theorem dX8_translate_38 : decode cX8_translate 38 = .ok (.istore 5, 2) := by decide +kernel
theorem dX8_translate_40 : decode cX8_translate 40 = .ok (.aload_n 0, 1) := by decide +kernel
theorem dX8_translate_41 : decode cX8_translate 41 = .ok (.iload 4, 2) := by decide +kernel
theorem dX8_translate_43 : decode cX8_translate 43 = .ok (.ifCond .ne 7, 3) := by decide +kernel
theorem dX8_translate_46 : decode cX8_translate 46 = .ok (.iconst 1, 1) := by decide +kernel
theorem dX8_translate_47 : decode cX8_translate 47 = .ok (.goto 32, 3) := by decide +kernel
theorem dX8_translate_50 : decode cX8_translate 50 = .ok (.iload 5, 2) := by decide +kernel
theorem dX8_translate_52 : decode cX8_translate 52 = .ok (.iconst (-1), 1) := by decide +kernel
theorem dX8_translate_53 : decode cX8_translate 53 = .ok (.if_icmp .ne 7, 3) := by decide +kernel
theorem dX8_translate_56 : decode cX8_translate 56 = .ok (.iconst 2, 1) := by decide +kernel
theorem dX8_translate_57 : decode cX8_translate 57 = .ok (.goto 22, 3) := by decide +kernel
theorem dX8_translate_60 : decode cX8_translate 60 = .ok (.iload_n 2, 1) := by decide +kernel
theorem dX8_translate_61 : decode cX8_translate 61 = .ok (.aload_n 0, 1) := by decide +kernel
theorem dX8_translate_62 : decode cX8_translate 62 = .ok (.getfield 41, 3) := by decide +kernel
theorem dX8_translate_65 : decode cX8_translate 65 = .ok (.iload 5, 2) := by decide +kernel
theorem dX8_translate_67 : decode cX8_translate 67 = .ok (.iaload, 1) := by decide +kernel
theorem dX8_translate_68 : decode cX8_translate 68 = .ok (.invokestatic 114, 3) := by decide +kernel
theorem dX8_translate_71 : decode cX8_translate 71 = .ok (.ifCond .eq 7, 3) := by decide +kernel
theorem dX8_translate_74 : decode cX8_translate 74 = .ok (.iconst 0, 1) := by decide +kernel
theorem dX8_translate_75 : decode cX8_translate 75 = .ok (.goto 4, 3) := by decide +kernel
theorem dX8_translate_78 : decode cX8_translate 78 = .ok (.iconst 3, 1) := by decide +kernel
theorem dX8_translate_79 : decode cX8_translate 79 = .ok (.invokevirtual 118, 3) := by decide +kernel
theorem dX8_translate_82 : decode cX8_translate 82 = .ok (.ifCond .ne 5, 3) := by decide +kernel
theorem dX8_translate_85 : decode cX8_translate 85 = .ok (.iconst 0, 1) := by decide +kernel
theorem dX8_translate_86 : decode cX8_translate 86 = .ok (.ireturn, 1) := by decide +kernel
theorem dX8_translate_87 : decode cX8_translate 87 = .ok (.aload_n 0, 1) := by decide +kernel
theorem dX8_translate_88 : decode cX8_translate 88 = .ok (.getfield 60, 3) := by decide +kernel
theorem dX8_translate_91 : decode cX8_translate 91 = .ok (.bipush 8, 2) := by decide +kernel
theorem dX8_translate_93 : decode cX8_translate 93 = .ok (.iload 5, 2) := by decide +kernel
theorem dX8_translate_95 : decode cX8_translate 95 = .ok (.imul, 1) := by decide +kernel
theorem dX8_translate_96 : decode cX8_translate 96 = .ok (.iload_n 2, 1) := by decide +kernel
theorem dX8_translate_97 : decode cX8_translate 97 = .ok (.iadd, 1) := by decide +kernel
theorem dX8_translate_98 : decode cX8_translate 98 = .ok (.iload_n 3, 1) := by decide +kernel
theorem dX8_translate_99 : decode cX8_translate 99 = .ok (.iastore, 1) := by decide +kernel
theorem dX8_translate_100 : decode cX8_translate 100 = .ok (.aload_n 0, 1) := by decide +kernel
theorem dX8_translate_101 : decode cX8_translate 101 = .ok (.iload 5, 2) := by decide +kernel
theorem dX8_translate_103 : decode cX8_translate 103 = .ok (.invokevirtual 192, 3) := by decide +kernel
theorem dX8_translate_106 : decode cX8_translate 106 = .ok (.ireturn, 1) := by decide +kernel
set_option maxRecDepth 20000 in
theorem ggX8_hindered_X8_open : GoodIn wsX8_hindered wsX8_open := goodIn_r _ [10, 1, 2, 23, 24, 25, 26, 27, 28, 29, 30, 31, 32, 33, 34, 35, 36, 37, 38, 39, 40, 41, 42, 43, 44, 45, 46, 47, 48, 49, 50, 51, 52, 53, 54, 55, 56, 57] (by decide +kernel) (by decide +kernel)
set_option maxRecDepth 20000 in
theorem gX8_hindered_X8_open : GoodIn wsX8_hindered (wsV RX8 192 RX8 yX8_open wsX8_open) := goodIn_app (goodIn_of _ (by decide +kernel)) ggX8_hindered_X8_open
set_option maxRecDepth 20000 in
theorem ggX8_hindered_X8_isAgainst : GoodIn wsX8_hindered wsX8_isAgainst := goodIn_r _ [14, 15, 16, 17, 9, 18, 19, 20, 21, 22, 23, 24, 25, 26, 27, 28, 29, 30, 31, 32, 33, 34, 35, 36, 37, 38, 39, 40, 41, 42, 43, 44, 45, 46, 47, 48, 49, 50, 51, 52, 53, 54, 55, 56, 57] (by decide +kernel) (by decide +kernel)
set_option maxRecDepth 20000 in
theorem gX8_hindered_X8_isAgainst : GoodIn wsX8_hindered (wsV RX8 100 RX8 yX8_isAgainst wsX8_isAgainst) := goodIn_app (goodIn_of _ (by decide +kernel)) ggX8_hindered_X8_isAgainst
theorem dX8_hindered_0 : decode cX8_hindered 0 = .ok (.aload_n 0, 1) := by decide +kernel
theorem dX8_hindered_1 : decode cX8_hindered 1 = .ok (.iload_n 1, 1) := by decide +kernel
theorem dX8_hindered_2 : decode cX8_hindered 2 = .ok (.invokevirtual 192, 3) := by decide +kernel
theorem dX8_hindered_5 : decode cX8_hindered 5 = .ok (.ifCond .le 7, 3) := by decide +kernel
theorem dX8_hindered_8 : decode cX8_hindered 8 = .ok (.iconst 1, 1) := by decide +kernel
theorem dX8_hindered_9 : decode cX8_hindered 9 = .ok (.goto 4, 3) := by decide +kernel
theorem dX8_hindered_12 : decode cX8_hindered 12 = .ok (.iconst 0, 1) := by decide +kernel
theorem dX8_hindered_13 : decode cX8_hindered 13 = .ok (.istore_n 2, 1) := by decide +kernel
theorem dX8_hindered_14 : decode cX8_hindered 14 = .ok (.iconst (-1), 1) := by decide +kernel
theorem dX8_hindered_15 : decode cX8_hindered 15 = .ok (.istore_n 3, 1) := by decide +kernel
theorem dX8_hindered_16 : decode cX8_hindered 16 = .ok (.aload_n 0, 1) := by decide +kernel
theorem dX8_hindered_17 : decode cX8_hindered 17 = .ok (.getfield 41, 3) := by decide +kernel
theorem dX8_hindered_20 : decode cX8_hindered 20 = .ok (.iload_n 1, 1) := by decide +kernel
theorem dX8_hindered_21 : decode cX8_hindered 21 = .ok (.iaload, 1) := by decide +kernel
theorem dX8_hindered_22 : decode cX8_hindered 22 = .ok (.iconst 1, 1) := by decide +kernel
theorem dX8_hindered_23 : decode cX8_hindered 23 = .ok (.isub, 1) := by decide +kernel
theorem dX8_hindered_24 : decode cX8_hindered 24 = .ok (.istore 4, 2) := by decide +kernel
theorem dX8_hindered_26 : decode cX8_hindered 26 = .ok (.iload 4, 2) := by decide +kernel
theorem dX8_hindered_28 : decode cX8_hindered 28 = .ok (.ifCond .lt 91, 3) := by decide +kernel
theorem dX8_hindered_31 : decode cX8_hindered 31 = .ok (.aload_n 0, 1) := by decide +kernel
theorem dX8_hindered_32 : decode cX8_hindered 32 = .ok (.getfield 60, 3) := by decide +kernel
theorem dX8_hindered_35 : decode cX8_hindered 35 = .ok (.bipush 8, 2) := by decide +kernel
theorem dX8_hindered_37 : decode cX8_hindered 37 = .ok (.iload_n 1, 1) := by decide +kernel
theorem dX8_hindered_38 : decode cX8_hindered 38 = .ok (.imul, 1) := by decide +kernel
theorem dX8_hindered_39 : decode cX8_hindered 39 = .ok (.iload 4, 2) := by decide +kernel
theorem dX8_hindered_41 : decode cX8_hindered 41 = .ok (.iadd, 1) := by decide +kernel
theorem dX8_hindered_42 : decode cX8_hindered 42 = .ok (.iaload, 1) := by decide +kernel
theorem dX8_hindered_43 : decode cX8_hindered 43 = .ok (.istore 5, 2) := by decide +kernel
theorem dX8_hindered_45 : decode cX8_hindered 45 = .ok (.aload_n 0, 1) := by decide +kernel
theorem dX8_hindered_46 : decode cX8_hindered 46 = .ok (.getfield 47, 3) := by decide +kernel
theorem dX8_hindered_49 : decode cX8_hindered 49 = .ok (.iload_n 1, 1) := by decide +kernel
theorem dX8_hindered_50 : decode cX8_hindered 50 = .ok (.baload, 1) := by decide +kernel
theorem dX8_hindered_51 : decode cX8_hindered 51 = .ok (.ifCond .ne 34, 3) := by decide +kernel
theorem dX8_hindered_54 : decode cX8_hindered 54 = .ok (.aload_n 0, 1) := by decide +kernel
theorem dX8_hindered_55 : decode cX8_hindered 55 = .ok (.aload_n 0, 1) := by decide +kernel
theorem dX8_hindered_56 : decode cX8_hindered 56 = .ok (.getfield 38, 3) := by decide +kernel
theorem dX8_hindered_59 : decode cX8_hindered 59 = .ok (.iload_n 1, 1) := by decide +kernel
theorem dX8_hindered_60 : decode cX8_hindered 60 = .ok (.iaload, 1) := by decide +kernel
theorem dX8_hindered_61 : decode cX8_hindered 61 = .ok (.aload_n 0, 1) := by decide +kernel
theorem dX8_hindered_62 : decode cX8_hindered 62 = .ok (.getfield 44, 3) := by decide +kernel
theorem dX8_hindered_65 : decode cX8_hindered 65 = .ok (.bipush 8, 2) := by decide +kernel
theorem dX8_hindered_67 : decode cX8_hindered 67 = .ok (.iload_n 1, 1) := by decide +kernel
theorem dX8_hindered_68 : decode cX8_hindered 68 = .ok (.imul, 1) := by decide +kernel
theorem dX8_hindered_69 : decode cX8_hindered 69 = .ok (.iload 4, 2) := by decide +kernel
theorem dX8_hindered_71 : decode cX8_hindered 71 = .ok (.iadd, 1) := by decide +kernel
theorem dX8_hindered_72 : decode cX8_hindered 72 = .ok (.iaload, 1) := by decide +kernel
theorem dX8_hindered_73 : decode cX8_hindered 73 = .ok (.iload 5, 2) := by decide +kernel
theorem dX8_hindered_75 : decode cX8_hindered 75 = .ok (.invokevirtual 100, 3) := by decide +kernel
theorem dX8_hindered_78 : decode cX8_hindered 78 = .ok (.ifCond .eq 7, 3) := by decide +kernel
theorem dX8_hindered_81 : decode cX8_hindered 81 = .ok (.iconst 1, 1) := by decide +kernel
theorem dX8_hindered_82 : decode cX8_hindered 82 = .ok (.goto 4, 3) := by decide +kernel
theorem dX8_hindered_85 : decode cX8_hindered 85 = .ok (.iconst 0, 1) := by decide +kernel
theorem dX8_hindered_86 : decode cX8_hindered 86 = .ok (.istore 6, 2) := by decide +kernel
theorem dX8_hindered_88 : decode cX8_hindered 88 = .ok (.iload_n 2, 1) := by decide +kernel
theorem dX8_hindered_89 : decode cX8_hindered 89 = .ok (.ifCond .eq 12, 3) := by decide +kernel
theorem dX8_hindered_92 : decode cX8_hindered 92 = .ok (.iload 5, 2) := by decide +kernel
theorem dX8_hindered_94 : decode cX8_hindered 94 = .ok (.iconst (-1), 1) := by decide +kernel
theorem dX8_hindered_95 : decode cX8_hindered 95 = .ok (.if_icmp .ne 16, 3) := by decide +kernel
theorem dX8_hindered_98 : decode cX8_hindered 98 = .ok (.goto 8, 3) := by decide +kernel
theorem dX8_hindered_101 : decode cX8_hindered 101 = .ok (.iload 6, 2) := by decide +kernel
theorem dX8_hindered_103 : decode cX8_hindered 103 = .ok (.ifCond .eq 8, 3) := by decide +kernel
theorem dX8_hindered_106 : decode cX8_hindered 106 = .ok (.iload 4, 2) := by decide +kernel
theorem dX8_hindered_108 : decode cX8_hindered 108 = .ok (.goto 4, 3) := by decide +kernel
theorem dX8_hindered_111 : decode cX8_hindered 111 = .ok (.iload_n 3, 1) := by decide +kernel
theorem dX8_hindered_112 : decode cX8_hindered 112 = .ok (.istore_n 3, 1) := by decide +kernel
theorem dX8_hindered_113 : decode cX8_hindered 113 = .ok (.iinc 4 (-1), 3) := by decide +kernel
theorem dX8_hindered_116 : decode cX8_hindered 116 = .ok (.goto (-90), 3) := by decide +kernel
theorem dX8_hindered_119 : decode cX8_hindered 119 = .ok (.iload_n 3, 1) := by decide +kernel
theorem dX8_hindered_120 : decode cX8_hindered 120 = .ok (.ireturn, 1) := by decide +kernel
set_option maxRecDepth 20000 in
theorem ggX8_sells_X8_lists : GoodIn wsX8_sells wsX8_lists := goodIn_r _ [17, 3, 18, 19, 20, 21, 22, 16, 23, 5, 2, 7, 9, 24, 25, 26, 27, 28, 29, 30, 31, 32, 33, 34, 35, 36, 37, 38, 39, 40, 41, 42, 43, 44, 45, 46, 47, 48, 49, 50, 51, 52, 53, 54, 55, 56, 57, 58, 59, 60, 61, 62, 63, 64, 65, 66, 67, 68, 69, 70] (by decide +kernel) (by decide +kernel)
set_option maxRecDepth 20000 in
theorem gX8_sells_X8_lists : GoodIn wsX8_sells (wsV RX8 124 RX8 yX8_lists wsX8_lists) := goodIn_app (goodIn_of _ (by decide +kernel)) ggX8_sells_X8_lists
theorem dX8_sells_0 : decode cX8_sells 0 = .ok (.aload_n 0, 1) := by decide +kernel
theorem dX8_sells_1 : decode cX8_sells 1 = .ok (.dup, 1) := by decide +kernel
theorem dX8_sells_2 : decode cX8_sells 2 = .ok (.getfield 121, 3) := by decide +kernel
theorem dX8_sells_5 : decode cX8_sells 5 = .ok (.iconst 1, 1) := by decide +kernel
theorem dX8_sells_6 : decode cX8_sells 6 = .ok (.iadd, 1) := by decide +kernel
theorem dX8_sells_7 : decode cX8_sells 7 = .ok (.putfield 121, 3) := by decide +kernel
theorem dX8_sells_10 : decode cX8_sells 10 = .ok (.aload_n 0, 1) := by decide +kernel
theorem dX8_sells_11 : decode cX8_sells 11 = .ok (.getfield 23, 3) := by decide +kernel
theorem dX8_sells_14 : decode cX8_sells 14 = .ok (.aload_n 0, 1) := by decide +kernel
theorem dX8_sells_15 : decode cX8_sells 15 = .ok (.getfield 104, 3) := by decide +kernel
theorem dX8_sells_18 : decode cX8_sells 18 = .ok (.aload_n 0, 1) := by decide +kernel
theorem dX8_sells_19 : decode cX8_sells 19 = .ok (.getfield 38, 3) := by decide +kernel
theorem dX8_sells_22 : decode cX8_sells 22 = .ok (.iload_n 1, 1) := by decide +kernel
theorem dX8_sells_23 : decode cX8_sells 23 = .ok (.iaload, 1) := by decide +kernel
theorem dX8_sells_24 : decode cX8_sells 24 = .ok (.iastore, 1) := by decide +kernel
theorem dX8_sells_25 : decode cX8_sells 25 = .ok (.aload_n 0, 1) := by decide +kernel
theorem dX8_sells_26 : decode cX8_sells 26 = .ok (.getfield 26, 3) := by decide +kernel
theorem dX8_sells_29 : decode cX8_sells 29 = .ok (.aload_n 0, 1) := by decide +kernel
theorem dX8_sells_30 : decode cX8_sells 30 = .ok (.getfield 104, 3) := by decide +kernel
theorem dX8_sells_33 : decode cX8_sells 33 = .ok (.aload_n 0, 1) := by decide +kernel
theorem dX8_sells_34 : decode cX8_sells 34 = .ok (.getfield 41, 3) := by decide +kernel
theorem dX8_sells_37 : decode cX8_sells 37 = .ok (.iload_n 1, 1) := by decide +kernel
theorem dX8_sells_38 : decode cX8_sells 38 = .ok (.iaload, 1) := by decide +kernel
theorem dX8_sells_39 : decode cX8_sells 39 = .ok (.iastore, 1) := by decide +kernel
theorem dX8_sells_40 : decode cX8_sells 40 = .ok (.iconst 0, 1) := by decide +kernel
theorem dX8_sells_41 : decode cX8_sells 41 = .ok (.istore_n 2, 1) := by decide +kernel
theorem dX8_sells_42 : decode cX8_sells 42 = .ok (.iload_n 2, 1) := by decide +kernel
theorem dX8_sells_43 : decode cX8_sells 43 = .ok (.aload_n 0, 1) := by decide +kernel
theorem dX8_sells_44 : decode cX8_sells 44 = .ok (.getfield 41, 3) := by decide +kernel
theorem dX8_sells_47 : decode cX8_sells 47 = .ok (.iload_n 1, 1) := by decide +kernel
theorem dX8_sells_48 : decode cX8_sells 48 = .ok (.iaload, 1) := by decide +kernel
theorem dX8_sells_49 : decode cX8_sells 49 = .ok (.if_icmp .ge 59, 3) := by decide +kernel
theorem dX8_sells_52 : decode cX8_sells 52 = .ok (.aload_n 0, 1) := by decide +kernel
theorem dX8_sells_53 : decode cX8_sells 53 = .ok (.getfield 29, 3) := by decide +kernel
theorem dX8_sells_56 : decode cX8_sells 56 = .ok (.bipush 8, 2) := by decide +kernel
theorem dX8_sells_58 : decode cX8_sells 58 = .ok (.aload_n 0, 1) := by decide +kernel
theorem dX8_sells_59 : decode cX8_sells 59 = .ok (.getfield 104, 3) := by decide +kernel
theorem dX8_sells_62 : decode cX8_sells 62 = .ok (.imul, 1) := by decide +kernel
theorem dX8_sells_63 : decode cX8_sells 63 = .ok (.iload_n 2, 1) := by decide +kernel
theorem dX8_sells_64 : decode cX8_sells 64 = .ok (.iadd, 1) := by decide +kernel
theorem dX8_sells_65 : decode cX8_sells 65 = .ok (.aload_n 0, 1) := by decide +kernel
theorem dX8_sells_66 : decode cX8_sells 66 = .ok (.getfield 44, 3) := by decide +kernel
theorem dX8_sells_69 : decode cX8_sells 69 = .ok (.bipush 8, 2) := by decide +kernel
theorem dX8_sells_71 : decode cX8_sells 71 = .ok (.iload_n 1, 1) := by decide +kernel
theorem dX8_sells_72 : decode cX8_sells 72 = .ok (.imul, 1) := by decide +kernel
theorem dX8_sells_73 : decode cX8_sells 73 = .ok (.iload_n 2, 1) := by decide +kernel
theorem dX8_sells_74 : decode cX8_sells 74 = .ok (.iadd, 1) := by decide +kernel
theorem dX8_sells_75 : decode cX8_sells 75 = .ok (.iaload, 1) := by decide +kernel
theorem dX8_sells_76 : decode cX8_sells 76 = .ok (.iastore, 1) := by decide +kernel
theorem dX8_sells_77 : decode cX8_sells 77 = .ok (.aload_n 0, 1) := by decide +kernel
theorem dX8_sells_78 : decode cX8_sells 78 = .ok (.getfield 32, 3) := by decide +kernel
theorem dX8_sells_81 : decode cX8_sells 81 = .ok (.bipush 8, 2) := by decide +kernel
theorem dX8_sells_83 : decode cX8_sells 83 = .ok (.aload_n 0, 1) := by decide +kernel
theorem dX8_sells_84 : decode cX8_sells 84 = .ok (.getfield 104, 3) := by decide +kernel
theorem dX8_sells_87 : decode cX8_sells 87 = .ok (.imul, 1) := by decide +kernel
theorem dX8_sells_88 : decode cX8_sells 88 = .ok (.iload_n 2, 1) := by decide +kernel
theorem dX8_sells_89 : decode cX8_sells 89 = .ok (.iadd, 1) := by decide +kernel
theorem dX8_sells_90 : decode cX8_sells 90 = .ok (.aload_n 0, 1) := by decide +kernel
theorem dX8_sells_91 : decode cX8_sells 91 = .ok (.getfield 60, 3) := by decide +kernel
theorem dX8_sells_94 : decode cX8_sells 94 = .ok (.bipush 8, 2) := by decide +kernel
theorem dX8_sells_96 : decode cX8_sells 96 = .ok (.iload_n 1, 1) := by decide +kernel
theorem dX8_sells_97 : decode cX8_sells 97 = .ok (.imul, 1) := by decide +kernel
theorem dX8_sells_98 : decode cX8_sells 98 = .ok (.iload_n 2, 1) := by decide +kernel
theorem dX8_sells_99 : decode cX8_sells 99 = .ok (.iadd, 1) := by decide +kernel
theorem dX8_sells_100 : decode cX8_sells 100 = .ok (.iaload, 1) := by decide +kernel
theorem dX8_sells_101 : decode cX8_sells 101 = .ok (.iastore, 1) := by decide +kernel
theorem dX8_sells_102 : decode cX8_sells 102 = .ok (.iinc 2 1, 3) := by decide +kernel
theorem dX8_sells_105 : decode cX8_sells 105 = .ok (.goto (-63), 3) := by decide +kernel
theorem dX8_sells_108 : decode cX8_sells 108 = .ok (.aload_n 0, 1) := by decide +kernel
theorem dX8_sells_109 : decode cX8_sells 109 = .ok (.getfield 35, 3) := by decide +kernel
theorem dX8_sells_112 : decode cX8_sells 112 = .ok (.aload_n 0, 1) := by decide +kernel
theorem dX8_sells_113 : decode cX8_sells 113 = .ok (.getfield 104, 3) := by decide +kernel
theorem dX8_sells_116 : decode cX8_sells 116 = .ok (.aload_n 0, 1) := by decide +kernel
theorem dX8_sells_117 : decode cX8_sells 117 = .ok (.getfield 121, 3) := by decide +kernel
theorem dX8_sells_120 : decode cX8_sells 120 = .ok (.iastore, 1) := by decide +kernel
theorem dX8_sells_121 : decode cX8_sells 121 = .ok (.aload_n 0, 1) := by decide +kernel
theorem dX8_sells_122 : decode cX8_sells 122 = .ok (.dup, 1) := by decide +kernel
theorem dX8_sells_123 : decode cX8_sells 123 = .ok (.getfield 104, 3) := by decide +kernel
theorem dX8_sells_126 : decode cX8_sells 126 = .ok (.iconst 1, 1) := by decide +kernel
theorem dX8_sells_127 : decode cX8_sells 127 = .ok (.iadd, 1) := by decide +kernel
theorem dX8_sells_128 : decode cX8_sells 128 = .ok (.putfield 104, 3) := by decide +kernel
theorem dX8_sells_131 : decode cX8_sells 131 = .ok (.aload_n 0, 1) := by decide +kernel
theorem dX8_sells_132 : decode cX8_sells 132 = .ok (.getfield 51, 3) := by decide +kernel
theorem dX8_sells_135 : decode cX8_sells 135 = .ok (.iload_n 1, 1) := by decide +kernel
theorem dX8_sells_136 : decode cX8_sells 136 = .ok (.bipush (-2), 2) := by decide +kernel
theorem dX8_sells_138 : decode cX8_sells 138 = .ok (.iastore, 1) := by decide +kernel
theorem dX8_sells_139 : decode cX8_sells 139 = .ok (.aload_n 0, 1) := by decide +kernel
theorem dX8_sells_140 : decode cX8_sells 140 = .ok (.invokevirtual 124, 3) := by decide +kernel
theorem dX8_sells_143 : decode cX8_sells 143 = .ok (.return_, 1) := by decide +kernel
set_option maxRecDepth 20000 in
theorem ggX8_deliver_X8_isIn : GoodIn wsX8_deliver wsX8_isIn := goodIn_r _ [10] (by decide +kernel) (by decide +kernel)
set_option maxRecDepth 20000 in
theorem gX8_deliver_X8_isIn : GoodIn wsX8_deliver (va_wsS RX8 114 yX8_isIn wsX8_isIn) := goodIn_app (goodIn_of _ (by decide +kernel)) ggX8_deliver_X8_isIn
set_option maxRecDepth 20000 in
theorem ggX8_deliver_X8_orderOf : GoodIn wsX8_deliver wsX8_orderOf := goodIn_r _ [14, 15, 16, 66, 67, 68, 69, 70, 71, 72, 73, 74, 75, 76, 77, 78, 79, 80, 81, 82, 83, 84, 85, 86, 87, 88, 89, 90, 91, 92, 93, 94, 95, 96, 97, 98, 99, 100] (by decide +kernel) (by decide +kernel)
set_option maxRecDepth 20000 in
theorem gX8_deliver_X8_orderOf : GoodIn wsX8_deliver (wsV RX8 177 RX8 yX8_orderOf wsX8_orderOf) := goodIn_app (goodIn_of _ (by decide +kernel)) ggX8_deliver_X8_orderOf
set_option maxRecDepth 20000 in
theorem ggX8_deliver_X8_hindered : GoodIn wsX8_deliver wsX8_hindered := goodIn_r _ [20, 21, 22, 23, 3, 24, 25, 26, 27, 9, 28, 29, 30, 31, 32, 33, 34, 35, 36, 37, 38, 39, 40, 66, 67, 68, 69, 70, 71, 72, 73, 74, 75, 76, 77, 78, 79, 80, 81, 82, 83, 84, 85, 86, 87, 88, 89, 90, 91, 92, 93, 94, 95, 96, 97, 98, 99, 100] (by decide +kernel) (by decide +kernel)
set_option maxRecDepth 20000 in
theorem gX8_deliver_X8_hindered : GoodIn wsX8_deliver (wsV RX8 195 RX8 yX8_hindered wsX8_hindered) := goodIn_app (goodIn_of _ (by decide +kernel)) ggX8_deliver_X8_hindered
set_option maxRecDepth 20000 in
theorem ggX8_deliver_X8_holds : GoodIn wsX8_deliver wsX8_holds := goodIn_r _ [44, 45, 66, 67, 68, 69, 70, 71, 72, 73, 74, 75, 76, 77, 78, 79, 80, 81, 82, 83, 84, 85, 86, 87, 88, 89, 90, 91, 92, 93, 94, 95, 96, 97, 98, 99, 100] (by decide +kernel) (by decide +kernel)
set_option maxRecDepth 20000 in
theorem gX8_deliver_X8_holds : GoodIn wsX8_deliver (wsV RX8 118 RX8 yX8_holds wsX8_holds) := goodIn_app (goodIn_of _ (by decide +kernel)) ggX8_deliver_X8_holds
set_option maxRecDepth 20000 in
theorem ggX8_deliver_X8_sells : GoodIn wsX8_deliver wsX8_sells := goodIn_r _ [49, 50, 51, 1, 3, 52, 21, 53, 24, 54, 22, 55, 16, 56, 57, 58, 9, 59, 60, 61, 62, 63, 64, 65, 29, 30, 31, 32, 33, 34, 35, 36, 37, 38, 39, 40, 66, 67, 68, 69, 70, 71, 72, 73, 74, 75, 76, 77, 78, 79, 80, 81, 82, 83, 84, 85, 86, 87, 88, 89, 90, 91, 92, 93, 94, 95, 96, 97, 98, 99, 100] (by decide +kernel) (by decide +kernel)
set_option maxRecDepth 20000 in
theorem gX8_deliver_X8_sells : GoodIn wsX8_deliver (wsV RX8 198 RX8 yX8_sells wsX8_sells) := goodIn_app (goodIn_of _ (by decide +kernel)) ggX8_deliver_X8_sells
theorem dX8_deliver_0 : decode cX8_deliver 0 = .ok (.iload_n 1, 1) := by decide +kernel
theorem dX8_deliver_1 : decode cX8_deliver 1 = .ok (.iconst 4, 1) := by decide +kernel
theorem dX8_deliver_2 : decode cX8_deliver 2 = .ok (.invokestatic 114, 3) := by decide +kernel
theorem dX8_deliver_5 : decode cX8_deliver 5 = .ok (.istore_n 2, 1) := by decide +kernel
theorem dX8_deliver_6 : decode cX8_deliver 6 = .ok (.iload_n 2, 1) := by decide +kernel
theorem dX8_deliver_7 : decode cX8_deliver 7 = .ok (.ifCond .eq 11, 3) := by decide +kernel
theorem dX8_deliver_10 : decode cX8_deliver 10 = .ok (.aload_n 0, 1) := by decide +kernel
theorem dX8_deliver_11 : decode cX8_deliver 11 = .ok (.iload_n 1, 1) := by decide +kernel
theorem dX8_deliver_12 : decode cX8_deliver 12 = .ok (.invokevirtual 177, 3) := by decide +kernel
theorem dX8_deliver_15 : decode cX8_deliver 15 = .ok (.goto 4, 3) := by decide +kernel
theorem dX8_deliver_18 : decode cX8_deliver 18 = .ok (.iconst (-1), 1) := by decide +kernel
theorem dX8_deliver_19 : decode cX8_deliver 19 = .ok (.istore_n 3, 1) := by decide +kernel
theorem dX8_deliver_20 : decode cX8_deliver 20 = .ok (.aload_n 0, 1) := by decide +kernel
theorem dX8_deliver_21 : decode cX8_deliver 21 = .ok (.iload_n 2, 1) := by decide +kernel
theorem dX8_deliver_22 : decode cX8_deliver 22 = .ok (.ifCond .ne 7, 3) := by decide +kernel
theorem dX8_deliver_25 : decode cX8_deliver 25 = .ok (.iconst 1, 1) := by decide +kernel
theorem dX8_deliver_26 : decode cX8_deliver 26 = .ok (.goto 31, 3) := by decide +kernel
theorem dX8_deliver_29 : decode cX8_deliver 29 = .ok (.iload_n 3, 1) := by decide +kernel
theorem dX8_deliver_30 : decode cX8_deliver 30 = .ok (.iconst (-1), 1) := by decide +kernel
theorem dX8_deliver_31 : decode cX8_deliver 31 = .ok (.if_icmp .eq 21, 3) := by decide +kernel
theorem dX8_deliver_34 : decode cX8_deliver 34 = .ok (.aload_n 0, 1) := by decide +kernel
theorem dX8_deliver_35 : decode cX8_deliver 35 = .ok (.iload_n 3, 1) := by decide +kernel
theorem dX8_deliver_36 : decode cX8_deliver 36 = .ok (.invokevirtual 195, 3) := by decide +kernel
theorem dX8_deliver_39 : decode cX8_deliver 39 = .ok (.iconst (-1), 1) := by decide +kernel
theorem dX8_deliver_40 : decode cX8_deliver 40 = .ok (.if_icmp .ne 12, 3) := by decide +kernel
theorem dX8_deliver_43 : decode cX8_deliver 43 = .ok (.aload_n 0, 1) := by decide +kernel
theorem dX8_deliver_44 : decode cX8_deliver 44 = .ok (.getfield 104, 3) := by decide +kernel
theorem dX8_deliver_47 : decode cX8_deliver 47 = .ok (.bipush 40, 2) := by decide +kernel
theorem dX8_deliver_49 : decode cX8_deliver 49 = .ok (.if_icmp .ne 7, 3) := by decide +kernel
theorem dX8_deliver_52 : decode cX8_deliver 52 = .ok (.iconst 2, 1) := by decide +kernel
theorem dX8_deliver_53 : decode cX8_deliver 53 = .ok (.goto 4, 3) := by decide +kernel
theorem dX8_deliver_56 : decode cX8_deliver 56 = .ok (.iconst 0, 1) := by decide +kernel
theorem dX8_deliver_57 : decode cX8_deliver 57 = .ok (.invokevirtual 118, 3) := by decide +kernel
theorem dX8_deliver_60 : decode cX8_deliver 60 = .ok (.ifCond .ne 5, 3) := by decide +kernel
theorem dX8_deliver_63 : decode cX8_deliver 63 = .ok (.iconst 0, 1) := by decide +kernel
theorem dX8_deliver_64 : decode cX8_deliver 64 = .ok (.ireturn, 1) := by decide +kernel
theorem dX8_deliver_65 : decode cX8_deliver 65 = .ok (.aload_n 0, 1) := by decide +kernel
theorem dX8_deliver_66 : decode cX8_deliver 66 = .ok (.getfield 78, 3) := by decide +kernel
theorem dX8_deliver_69 : decode cX8_deliver 69 = .ok (.aload_n 0, 1) := by decide +kernel
theorem dX8_deliver_70 : decode cX8_deliver 70 = .ok (.getfield 38, 3) := by decide +kernel
theorem dX8_deliver_73 : decode cX8_deliver 73 = .ok (.iload_n 3, 1) := by decide +kernel
theorem dX8_deliver_74 : decode cX8_deliver 74 = .ok (.iaload, 1) := by decide +kernel
theorem dX8_deliver_75 : decode cX8_deliver 75 = .ok (.dup2, 1) := by decide +kernel
theorem dX8_deliver_76 : decode cX8_deliver 76 = .ok (.iaload, 1) := by decide +kernel
theorem dX8_deliver_77 : decode cX8_deliver 77 = .ok (.aload_n 0, 1) := by decide +kernel
theorem dX8_deliver_78 : decode cX8_deliver 78 = .ok (.getfield 63, 3) := by decide +kernel
theorem dX8_deliver_81 : decode cX8_deliver 81 = .ok (.iload_n 3, 1) := by decide +kernel
theorem dX8_deliver_82 : decode cX8_deliver 82 = .ok (.iaload, 1) := by decide +kernel
theorem dX8_deliver_83 : decode cX8_deliver 83 = .ok (.iadd, 1) := by decide +kernel
theorem dX8_deliver_84 : decode cX8_deliver 84 = .ok (.iastore, 1) := by decide +kernel
theorem dX8_deliver_85 : decode cX8_deliver 85 = .ok (.aload_n 0, 1) := by decide +kernel
theorem dX8_deliver_86 : decode cX8_deliver 86 = .ok (.getfield 81, 3) := by decide +kernel
theorem dX8_deliver_89 : decode cX8_deliver 89 = .ok (.iload_n 1, 1) := by decide +kernel
theorem dX8_deliver_90 : decode cX8_deliver 90 = .ok (.dup2, 1) := by decide +kernel
theorem dX8_deliver_91 : decode cX8_deliver 91 = .ok (.iaload, 1) := by decide +kernel
theorem dX8_deliver_92 : decode cX8_deliver 92 = .ok (.aload_n 0, 1) := by decide +kernel
theorem dX8_deliver_93 : decode cX8_deliver 93 = .ok (.getfield 66, 3) := by decide +kernel
theorem dX8_deliver_96 : decode cX8_deliver 96 = .ok (.iload_n 3, 1) := by decide +kernel
theorem dX8_deliver_97 : decode cX8_deliver 97 = .ok (.iaload, 1) := by decide +kernel
theorem dX8_deliver_98 : decode cX8_deliver 98 = .ok (.iadd, 1) := by decide +kernel
theorem dX8_deliver_99 : decode cX8_deliver 99 = .ok (.iastore, 1) := by decide +kernel
theorem dX8_deliver_100 : decode cX8_deliver 100 = .ok (.aload_n 0, 1) := by decide +kernel
theorem dX8_deliver_101 : decode cX8_deliver 101 = .ok (.iload_n 3, 1) := by decide +kernel
theorem dX8_deliver_102 : decode cX8_deliver 102 = .ok (.invokevirtual 198, 3) := by decide +kernel
theorem dX8_deliver_105 : decode cX8_deliver 105 = .ok (.aload_n 0, 1) := by decide +kernel
theorem dX8_deliver_106 : decode cX8_deliver 106 = .ok (.getfield 104, 3) := by decide +kernel
theorem dX8_deliver_109 : decode cX8_deliver 109 = .ok (.iconst 1, 1) := by decide +kernel
theorem dX8_deliver_110 : decode cX8_deliver 110 = .ok (.isub, 1) := by decide +kernel
theorem dX8_deliver_111 : decode cX8_deliver 111 = .ok (.ireturn, 1) := by decide +kernel
set_option maxRecDepth 20000 in
theorem ggX8_why_X8_isAtWork : GoodIn wsX8_why wsX8_isAtWork := goodIn_r _ [5, 6, 7, 4, 8, 9, 10, 11, 12, 13, 14, 15, 16, 17, 18, 19, 45, 46, 47, 48, 49, 50, 51, 52, 53, 54, 55, 56, 57, 58, 59, 60, 61, 62, 63, 64, 65, 66, 67, 68, 69, 70, 71, 72, 73, 74, 75, 76, 77, 78, 79] (by decide +kernel) (by decide +kernel)
set_option maxRecDepth 20000 in
theorem gX8_why_X8_isAtWork : GoodIn wsX8_why (wsV RX8 186 RX8 yX8_isAtWork wsX8_isAtWork) := goodIn_app (goodIn_of _ (by decide +kernel)) ggX8_why_X8_isAtWork
set_option maxRecDepth 20000 in
theorem ggX8_why_X8_orderOf : GoodIn wsX8_why wsX8_orderOf := goodIn_r _ [12, 13, 14, 45, 46, 47, 48, 49, 50, 51, 52, 53, 54, 55, 56, 57, 58, 59, 60, 61, 62, 63, 64, 65, 66, 67, 68, 69, 70, 71, 72, 73, 74, 75, 76, 77, 78, 79] (by decide +kernel) (by decide +kernel)
set_option maxRecDepth 20000 in
theorem gX8_why_X8_orderOf : GoodIn wsX8_why (wsV RX8 177 RX8 yX8_orderOf wsX8_orderOf) := goodIn_app (goodIn_of _ (by decide +kernel)) ggX8_why_X8_orderOf
set_option maxRecDepth 20000 in
theorem ggX8_why_X8_open : GoodIn wsX8_why wsX8_open := goodIn_r _ [23, 24, 25, 45, 46, 47, 48, 49, 50, 51, 52, 53, 54, 55, 56, 57, 58, 59, 60, 61, 62, 63, 64, 65, 66, 67, 68, 69, 70, 71, 72, 73, 74, 75, 76, 77, 78, 79] (by decide +kernel) (by decide +kernel)
set_option maxRecDepth 20000 in
theorem gX8_why_X8_open : GoodIn wsX8_why (wsV RX8 192 RX8 yX8_open wsX8_open) := goodIn_app (goodIn_of _ (by decide +kernel)) ggX8_why_X8_open
set_option maxRecDepth 20000 in
theorem ggX8_why_X8_hindered : GoodIn wsX8_why wsX8_hindered := goodIn_r _ [29, 24, 25, 30, 31, 32, 20, 21, 22, 4, 23, 33, 34, 35, 36, 37, 38, 39, 40, 41, 42, 43, 44, 45, 46, 47, 48, 49, 50, 51, 52, 53, 54, 55, 56, 57, 58, 59, 60, 61, 62, 63, 64, 65, 66, 67, 68, 69, 70, 71, 72, 73, 74, 75, 76, 77, 78, 79] (by decide +kernel) (by decide +kernel)
set_option maxRecDepth 20000 in
theorem gX8_why_X8_hindered : GoodIn wsX8_why (wsV RX8 195 RX8 yX8_hindered wsX8_hindered) := goodIn_app (goodIn_of _ (by decide +kernel)) ggX8_why_X8_hindered
theorem dX8_why_0 : decode cX8_why 0 = .ok (.aload_n 0, 1) := by decide +kernel
theorem dX8_why_1 : decode cX8_why 1 = .ok (.iload_n 1, 1) := by decide +kernel
theorem dX8_why_2 : decode cX8_why 2 = .ok (.invokevirtual 186, 3) := by decide +kernel
theorem dX8_why_5 : decode cX8_why 5 = .ok (.ifCond .ne 5, 3) := by decide +kernel
theorem dX8_why_8 : decode cX8_why 8 = .ok (.iconst 0, 1) := by decide +kernel
theorem dX8_why_9 : decode cX8_why 9 = .ok (.ireturn, 1) := by decide +kernel
theorem dX8_why_10 : decode cX8_why 10 = .ok (.aload_n 0, 1) := by decide +kernel
theorem dX8_why_11 : decode cX8_why 11 = .ok (.iload_n 1, 1) := by decide +kernel
theorem dX8_why_12 : decode cX8_why 12 = .ok (.invokevirtual 177, 3) := by decide +kernel
theorem dX8_why_15 : decode cX8_why 15 = .ok (.istore_n 2, 1) := by decide +kernel
theorem dX8_why_16 : decode cX8_why 16 = .ok (.aload_n 0, 1) := by decide +kernel
theorem dX8_why_17 : decode cX8_why 17 = .ok (.iload_n 2, 1) := by decide +kernel
theorem dX8_why_18 : decode cX8_why 18 = .ok (.invokevirtual 192, 3) := by decide +kernel
theorem dX8_why_21 : decode cX8_why 21 = .ok (.ifCond .le 7, 3) := by decide +kernel
theorem dX8_why_24 : decode cX8_why 24 = .ok (.iconst 1, 1) := by decide +kernel
theorem dX8_why_25 : decode cX8_why 25 = .ok (.goto 17, 3) := by decide +kernel
theorem dX8_why_28 : decode cX8_why 28 = .ok (.aload_n 0, 1) := by decide +kernel
theorem dX8_why_29 : decode cX8_why 29 = .ok (.iload_n 2, 1) := by decide +kernel
theorem dX8_why_30 : decode cX8_why 30 = .ok (.invokevirtual 195, 3) := by decide +kernel
theorem dX8_why_33 : decode cX8_why 33 = .ok (.iconst (-1), 1) := by decide +kernel
theorem dX8_why_34 : decode cX8_why 34 = .ok (.if_icmp .eq 7, 3) := by decide +kernel
theorem dX8_why_37 : decode cX8_why 37 = .ok (.iconst 2, 1) := by decide +kernel
theorem dX8_why_38 : decode cX8_why 38 = .ok (.goto 4, 3) := by decide +kernel
theorem dX8_why_41 : decode cX8_why 41 = .ok (.iconst 0, 1) := by decide +kernel
theorem dX8_why_42 : decode cX8_why 42 = .ok (.ireturn, 1) := by decide +kernel
set_option maxRecDepth 20000 in
theorem ggX8_wherefore_X8_isAtWork : GoodIn wsX8_wherefore wsX8_isAtWork := goodIn_r _ [5, 6, 7, 4, 8, 9, 10, 11, 12, 13, 14, 15, 16, 17, 18, 19, 45, 46, 47, 48, 49, 50, 51, 52, 53, 54, 55, 56, 57, 58, 59, 60, 61, 62, 63, 64, 65, 66, 67, 68, 69, 70, 71, 72, 73, 74, 75, 76, 77, 78, 79] (by decide +kernel) (by decide +kernel)
set_option maxRecDepth 20000 in
theorem gX8_wherefore_X8_isAtWork : GoodIn wsX8_wherefore (wsV RX8 186 RX8 yX8_isAtWork wsX8_isAtWork) := goodIn_app (goodIn_of _ (by decide +kernel)) ggX8_wherefore_X8_isAtWork
set_option maxRecDepth 20000 in
theorem ggX8_wherefore_X8_orderOf : GoodIn wsX8_wherefore wsX8_orderOf := goodIn_r _ [12, 13, 14, 45, 46, 47, 48, 49, 50, 51, 52, 53, 54, 55, 56, 57, 58, 59, 60, 61, 62, 63, 64, 65, 66, 67, 68, 69, 70, 71, 72, 73, 74, 75, 76, 77, 78, 79] (by decide +kernel) (by decide +kernel)
set_option maxRecDepth 20000 in
theorem gX8_wherefore_X8_orderOf : GoodIn wsX8_wherefore (wsV RX8 177 RX8 yX8_orderOf wsX8_orderOf) := goodIn_app (goodIn_of _ (by decide +kernel)) ggX8_wherefore_X8_orderOf
set_option maxRecDepth 20000 in
theorem ggX8_wherefore_X8_hindered : GoodIn wsX8_wherefore wsX8_hindered := goodIn_r _ [23, 24, 25, 26, 27, 28, 29, 30, 31, 4, 32, 33, 34, 35, 36, 37, 38, 39, 40, 41, 42, 43, 44, 45, 46, 47, 48, 49, 50, 51, 52, 53, 54, 55, 56, 57, 58, 59, 60, 61, 62, 63, 64, 65, 66, 67, 68, 69, 70, 71, 72, 73, 74, 75, 76, 77, 78, 79] (by decide +kernel) (by decide +kernel)
set_option maxRecDepth 20000 in
theorem gX8_wherefore_X8_hindered : GoodIn wsX8_wherefore (wsV RX8 195 RX8 yX8_hindered wsX8_hindered) := goodIn_app (goodIn_of _ (by decide +kernel)) ggX8_wherefore_X8_hindered
theorem dX8_wherefore_0 : decode cX8_wherefore 0 = .ok (.aload_n 0, 1) := by decide +kernel
theorem dX8_wherefore_1 : decode cX8_wherefore 1 = .ok (.iload_n 1, 1) := by decide +kernel
theorem dX8_wherefore_2 : decode cX8_wherefore 2 = .ok (.invokevirtual 186, 3) := by decide +kernel
theorem dX8_wherefore_5 : decode cX8_wherefore 5 = .ok (.ifCond .eq 15, 3) := by decide +kernel
theorem dX8_wherefore_8 : decode cX8_wherefore 8 = .ok (.aload_n 0, 1) := by decide +kernel
theorem dX8_wherefore_9 : decode cX8_wherefore 9 = .ok (.aload_n 0, 1) := by decide +kernel
theorem dX8_wherefore_10 : decode cX8_wherefore 10 = .ok (.iload_n 1, 1) := by decide +kernel
theorem dX8_wherefore_11 : decode cX8_wherefore 11 = .ok (.invokevirtual 177, 3) := by decide +kernel
theorem dX8_wherefore_14 : decode cX8_wherefore 14 = .ok (.invokevirtual 195, 3) := by decide +kernel
theorem dX8_wherefore_17 : decode cX8_wherefore 17 = .ok (.goto 4, 3) := by decide +kernel
theorem dX8_wherefore_20 : decode cX8_wherefore 20 = .ok (.iconst 0, 1) := by decide +kernel
theorem dX8_wherefore_21 : decode cX8_wherefore 21 = .ok (.ireturn, 1) := by decide +kernel
set_option maxRecDepth 20000 in
theorem ggX8_became_X8_isIn : GoodIn wsX8_became wsX8_isIn := goodIn_r _ [6] (by decide +kernel) (by decide +kernel)
set_option maxRecDepth 20000 in
theorem gX8_became_X8_isIn : GoodIn wsX8_became (va_wsS RX8 114 yX8_isIn wsX8_isIn) := goodIn_app (goodIn_of _ (by decide +kernel)) ggX8_became_X8_isIn
set_option maxRecDepth 20000 in
theorem ggX8_became_X8_orderOf : GoodIn wsX8_became wsX8_orderOf := goodIn_r _ [10, 11, 12, 18, 19, 20, 21, 22, 23, 24, 25, 26, 27, 28, 29, 30, 31, 32, 33, 34, 35, 36, 37, 38, 39, 40, 41, 42, 43, 44, 45, 46, 47, 48, 49, 50, 51, 52] (by decide +kernel) (by decide +kernel)
set_option maxRecDepth 20000 in
theorem gX8_became_X8_orderOf : GoodIn wsX8_became (wsV RX8 177 RX8 yX8_orderOf wsX8_orderOf) := goodIn_app (goodIn_of _ (by decide +kernel)) ggX8_became_X8_orderOf
set_option maxRecDepth 20000 in
theorem ggX8_became_X8_holds : GoodIn wsX8_became wsX8_holds := goodIn_r _ [16, 17, 18, 19, 20, 21, 22, 23, 24, 25, 26, 27, 28, 29, 30, 31, 32, 33, 34, 35, 36, 37, 38, 39, 40, 41, 42, 43, 44, 45, 46, 47, 48, 49, 50, 51, 52] (by decide +kernel) (by decide +kernel)
set_option maxRecDepth 20000 in
theorem gX8_became_X8_holds : GoodIn wsX8_became (wsV RX8 118 RX8 yX8_holds wsX8_holds) := goodIn_app (goodIn_of _ (by decide +kernel)) ggX8_became_X8_holds
theorem dX8_became_0 : decode cX8_became 0 = .ok (.iload_n 1, 1) := by decide +kernel
theorem dX8_became_1 : decode cX8_became 1 = .ok (.iconst 4, 1) := by decide +kernel
theorem dX8_became_2 : decode cX8_became 2 = .ok (.invokestatic 114, 3) := by decide +kernel
theorem dX8_became_5 : decode cX8_became 5 = .ok (.istore_n 3, 1) := by decide +kernel
theorem dX8_became_6 : decode cX8_became 6 = .ok (.iload_n 3, 1) := by decide +kernel
theorem dX8_became_7 : decode cX8_became 7 = .ok (.ifCond .eq 11, 3) := by decide +kernel
theorem dX8_became_10 : decode cX8_became 10 = .ok (.aload_n 0, 1) := by decide +kernel
theorem dX8_became_11 : decode cX8_became 11 = .ok (.iload_n 1, 1) := by decide +kernel
theorem dX8_became_12 : decode cX8_became 12 = .ok (.invokevirtual 177, 3) := by decide +kernel
theorem dX8_became_15 : decode cX8_became 15 = .ok (.goto 4, 3) := by decide +kernel
theorem dX8_became_18 : decode cX8_became 18 = .ok (.iconst (-1), 1) := by decide +kernel
theorem dX8_became_19 : decode cX8_became 19 = .ok (.istore 4, 2) := by decide +kernel
theorem dX8_became_21 : decode cX8_became 21 = .ok (.aload_n 0, 1) := by decide +kernel
theorem dX8_became_22 : decode cX8_became 22 = .ok (.iload_n 3, 1) := by decide +kernel
theorem dX8_became_23 : decode cX8_became 23 = .ok (.ifCond .ne 7, 3) := by decide +kernel
theorem dX8_became_26 : decode cX8_became 26 = .ok (.iconst 1, 1) := by decide +kernel
theorem dX8_became_27 : decode cX8_became 27 = .ok (.goto 32, 3) := by decide +kernel
theorem dX8_became_30 : decode cX8_became 30 = .ok (.iload 4, 2) := by decide +kernel
theorem dX8_became_32 : decode cX8_became 32 = .ok (.iconst (-1), 1) := by decide +kernel
theorem dX8_became_33 : decode cX8_became 33 = .ok (.if_icmp .ne 7, 3) := by decide +kernel
theorem dX8_became_36 : decode cX8_became 36 = .ok (.iconst 2, 1) := by decide +kernel
theorem dX8_became_37 : decode cX8_became 37 = .ok (.goto 22, 3) := by decide +kernel
theorem dX8_became_40 : decode cX8_became 40 = .ok (.iload_n 2, 1) := by decide +kernel
theorem dX8_became_41 : decode cX8_became 41 = .ok (.aload_n 0, 1) := by decide +kernel
theorem dX8_became_42 : decode cX8_became 42 = .ok (.getfield 41, 3) := by decide +kernel
theorem dX8_became_45 : decode cX8_became 45 = .ok (.iload 4, 2) := by decide +kernel
theorem dX8_became_47 : decode cX8_became 47 = .ok (.iaload, 1) := by decide +kernel
theorem dX8_became_48 : decode cX8_became 48 = .ok (.invokestatic 114, 3) := by decide +kernel
theorem dX8_became_51 : decode cX8_became 51 = .ok (.ifCond .eq 7, 3) := by decide +kernel
theorem dX8_became_54 : decode cX8_became 54 = .ok (.iconst 0, 1) := by decide +kernel
theorem dX8_became_55 : decode cX8_became 55 = .ok (.goto 4, 3) := by decide +kernel
theorem dX8_became_58 : decode cX8_became 58 = .ok (.iconst 3, 1) := by decide +kernel
theorem dX8_became_59 : decode cX8_became 59 = .ok (.invokevirtual 118, 3) := by decide +kernel
theorem dX8_became_62 : decode cX8_became 62 = .ok (.ifCond .ne 5, 3) := by decide +kernel
theorem dX8_became_65 : decode cX8_became 65 = .ok (.iconst 0, 1) := by decide +kernel
theorem dX8_became_66 : decode cX8_became 66 = .ok (.ireturn, 1) := by decide +kernel
theorem dX8_became_67 : decode cX8_became 67 = .ok (.aload_n 0, 1) := by decide +kernel
theorem dX8_became_68 : decode cX8_became 68 = .ok (.getfield 60, 3) := by decide +kernel
theorem dX8_became_71 : decode cX8_became 71 = .ok (.bipush 8, 2) := by decide +kernel
theorem dX8_became_73 : decode cX8_became 73 = .ok (.iload 4, 2) := by decide +kernel
theorem dX8_became_75 : decode cX8_became 75 = .ok (.imul, 1) := by decide +kernel
theorem dX8_became_76 : decode cX8_became 76 = .ok (.iload_n 2, 1) := by decide +kernel
theorem dX8_became_77 : decode cX8_became 77 = .ok (.iadd, 1) := by decide +kernel
theorem dX8_became_78 : decode cX8_became 78 = .ok (.iaload, 1) := by decide +kernel
theorem dX8_became_79 : decode cX8_became 79 = .ok (.ireturn, 1) := by decide +kernel
set_option maxRecDepth 20000 in
theorem ggX8_match_X8_isAtWork : GoodIn wsX8_match wsX8_isAtWork := goodIn_r _ [6, 7, 8, 5, 9, 10, 11, 12, 13, 14, 15, 16, 17, 18, 19, 20, 21, 22, 23, 24, 25, 26, 27, 28, 29, 30, 31, 32, 33, 34, 35, 36, 37, 38, 39, 40, 41, 42, 43, 44, 45, 46, 47, 48, 49, 50, 51, 52, 53, 54, 55] (by decide +kernel) (by decide +kernel)
set_option maxRecDepth 20000 in
theorem gX8_match_X8_isAtWork : GoodIn wsX8_match (wsV RX8 186 RX8 yX8_isAtWork wsX8_isAtWork) := goodIn_app (goodIn_of _ (by decide +kernel)) ggX8_match_X8_isAtWork
set_option maxRecDepth 20000 in
theorem ggX8_match_X8_orderOf : GoodIn wsX8_match wsX8_orderOf := goodIn_r _ [13, 14, 15, 21, 22, 23, 24, 25, 26, 27, 28, 29, 30, 31, 32, 33, 34, 35, 36, 37, 38, 39, 40, 41, 42, 43, 44, 45, 46, 47, 48, 49, 50, 51, 52, 53, 54, 55] (by decide +kernel) (by decide +kernel)
set_option maxRecDepth 20000 in
theorem gX8_match_X8_orderOf : GoodIn wsX8_match (wsV RX8 177 RX8 yX8_orderOf wsX8_orderOf) := goodIn_app (goodIn_of _ (by decide +kernel)) ggX8_match_X8_orderOf
theorem dX8_match_0 : decode cX8_match 0 = .ok (.aload_n 0, 1) := by decide +kernel
theorem dX8_match_1 : decode cX8_match 1 = .ok (.iload_n 1, 1) := by decide +kernel
theorem dX8_match_2 : decode cX8_match 2 = .ok (.invokevirtual 186, 3) := by decide +kernel
theorem dX8_match_5 : decode cX8_match 5 = .ok (.ifCond .eq 16, 3) := by decide +kernel
theorem dX8_match_8 : decode cX8_match 8 = .ok (.aload_n 0, 1) := by decide +kernel
theorem dX8_match_9 : decode cX8_match 9 = .ok (.getfield 57, 3) := by decide +kernel
theorem dX8_match_12 : decode cX8_match 12 = .ok (.aload_n 0, 1) := by decide +kernel
theorem dX8_match_13 : decode cX8_match 13 = .ok (.iload_n 1, 1) := by decide +kernel
theorem dX8_match_14 : decode cX8_match 14 = .ok (.invokevirtual 177, 3) := by decide +kernel
theorem dX8_match_17 : decode cX8_match 17 = .ok (.iaload, 1) := by decide +kernel
theorem dX8_match_18 : decode cX8_match 18 = .ok (.goto 4, 3) := by decide +kernel
theorem dX8_match_21 : decode cX8_match 21 = .ok (.iconst 0, 1) := by decide +kernel
theorem dX8_match_22 : decode cX8_match 22 = .ok (.ireturn, 1) := by decide +kernel
theorem dX8_waiting_0 : decode cX8_waiting 0 = .ok (.aload_n 0, 1) := by decide +kernel
theorem dX8_waiting_1 : decode cX8_waiting 1 = .ok (.iconst 0, 1) := by decide +kernel
theorem dX8_waiting_2 : decode cX8_waiting 2 = .ok (.putfield 90, 3) := by decide +kernel
theorem dX8_waiting_5 : decode cX8_waiting 5 = .ok (.iconst 0, 1) := by decide +kernel
theorem dX8_waiting_6 : decode cX8_waiting 6 = .ok (.istore_n 2, 1) := by decide +kernel
theorem dX8_waiting_7 : decode cX8_waiting 7 = .ok (.iconst 0, 1) := by decide +kernel
theorem dX8_waiting_8 : decode cX8_waiting 8 = .ok (.istore_n 3, 1) := by decide +kernel
theorem dX8_waiting_9 : decode cX8_waiting 9 = .ok (.iload_n 3, 1) := by decide +kernel
theorem dX8_waiting_10 : decode cX8_waiting 10 = .ok (.aload_n 0, 1) := by decide +kernel
theorem dX8_waiting_11 : decode cX8_waiting 11 = .ok (.getfield 167, 3) := by decide +kernel
theorem dX8_waiting_14 : decode cX8_waiting 14 = .ok (.if_icmp .ge 37, 3) := by decide +kernel
theorem dX8_waiting_17 : decode cX8_waiting 17 = .ok (.iload_n 2, 1) := by decide +kernel
theorem dX8_waiting_18 : decode cX8_waiting 18 = .ok (.aload_n 0, 1) := by decide +kernel
theorem dX8_waiting_19 : decode cX8_waiting 19 = .ok (.getfield 51, 3) := by decide +kernel
theorem dX8_waiting_22 : decode cX8_waiting 22 = .ok (.iload_n 3, 1) := by decide +kernel
theorem dX8_waiting_23 : decode cX8_waiting 23 = .ok (.iaload, 1) := by decide +kernel
theorem dX8_waiting_24 : decode cX8_waiting 24 = .ok (.iconst (-1), 1) := by decide +kernel
theorem dX8_waiting_25 : decode cX8_waiting 25 = .ok (.if_icmp .ne 17, 3) := by decide +kernel
theorem dX8_waiting_28 : decode cX8_waiting 28 = .ok (.aload_n 0, 1) := by decide +kernel
theorem dX8_waiting_29 : decode cX8_waiting 29 = .ok (.getfield 47, 3) := by decide +kernel
theorem dX8_waiting_32 : decode cX8_waiting 32 = .ok (.iload_n 3, 1) := by decide +kernel
theorem dX8_waiting_33 : decode cX8_waiting 33 = .ok (.baload, 1) := by decide +kernel
theorem dX8_waiting_34 : decode cX8_waiting 34 = .ok (.iload_n 1, 1) := by decide +kernel
theorem dX8_waiting_35 : decode cX8_waiting 35 = .ok (.if_icmp .ne 7, 3) := by decide +kernel
theorem dX8_waiting_38 : decode cX8_waiting 38 = .ok (.iconst 1, 1) := by decide +kernel
theorem dX8_waiting_39 : decode cX8_waiting 39 = .ok (.goto 4, 3) := by decide +kernel
theorem dX8_waiting_42 : decode cX8_waiting 42 = .ok (.iconst 0, 1) := by decide +kernel
theorem dX8_waiting_43 : decode cX8_waiting 43 = .ok (.iadd, 1) := by decide +kernel
theorem dX8_waiting_44 : decode cX8_waiting 44 = .ok (.istore_n 2, 1) := by decide +kernel
theorem dX8_waiting_45 : decode cX8_waiting 45 = .ok (.iinc 3 1, 3) := by decide +kernel
theorem dX8_waiting_48 : decode cX8_waiting 48 = .ok (.goto (-39), 3) := by decide +kernel
theorem dX8_waiting_51 : decode cX8_waiting 51 = .ok (.iload_n 2, 1) := by decide +kernel
theorem dX8_waiting_52 : decode cX8_waiting 52 = .ok (.ireturn, 1) := by decide +kernel
set_option maxRecDepth 20000 in
theorem ggX8_orderAt_X8_isIn : GoodIn wsX8_orderAt wsX8_isIn := goodIn_r _ [6] (by decide +kernel) (by decide +kernel)
set_option maxRecDepth 20000 in
theorem gX8_orderAt_X8_isIn : GoodIn wsX8_orderAt (va_wsS RX8 114 yX8_isIn wsX8_isIn) := goodIn_app (goodIn_of _ (by decide +kernel)) ggX8_orderAt_X8_isIn
set_option maxRecDepth 20000 in
theorem ggX8_orderAt_X8_holds : GoodIn wsX8_orderAt wsX8_holds := goodIn_r _ [10, 11, 12, 13, 14, 15, 16, 17, 18, 19, 20, 21, 22, 23, 24, 25, 26, 27, 28, 29, 30, 31, 32, 33, 34, 35, 36, 37, 38, 39, 40, 41, 42, 43, 44, 45, 46] (by decide +kernel) (by decide +kernel)
set_option maxRecDepth 20000 in
theorem gX8_orderAt_X8_holds : GoodIn wsX8_orderAt (wsV RX8 118 RX8 yX8_holds wsX8_holds) := goodIn_app (goodIn_of _ (by decide +kernel)) ggX8_orderAt_X8_holds
theorem dX8_orderAt_0 : decode cX8_orderAt 0 = .ok (.aload_n 0, 1) := by decide +kernel
theorem dX8_orderAt_1 : decode cX8_orderAt 1 = .ok (.iload_n 1, 1) := by decide +kernel
theorem dX8_orderAt_2 : decode cX8_orderAt 2 = .ok (.aload_n 0, 1) := by decide +kernel
theorem dX8_orderAt_3 : decode cX8_orderAt 3 = .ok (.getfield 167, 3) := by decide +kernel
theorem dX8_orderAt_6 : decode cX8_orderAt 6 = .ok (.invokestatic 114, 3) := by decide +kernel
theorem dX8_orderAt_9 : decode cX8_orderAt 9 = .ok (.ifCond .eq 7, 3) := by decide +kernel
theorem dX8_orderAt_12 : decode cX8_orderAt 12 = .ok (.iconst 0, 1) := by decide +kernel
theorem dX8_orderAt_13 : decode cX8_orderAt 13 = .ok (.goto 4, 3) := by decide +kernel
theorem dX8_orderAt_16 : decode cX8_orderAt 16 = .ok (.iconst 1, 1) := by decide +kernel
theorem dX8_orderAt_17 : decode cX8_orderAt 17 = .ok (.invokevirtual 118, 3) := by decide +kernel
theorem dX8_orderAt_20 : decode cX8_orderAt 20 = .ok (.ifCond .eq 12, 3) := by decide +kernel
theorem dX8_orderAt_23 : decode cX8_orderAt 23 = .ok (.aload_n 0, 1) := by decide +kernel
theorem dX8_orderAt_24 : decode cX8_orderAt 24 = .ok (.getfield 51, 3) := by decide +kernel
theorem dX8_orderAt_27 : decode cX8_orderAt 27 = .ok (.iload_n 1, 1) := by decide +kernel
theorem dX8_orderAt_28 : decode cX8_orderAt 28 = .ok (.iaload, 1) := by decide +kernel
theorem dX8_orderAt_29 : decode cX8_orderAt 29 = .ok (.goto 4, 3) := by decide +kernel
theorem dX8_orderAt_32 : decode cX8_orderAt 32 = .ok (.iconst 0, 1) := by decide +kernel
theorem dX8_orderAt_33 : decode cX8_orderAt 33 = .ok (.ireturn, 1) := by decide +kernel
theorem dX8_sold_0 : decode cX8_sold 0 = .ok (.aload_n 0, 1) := by decide +kernel
theorem dX8_sold_1 : decode cX8_sold 1 = .ok (.iconst 0, 1) := by decide +kernel
theorem dX8_sold_2 : decode cX8_sold 2 = .ok (.putfield 90, 3) := by decide +kernel
theorem dX8_sold_5 : decode cX8_sold 5 = .ok (.aload_n 0, 1) := by decide +kernel
theorem dX8_sold_6 : decode cX8_sold 6 = .ok (.getfield 104, 3) := by decide +kernel
theorem dX8_sold_9 : decode cX8_sold 9 = .ok (.ireturn, 1) := by decide +kernel
set_option maxRecDepth 20000 in
theorem ggX8_clientOf_X8_isSentence : GoodIn wsX8_clientOf wsX8_isSentence := goodIn_r _ [6, 7, 8, 9, 5, 10, 16, 17, 18, 19, 20, 21, 22, 23, 24, 25, 26, 27, 28, 29, 30, 31, 32, 33, 34, 35, 36, 37, 38, 39, 40, 41, 42, 43, 44, 45, 46, 47, 48, 49, 50] (by decide +kernel) (by decide +kernel)
set_option maxRecDepth 20000 in
theorem gX8_clientOf_X8_isSentence : GoodIn wsX8_clientOf (wsV RX8 151 RX8 yX8_isSentence wsX8_isSentence) := goodIn_app (goodIn_of _ (by decide +kernel)) ggX8_clientOf_X8_isSentence
set_option maxRecDepth 20000 in
theorem ggX8_clientOf_X8_holds : GoodIn wsX8_clientOf wsX8_holds := goodIn_r _ [14, 15, 16, 17, 18, 19, 20, 21, 22, 23, 24, 25, 26, 27, 28, 29, 30, 31, 32, 33, 34, 35, 36, 37, 38, 39, 40, 41, 42, 43, 44, 45, 46, 47, 48, 49, 50] (by decide +kernel) (by decide +kernel)
set_option maxRecDepth 20000 in
theorem gX8_clientOf_X8_holds : GoodIn wsX8_clientOf (wsV RX8 118 RX8 yX8_holds wsX8_holds) := goodIn_app (goodIn_of _ (by decide +kernel)) ggX8_clientOf_X8_holds
theorem dX8_clientOf_0 : decode cX8_clientOf 0 = .ok (.aload_n 0, 1) := by decide +kernel
theorem dX8_clientOf_1 : decode cX8_clientOf 1 = .ok (.aload_n 0, 1) := by decide +kernel
theorem dX8_clientOf_2 : decode cX8_clientOf 2 = .ok (.iload_n 1, 1) := by decide +kernel
theorem dX8_clientOf_3 : decode cX8_clientOf 3 = .ok (.invokevirtual 151, 3) := by decide +kernel
theorem dX8_clientOf_6 : decode cX8_clientOf 6 = .ok (.ifCond .eq 7, 3) := by decide +kernel
theorem dX8_clientOf_9 : decode cX8_clientOf 9 = .ok (.iconst 0, 1) := by decide +kernel
theorem dX8_clientOf_10 : decode cX8_clientOf 10 = .ok (.goto 4, 3) := by decide +kernel
theorem dX8_clientOf_13 : decode cX8_clientOf 13 = .ok (.iconst 1, 1) := by decide +kernel
theorem dX8_clientOf_14 : decode cX8_clientOf 14 = .ok (.invokevirtual 118, 3) := by decide +kernel
theorem dX8_clientOf_17 : decode cX8_clientOf 17 = .ok (.ifCond .eq 12, 3) := by decide +kernel
theorem dX8_clientOf_20 : decode cX8_clientOf 20 = .ok (.aload_n 0, 1) := by decide +kernel
theorem dX8_clientOf_21 : decode cX8_clientOf 21 = .ok (.getfield 23, 3) := by decide +kernel
theorem dX8_clientOf_24 : decode cX8_clientOf 24 = .ok (.iload_n 1, 1) := by decide +kernel
theorem dX8_clientOf_25 : decode cX8_clientOf 25 = .ok (.iaload, 1) := by decide +kernel
theorem dX8_clientOf_26 : decode cX8_clientOf 26 = .ok (.goto 4, 3) := by decide +kernel
theorem dX8_clientOf_29 : decode cX8_clientOf 29 = .ok (.iconst 0, 1) := by decide +kernel
theorem dX8_clientOf_30 : decode cX8_clientOf 30 = .ok (.ireturn, 1) := by decide +kernel
set_option maxRecDepth 20000 in
theorem ggX8_isPlace_X8_isSentence : GoodIn wsX8_isPlace wsX8_isSentence := goodIn_r _ [6, 7, 8, 9, 5, 10, 16, 17, 18, 19, 20, 21, 22, 23, 24, 25, 26, 27, 28, 29, 30, 31, 32, 33, 34, 35, 36, 37, 38, 39, 40, 41, 42, 43, 44, 45, 46, 47, 48, 49, 50] (by decide +kernel) (by decide +kernel)
set_option maxRecDepth 20000 in
theorem gX8_isPlace_X8_isSentence : GoodIn wsX8_isPlace (wsV RX8 151 RX8 yX8_isSentence wsX8_isSentence) := goodIn_app (goodIn_of _ (by decide +kernel)) ggX8_isPlace_X8_isSentence
set_option maxRecDepth 20000 in
theorem ggX8_isPlace_X8_isIn : GoodIn wsX8_isPlace wsX8_isIn := goodIn_r _ [10] (by decide +kernel) (by decide +kernel)
set_option maxRecDepth 20000 in
theorem gX8_isPlace_X8_isIn : GoodIn wsX8_isPlace (va_wsS RX8 114 yX8_isIn wsX8_isIn) := goodIn_app (goodIn_of _ (by decide +kernel)) ggX8_isPlace_X8_isIn
set_option maxRecDepth 20000 in
theorem ggX8_isPlace_X8_holds : GoodIn wsX8_isPlace wsX8_holds := goodIn_r _ [14, 15, 16, 17, 18, 19, 20, 21, 22, 23, 24, 25, 26, 27, 28, 29, 30, 31, 32, 33, 34, 35, 36, 37, 38, 39, 40, 41, 42, 43, 44, 45, 46, 47, 48, 49, 50] (by decide +kernel) (by decide +kernel)
set_option maxRecDepth 20000 in
theorem gX8_isPlace_X8_holds : GoodIn wsX8_isPlace (wsV RX8 118 RX8 yX8_holds wsX8_holds) := goodIn_app (goodIn_of _ (by decide +kernel)) ggX8_isPlace_X8_holds
theorem dX8_isPlace_0 : decode cX8_isPlace 0 = .ok (.aload_n 0, 1) := by decide +kernel
theorem dX8_isPlace_1 : decode cX8_isPlace 1 = .ok (.iload_n 1, 1) := by decide +kernel
theorem dX8_isPlace_2 : decode cX8_isPlace 2 = .ok (.invokevirtual 151, 3) := by decide +kernel
theorem dX8_isPlace_5 : decode cX8_isPlace 5 = .ok (.istore_n 3, 1) := by decide +kernel
theorem dX8_isPlace_6 : decode cX8_isPlace 6 = .ok (.aload_n 0, 1) := by decide +kernel
theorem dX8_isPlace_7 : decode cX8_isPlace 7 = .ok (.iload_n 3, 1) := by decide +kernel
theorem dX8_isPlace_8 : decode cX8_isPlace 8 = .ok (.ifCond .eq 20, 3) := by decide +kernel
theorem dX8_isPlace_11 : decode cX8_isPlace 11 = .ok (.iload_n 2, 1) := by decide +kernel
theorem dX8_isPlace_12 : decode cX8_isPlace 12 = .ok (.aload_n 0, 1) := by decide +kernel
theorem dX8_isPlace_13 : decode cX8_isPlace 13 = .ok (.getfield 26, 3) := by decide +kernel
theorem dX8_isPlace_16 : decode cX8_isPlace 16 = .ok (.iload_n 1, 1) := by decide +kernel
theorem dX8_isPlace_17 : decode cX8_isPlace 17 = .ok (.iaload, 1) := by decide +kernel
theorem dX8_isPlace_18 : decode cX8_isPlace 18 = .ok (.invokestatic 114, 3) := by decide +kernel
theorem dX8_isPlace_21 : decode cX8_isPlace 21 = .ok (.ifCond .eq 7, 3) := by decide +kernel
theorem dX8_isPlace_24 : decode cX8_isPlace 24 = .ok (.iconst 0, 1) := by decide +kernel
theorem dX8_isPlace_25 : decode cX8_isPlace 25 = .ok (.goto 4, 3) := by decide +kernel
theorem dX8_isPlace_28 : decode cX8_isPlace 28 = .ok (.iconst 1, 1) := by decide +kernel
theorem dX8_isPlace_29 : decode cX8_isPlace 29 = .ok (.invokevirtual 118, 3) := by decide +kernel
theorem dX8_isPlace_32 : decode cX8_isPlace 32 = .ok (.ireturn, 1) := by decide +kernel
set_option maxRecDepth 20000 in
theorem ggX8_wordOf_X8_isPlace : GoodIn wsX8_wordOf wsX8_isPlace := goodIn_r _ [6, 7, 8, 9, 10, 5, 11, 12, 13, 14, 15, 16, 17, 18, 19, 20, 21, 22, 23, 24, 25, 26, 27, 28, 29, 30, 31, 32, 33, 34, 35, 36, 37, 38, 39, 40, 41, 42, 43, 44, 45, 46, 47, 48, 49, 50, 51, 52, 53, 54, 55] (by decide +kernel) (by decide +kernel)
set_option maxRecDepth 20000 in
theorem gX8_wordOf_X8_isPlace : GoodIn wsX8_wordOf (wsV RX8 201 RX8 yX8_isPlace wsX8_isPlace) := goodIn_app (goodIn_of _ (by decide +kernel)) ggX8_wordOf_X8_isPlace
theorem dX8_wordOf_0 : decode cX8_wordOf 0 = .ok (.aload_n 0, 1) := by decide +kernel
theorem dX8_wordOf_1 : decode cX8_wordOf 1 = .ok (.iload_n 1, 1) := by decide +kernel
theorem dX8_wordOf_2 : decode cX8_wordOf 2 = .ok (.iload_n 2, 1) := by decide +kernel
theorem dX8_wordOf_3 : decode cX8_wordOf 3 = .ok (.invokevirtual 201, 3) := by decide +kernel
theorem dX8_wordOf_6 : decode cX8_wordOf 6 = .ok (.ifCond .eq 17, 3) := by decide +kernel
theorem dX8_wordOf_9 : decode cX8_wordOf 9 = .ok (.aload_n 0, 1) := by decide +kernel
theorem dX8_wordOf_10 : decode cX8_wordOf 10 = .ok (.getfield 29, 3) := by decide +kernel
theorem dX8_wordOf_13 : decode cX8_wordOf 13 = .ok (.bipush 8, 2) := by decide +kernel
theorem dX8_wordOf_15 : decode cX8_wordOf 15 = .ok (.iload_n 1, 1) := by decide +kernel
theorem dX8_wordOf_16 : decode cX8_wordOf 16 = .ok (.imul, 1) := by decide +kernel
theorem dX8_wordOf_17 : decode cX8_wordOf 17 = .ok (.iload_n 2, 1) := by decide +kernel
theorem dX8_wordOf_18 : decode cX8_wordOf 18 = .ok (.iadd, 1) := by decide +kernel
theorem dX8_wordOf_19 : decode cX8_wordOf 19 = .ok (.iaload, 1) := by decide +kernel
theorem dX8_wordOf_20 : decode cX8_wordOf 20 = .ok (.goto 4, 3) := by decide +kernel
theorem dX8_wordOf_23 : decode cX8_wordOf 23 = .ok (.iconst 0, 1) := by decide +kernel
theorem dX8_wordOf_24 : decode cX8_wordOf 24 = .ok (.ireturn, 1) := by decide +kernel
set_option maxRecDepth 20000 in
theorem ggX8_becameOf_X8_isPlace : GoodIn wsX8_becameOf wsX8_isPlace := goodIn_r _ [6, 7, 8, 9, 10, 5, 11, 12, 13, 14, 15, 16, 17, 18, 19, 20, 21, 22, 23, 24, 25, 26, 27, 28, 29, 30, 31, 32, 33, 34, 35, 36, 37, 38, 39, 40, 41, 42, 43, 44, 45, 46, 47, 48, 49, 50, 51, 52, 53, 54, 55] (by decide +kernel) (by decide +kernel)
set_option maxRecDepth 20000 in
theorem gX8_becameOf_X8_isPlace : GoodIn wsX8_becameOf (wsV RX8 201 RX8 yX8_isPlace wsX8_isPlace) := goodIn_app (goodIn_of _ (by decide +kernel)) ggX8_becameOf_X8_isPlace
theorem dX8_becameOf_0 : decode cX8_becameOf 0 = .ok (.aload_n 0, 1) := by decide +kernel
theorem dX8_becameOf_1 : decode cX8_becameOf 1 = .ok (.iload_n 1, 1) := by decide +kernel
theorem dX8_becameOf_2 : decode cX8_becameOf 2 = .ok (.iload_n 2, 1) := by decide +kernel
theorem dX8_becameOf_3 : decode cX8_becameOf 3 = .ok (.invokevirtual 201, 3) := by decide +kernel
theorem dX8_becameOf_6 : decode cX8_becameOf 6 = .ok (.ifCond .eq 17, 3) := by decide +kernel
theorem dX8_becameOf_9 : decode cX8_becameOf 9 = .ok (.aload_n 0, 1) := by decide +kernel
theorem dX8_becameOf_10 : decode cX8_becameOf 10 = .ok (.getfield 32, 3) := by decide +kernel
theorem dX8_becameOf_13 : decode cX8_becameOf 13 = .ok (.bipush 8, 2) := by decide +kernel
theorem dX8_becameOf_15 : decode cX8_becameOf 15 = .ok (.iload_n 1, 1) := by decide +kernel
theorem dX8_becameOf_16 : decode cX8_becameOf 16 = .ok (.imul, 1) := by decide +kernel
theorem dX8_becameOf_17 : decode cX8_becameOf 17 = .ok (.iload_n 2, 1) := by decide +kernel
theorem dX8_becameOf_18 : decode cX8_becameOf 18 = .ok (.iadd, 1) := by decide +kernel
theorem dX8_becameOf_19 : decode cX8_becameOf 19 = .ok (.iaload, 1) := by decide +kernel
theorem dX8_becameOf_20 : decode cX8_becameOf 20 = .ok (.goto 4, 3) := by decide +kernel
theorem dX8_becameOf_23 : decode cX8_becameOf 23 = .ok (.iconst 0, 1) := by decide +kernel
theorem dX8_becameOf_24 : decode cX8_becameOf 24 = .ok (.ireturn, 1) := by decide +kernel
set_option maxRecDepth 20000 in
theorem ggX8_isDue_X8_isSentence : GoodIn wsX8_isDue wsX8_isSentence := goodIn_r _ [5, 6, 7, 8, 4, 9, 35, 36, 37, 38, 39, 40, 41, 42, 43, 44, 45, 46, 47, 48, 49, 50, 51, 52, 53, 54, 55, 56, 57, 58, 59, 60, 61, 62, 63, 64, 65, 66, 67, 68, 69] (by decide +kernel) (by decide +kernel)
set_option maxRecDepth 20000 in
theorem gX8_isDue_X8_isSentence : GoodIn wsX8_isDue (wsV RX8 151 RX8 yX8_isSentence wsX8_isSentence) := goodIn_app (goodIn_of _ (by decide +kernel)) ggX8_isDue_X8_isSentence
set_option maxRecDepth 20000 in
theorem ggX8_isDue_X8_holds : GoodIn wsX8_isDue wsX8_holds := goodIn_r _ [13, 14, 35, 36, 37, 38, 39, 40, 41, 42, 43, 44, 45, 46, 47, 48, 49, 50, 51, 52, 53, 54, 55, 56, 57, 58, 59, 60, 61, 62, 63, 64, 65, 66, 67, 68, 69] (by decide +kernel) (by decide +kernel)
set_option maxRecDepth 20000 in
theorem gX8_isDue_X8_holds : GoodIn wsX8_isDue (wsV RX8 118 RX8 yX8_holds wsX8_holds) := goodIn_app (goodIn_of _ (by decide +kernel)) ggX8_isDue_X8_holds
set_option maxRecDepth 20000 in
theorem ggX8_isDue_X8_isDueNow : GoodIn wsX8_isDue wsX8_isDueNow := goodIn_r _ [18, 19, 20, 21, 22, 23, 24, 25, 4, 26, 27, 28, 29, 30, 31, 32, 33, 34, 35, 36, 37, 38, 39, 40, 41, 42, 43, 44, 45, 46, 47, 48, 49, 50, 51, 52, 53, 54, 55, 56, 57, 58, 59, 60, 61, 62, 63, 64, 65, 66, 67, 68, 69] (by decide +kernel) (by decide +kernel)
set_option maxRecDepth 20000 in
theorem gX8_isDue_X8_isDueNow : GoodIn wsX8_isDue (wsV RX8 107 RX8 yX8_isDueNow wsX8_isDueNow) := goodIn_app (goodIn_of _ (by decide +kernel)) ggX8_isDue_X8_isDueNow
theorem dX8_isDue_0 : decode cX8_isDue 0 = .ok (.aload_n 0, 1) := by decide +kernel
theorem dX8_isDue_1 : decode cX8_isDue 1 = .ok (.aload_n 0, 1) := by decide +kernel
theorem dX8_isDue_2 : decode cX8_isDue 2 = .ok (.iload_n 1, 1) := by decide +kernel
theorem dX8_isDue_3 : decode cX8_isDue 3 = .ok (.invokevirtual 151, 3) := by decide +kernel
theorem dX8_isDue_6 : decode cX8_isDue 6 = .ok (.ifCond .eq 7, 3) := by decide +kernel
theorem dX8_isDue_9 : decode cX8_isDue 9 = .ok (.iconst 0, 1) := by decide +kernel
theorem dX8_isDue_10 : decode cX8_isDue 10 = .ok (.goto 4, 3) := by decide +kernel
theorem dX8_isDue_13 : decode cX8_isDue 13 = .ok (.iconst 1, 1) := by decide +kernel
theorem dX8_isDue_14 : decode cX8_isDue 14 = .ok (.invokevirtual 118, 3) := by decide +kernel
theorem dX8_isDue_17 : decode cX8_isDue 17 = .ok (.ifCond .eq 15, 3) := by decide +kernel
theorem dX8_isDue_20 : decode cX8_isDue 20 = .ok (.aload_n 0, 1) := by decide +kernel
theorem dX8_isDue_21 : decode cX8_isDue 21 = .ok (.iload_n 1, 1) := by decide +kernel
theorem dX8_isDue_22 : decode cX8_isDue 22 = .ok (.invokevirtual 107, 3) := by decide +kernel
theorem dX8_isDue_25 : decode cX8_isDue 25 = .ok (.ifCond .eq 7, 3) := by decide +kernel
theorem dX8_isDue_28 : decode cX8_isDue 28 = .ok (.iconst 1, 1) := by decide +kernel
theorem dX8_isDue_29 : decode cX8_isDue 29 = .ok (.goto 4, 3) := by decide +kernel
theorem dX8_isDue_32 : decode cX8_isDue 32 = .ok (.iconst 0, 1) := by decide +kernel
theorem dX8_isDue_33 : decode cX8_isDue 33 = .ok (.ireturn, 1) := by decide +kernel
set_option maxRecDepth 20000 in
theorem ggX8_due_X8_dueNow : GoodIn wsX8_due wsX8_dueNow := goodIn_r _ [6, 7, 8, 9, 10, 11, 12, 13, 14, 15, 16, 17, 18, 19, 20, 21, 22, 23, 24, 25, 26, 27, 28, 29, 30, 31, 32, 33, 34, 35, 36, 37, 38, 39, 40, 41, 42, 43] (by decide +kernel) (by decide +kernel)
set_option maxRecDepth 20000 in
theorem gX8_due_X8_dueNow : GoodIn wsX8_due (wsV RX8 127 RX8 yX8_dueNow wsX8_dueNow) := goodIn_app (goodIn_of _ (by decide +kernel)) ggX8_due_X8_dueNow
theorem dX8_due_0 : decode cX8_due 0 = .ok (.aload_n 0, 1) := by decide +kernel
theorem dX8_due_1 : decode cX8_due 1 = .ok (.iconst 0, 1) := by decide +kernel
theorem dX8_due_2 : decode cX8_due 2 = .ok (.putfield 90, 3) := by decide +kernel
theorem dX8_due_5 : decode cX8_due 5 = .ok (.aload_n 0, 1) := by decide +kernel
theorem dX8_due_6 : decode cX8_due 6 = .ok (.invokevirtual 127, 3) := by decide +kernel
theorem dX8_due_9 : decode cX8_due 9 = .ok (.ireturn, 1) := by decide +kernel
set_option maxRecDepth 20000 in
theorem ggX8_dueAt_X8_dueNow : GoodIn wsX8_dueAt wsX8_dueNow := goodIn_r _ [7, 1, 2, 16, 17, 18, 19, 20, 21, 22, 23, 24, 25, 26, 27, 28, 29, 30, 31, 32, 33, 34, 35, 36, 37, 38, 39, 40, 41, 42, 43, 44, 45, 46, 47, 48, 49, 50] (by decide +kernel) (by decide +kernel)
set_option maxRecDepth 20000 in
theorem gX8_dueAt_X8_dueNow : GoodIn wsX8_dueAt (wsV RX8 127 RX8 yX8_dueNow wsX8_dueNow) := goodIn_app (goodIn_of _ (by decide +kernel)) ggX8_dueAt_X8_dueNow
set_option maxRecDepth 20000 in
theorem ggX8_dueAt_X8_isIn : GoodIn wsX8_dueAt wsX8_isIn := goodIn_r _ [10] (by decide +kernel) (by decide +kernel)
set_option maxRecDepth 20000 in
theorem gX8_dueAt_X8_isIn : GoodIn wsX8_dueAt (va_wsS RX8 114 yX8_isIn wsX8_isIn) := goodIn_app (goodIn_of _ (by decide +kernel)) ggX8_dueAt_X8_isIn
set_option maxRecDepth 20000 in
theorem ggX8_dueAt_X8_holds : GoodIn wsX8_dueAt wsX8_holds := goodIn_r _ [14, 15, 16, 17, 18, 19, 20, 21, 22, 23, 24, 25, 26, 27, 28, 29, 30, 31, 32, 33, 34, 35, 36, 37, 38, 39, 40, 41, 42, 43, 44, 45, 46, 47, 48, 49, 50] (by decide +kernel) (by decide +kernel)
set_option maxRecDepth 20000 in
theorem gX8_dueAt_X8_holds : GoodIn wsX8_dueAt (wsV RX8 118 RX8 yX8_holds wsX8_holds) := goodIn_app (goodIn_of _ (by decide +kernel)) ggX8_dueAt_X8_holds
theorem dX8_dueAt_0 : decode cX8_dueAt 0 = .ok (.aload_n 0, 1) := by decide +kernel
theorem dX8_dueAt_1 : decode cX8_dueAt 1 = .ok (.iload_n 1, 1) := by decide +kernel
theorem dX8_dueAt_2 : decode cX8_dueAt 2 = .ok (.aload_n 0, 1) := by decide +kernel
theorem dX8_dueAt_3 : decode cX8_dueAt 3 = .ok (.invokevirtual 127, 3) := by decide +kernel
theorem dX8_dueAt_6 : decode cX8_dueAt 6 = .ok (.invokestatic 114, 3) := by decide +kernel
theorem dX8_dueAt_9 : decode cX8_dueAt 9 = .ok (.ifCond .eq 7, 3) := by decide +kernel
theorem dX8_dueAt_12 : decode cX8_dueAt 12 = .ok (.iconst 0, 1) := by decide +kernel
theorem dX8_dueAt_13 : decode cX8_dueAt 13 = .ok (.goto 4, 3) := by decide +kernel
theorem dX8_dueAt_16 : decode cX8_dueAt 16 = .ok (.iconst 1, 1) := by decide +kernel
theorem dX8_dueAt_17 : decode cX8_dueAt 17 = .ok (.invokevirtual 118, 3) := by decide +kernel
theorem dX8_dueAt_20 : decode cX8_dueAt 20 = .ok (.ifCond .ne 5, 3) := by decide +kernel
theorem dX8_dueAt_23 : decode cX8_dueAt 23 = .ok (.iconst 0, 1) := by decide +kernel
theorem dX8_dueAt_24 : decode cX8_dueAt 24 = .ok (.ireturn, 1) := by decide +kernel
theorem dX8_dueAt_25 : decode cX8_dueAt 25 = .ok (.iconst (-1), 1) := by decide +kernel
theorem dX8_dueAt_26 : decode cX8_dueAt 26 = .ok (.istore_n 2, 1) := by decide +kernel
theorem dX8_dueAt_27 : decode cX8_dueAt 27 = .ok (.iconst 0, 1) := by decide +kernel
theorem dX8_dueAt_28 : decode cX8_dueAt 28 = .ok (.istore_n 3, 1) := by decide +kernel
theorem dX8_dueAt_29 : decode cX8_dueAt 29 = .ok (.iload_n 3, 1) := by decide +kernel
theorem dX8_dueAt_30 : decode cX8_dueAt 30 = .ok (.aload_n 0, 1) := by decide +kernel
theorem dX8_dueAt_31 : decode cX8_dueAt 31 = .ok (.getfield 104, 3) := by decide +kernel
theorem dX8_dueAt_34 : decode cX8_dueAt 34 = .ok (.if_icmp .ge 87, 3) := by decide +kernel
theorem dX8_dueAt_37 : decode cX8_dueAt 37 = .ok (.iconst 0, 1) := by decide +kernel
theorem dX8_dueAt_38 : decode cX8_dueAt 38 = .ok (.istore 4, 2) := by decide +kernel
theorem dX8_dueAt_40 : decode cX8_dueAt 40 = .ok (.iconst 0, 1) := by decide +kernel
theorem dX8_dueAt_41 : decode cX8_dueAt 41 = .ok (.istore 5, 2) := by decide +kernel
theorem dX8_dueAt_43 : decode cX8_dueAt 43 = .ok (.iload 5, 2) := by decide +kernel
theorem dX8_dueAt_45 : decode cX8_dueAt 45 = .ok (.aload_n 0, 1) := by decide +kernel
theorem dX8_dueAt_46 : decode cX8_dueAt 46 = .ok (.getfield 104, 3) := by decide +kernel
theorem dX8_dueAt_49 : decode cX8_dueAt 49 = .ok (.if_icmp .ge 45, 3) := by decide +kernel
theorem dX8_dueAt_52 : decode cX8_dueAt 52 = .ok (.iload 4, 2) := by decide +kernel
theorem dX8_dueAt_54 : decode cX8_dueAt 54 = .ok (.aload_n 0, 1) := by decide +kernel
theorem dX8_dueAt_55 : decode cX8_dueAt 55 = .ok (.getfield 75, 3) := by decide +kernel
theorem dX8_dueAt_58 : decode cX8_dueAt 58 = .ok (.iload 5, 2) := by decide +kernel
theorem dX8_dueAt_60 : decode cX8_dueAt 60 = .ok (.iaload, 1) := by decide +kernel
theorem dX8_dueAt_61 : decode cX8_dueAt 61 = .ok (.ifCond .le 23, 3) := by decide +kernel
theorem dX8_dueAt_64 : decode cX8_dueAt 64 = .ok (.aload_n 0, 1) := by decide +kernel
theorem dX8_dueAt_65 : decode cX8_dueAt 65 = .ok (.getfield 75, 3) := by decide +kernel
theorem dX8_dueAt_68 : decode cX8_dueAt 68 = .ok (.iload 5, 2) := by decide +kernel
theorem dX8_dueAt_70 : decode cX8_dueAt 70 = .ok (.iaload, 1) := by decide +kernel
theorem dX8_dueAt_71 : decode cX8_dueAt 71 = .ok (.aload_n 0, 1) := by decide +kernel
theorem dX8_dueAt_72 : decode cX8_dueAt 72 = .ok (.getfield 75, 3) := by decide +kernel
theorem dX8_dueAt_75 : decode cX8_dueAt 75 = .ok (.iload_n 3, 1) := by decide +kernel
theorem dX8_dueAt_76 : decode cX8_dueAt 76 = .ok (.iaload, 1) := by decide +kernel
theorem dX8_dueAt_77 : decode cX8_dueAt 77 = .ok (.if_icmp .ge 7, 3) := by decide +kernel
theorem dX8_dueAt_80 : decode cX8_dueAt 80 = .ok (.iconst 1, 1) := by decide +kernel
theorem dX8_dueAt_81 : decode cX8_dueAt 81 = .ok (.goto 4, 3) := by decide +kernel
theorem dX8_dueAt_84 : decode cX8_dueAt 84 = .ok (.iconst 0, 1) := by decide +kernel
theorem dX8_dueAt_85 : decode cX8_dueAt 85 = .ok (.iadd, 1) := by decide +kernel
theorem dX8_dueAt_86 : decode cX8_dueAt 86 = .ok (.istore 4, 2) := by decide +kernel
theorem dX8_dueAt_88 : decode cX8_dueAt 88 = .ok (.iinc 5 1, 3) := by decide +kernel
theorem dX8_dueAt_91 : decode cX8_dueAt 91 = .ok (.goto (-48), 3) := by decide +kernel
theorem dX8_dueAt_94 : decode cX8_dueAt 94 = .ok (.aload_n 0, 1) := by decide +kernel
theorem dX8_dueAt_95 : decode cX8_dueAt 95 = .ok (.getfield 75, 3) := by decide +kernel
theorem dX8_dueAt_98 : decode cX8_dueAt 98 = .ok (.iload_n 3, 1) := by decide +kernel
theorem dX8_dueAt_99 : decode cX8_dueAt 99 = .ok (.iaload, 1) := by decide +kernel
theorem dX8_dueAt_100 : decode cX8_dueAt 100 = .ok (.ifCond .le 13, 3) := by decide +kernel
theorem dX8_dueAt_103 : decode cX8_dueAt 103 = .ok (.iload 4, 2) := by decide +kernel
theorem dX8_dueAt_105 : decode cX8_dueAt 105 = .ok (.iload_n 1, 1) := by decide +kernel
theorem dX8_dueAt_106 : decode cX8_dueAt 106 = .ok (.if_icmp .ne 7, 3) := by decide +kernel
theorem dX8_dueAt_109 : decode cX8_dueAt 109 = .ok (.iload_n 3, 1) := by decide +kernel
theorem dX8_dueAt_110 : decode cX8_dueAt 110 = .ok (.goto 4, 3) := by decide +kernel
theorem dX8_dueAt_113 : decode cX8_dueAt 113 = .ok (.iload_n 2, 1) := by decide +kernel
theorem dX8_dueAt_114 : decode cX8_dueAt 114 = .ok (.istore_n 2, 1) := by decide +kernel
theorem dX8_dueAt_115 : decode cX8_dueAt 115 = .ok (.iinc 3 1, 3) := by decide +kernel
theorem dX8_dueAt_118 : decode cX8_dueAt 118 = .ok (.goto (-89), 3) := by decide +kernel
theorem dX8_dueAt_121 : decode cX8_dueAt 121 = .ok (.iload_n 2, 1) := by decide +kernel
theorem dX8_dueAt_122 : decode cX8_dueAt 122 = .ok (.ireturn, 1) := by decide +kernel
set_option maxRecDepth 20000 in
theorem ggX8_mend_X8_isSentence : GoodIn wsX8_mend wsX8_isSentence := goodIn_r _ [12, 13, 14, 15, 11, 16, 44, 45, 46, 47, 48, 49, 50, 51, 52, 53, 54, 55, 56, 57, 58, 59, 60, 61, 62, 63, 64, 65, 66, 67, 68, 69, 70, 71, 72, 73, 74, 75, 76, 77, 78] (by decide +kernel) (by decide +kernel)
set_option maxRecDepth 20000 in
theorem gX8_mend_X8_isSentence : GoodIn wsX8_mend (wsV RX8 151 RX8 yX8_isSentence wsX8_isSentence) := goodIn_app (goodIn_of _ (by decide +kernel)) ggX8_mend_X8_isSentence
set_option maxRecDepth 20000 in
theorem ggX8_mend_X8_isDueNow : GoodIn wsX8_mend wsX8_isDueNow := goodIn_r _ [20, 2, 1, 3, 4, 21, 22, 23, 11, 24, 25, 26, 27, 28, 29, 30, 31, 32, 44, 45, 46, 47, 48, 49, 50, 51, 52, 53, 54, 55, 56, 57, 58, 59, 60, 61, 62, 63, 64, 65, 66, 67, 68, 69, 70, 71, 72, 73, 74, 75, 76, 77, 78] (by decide +kernel) (by decide +kernel)
set_option maxRecDepth 20000 in
theorem gX8_mend_X8_isDueNow : GoodIn wsX8_mend (wsV RX8 107 RX8 yX8_isDueNow wsX8_isDueNow) := goodIn_app (goodIn_of _ (by decide +kernel)) ggX8_mend_X8_isDueNow
set_option maxRecDepth 20000 in
theorem ggX8_mend_X8_holds : GoodIn wsX8_mend wsX8_holds := goodIn_r _ [36, 37, 44, 45, 46, 47, 48, 49, 50, 51, 52, 53, 54, 55, 56, 57, 58, 59, 60, 61, 62, 63, 64, 65, 66, 67, 68, 69, 70, 71, 72, 73, 74, 75, 76, 77, 78] (by decide +kernel) (by decide +kernel)
set_option maxRecDepth 20000 in
theorem gX8_mend_X8_holds : GoodIn wsX8_mend (wsV RX8 118 RX8 yX8_holds wsX8_holds) := goodIn_app (goodIn_of _ (by decide +kernel)) ggX8_mend_X8_holds
set_option maxRecDepth 20000 in
theorem ggX8_mend_X8_isAgainst : GoodIn wsX8_mend wsX8_isAgainst := goodIn_r _ [24, 25, 26, 27, 11, 28, 29, 30, 31, 32, 44, 45, 46, 47, 48, 49, 50, 51, 52, 53, 54, 55, 56, 57, 58, 59, 60, 61, 62, 63, 64, 65, 66, 67, 68, 69, 70, 71, 72, 73, 74, 75, 76, 77, 78] (by decide +kernel) (by decide +kernel)
set_option maxRecDepth 20000 in
theorem gX8_mend_X8_isAgainst : GoodIn wsX8_mend (wsV RX8 100 RX8 yX8_isAgainst wsX8_isAgainst) := goodIn_app (goodIn_of _ (by decide +kernel)) ggX8_mend_X8_isAgainst
set_option maxRecDepth 20000 in
theorem ggX8_mend_X8_rulingOf : GoodIn wsX8_mend wsX8_rulingOf := goodIn_r _ [28, 29, 30, 31, 11, 32, 44, 45, 46, 47, 48, 49, 50, 51, 52, 53, 54, 55, 56, 57, 58, 59, 60, 61, 62, 63, 64, 65, 66, 67, 68, 69, 70, 71, 72, 73, 74, 75, 76, 77, 78] (by decide +kernel) (by decide +kernel)
set_option maxRecDepth 20000 in
theorem gX8_mend_X8_rulingOf : GoodIn wsX8_mend (wsV RX8 97 RX8 yX8_rulingOf wsX8_rulingOf) := goodIn_app (goodIn_of _ (by decide +kernel)) ggX8_mend_X8_rulingOf
set_option maxRecDepth 20000 in
theorem ggX8_mend_X8_at : GoodIn wsX8_mend wsX8_at := goodIn_r _ [32] (by decide +kernel) (by decide +kernel)
set_option maxRecDepth 20000 in
theorem gX8_mend_X8_at : GoodIn wsX8_mend (va_wsS RX8 93 yX8_at wsX8_at) := goodIn_app (goodIn_of _ (by decide +kernel)) ggX8_mend_X8_at
set_option maxRecDepth 20000 in
theorem ggX8_mend_X8_lists : GoodIn wsX8_mend wsX8_lists := goodIn_r _ [41, 13, 42, 43, 17, 18, 19, 11, 20, 2, 1, 3, 4, 21, 22, 23, 24, 25, 26, 27, 28, 29, 30, 31, 32, 44, 45, 46, 47, 48, 49, 50, 51, 52, 53, 54, 55, 56, 57, 58, 59, 60, 61, 62, 63, 64, 65, 66, 67, 68, 69, 70, 71, 72, 73, 74, 75, 76, 77, 78] (by decide +kernel) (by decide +kernel)
set_option maxRecDepth 20000 in
theorem gX8_mend_X8_lists : GoodIn wsX8_mend (wsV RX8 124 RX8 yX8_lists wsX8_lists) := goodIn_app (goodIn_of _ (by decide +kernel)) ggX8_mend_X8_lists
theorem dX8_mend_0 : decode cX8_mend 0 = .ok (.aload_n 0, 1) := by decide +kernel
theorem dX8_mend_1 : decode cX8_mend 1 = .ok (.iload_n 1, 1) := by decide +kernel
theorem dX8_mend_2 : decode cX8_mend 2 = .ok (.invokevirtual 151, 3) := by decide +kernel
theorem dX8_mend_5 : decode cX8_mend 5 = .ok (.istore_n 2, 1) := by decide +kernel
theorem dX8_mend_6 : decode cX8_mend 6 = .ok (.aload_n 0, 1) := by decide +kernel
theorem dX8_mend_7 : decode cX8_mend 7 = .ok (.iload_n 2, 1) := by decide +kernel
theorem dX8_mend_8 : decode cX8_mend 8 = .ok (.ifCond .ne 7, 3) := by decide +kernel
theorem dX8_mend_11 : decode cX8_mend 11 = .ok (.iconst 1, 1) := by decide +kernel
theorem dX8_mend_12 : decode cX8_mend 12 = .ok (.goto 16, 3) := by decide +kernel
theorem dX8_mend_15 : decode cX8_mend 15 = .ok (.aload_n 0, 1) := by decide +kernel
theorem dX8_mend_16 : decode cX8_mend 16 = .ok (.iload_n 1, 1) := by decide +kernel
theorem dX8_mend_17 : decode cX8_mend 17 = .ok (.invokevirtual 107, 3) := by decide +kernel
theorem dX8_mend_20 : decode cX8_mend 20 = .ok (.ifCond .eq 7, 3) := by decide +kernel
theorem dX8_mend_23 : decode cX8_mend 23 = .ok (.iconst 0, 1) := by decide +kernel
theorem dX8_mend_24 : decode cX8_mend 24 = .ok (.goto 4, 3) := by decide +kernel
theorem dX8_mend_27 : decode cX8_mend 27 = .ok (.iconst 2, 1) := by decide +kernel
theorem dX8_mend_28 : decode cX8_mend 28 = .ok (.invokevirtual 118, 3) := by decide +kernel
theorem dX8_mend_31 : decode cX8_mend 31 = .ok (.ifCond .ne 5, 3) := by decide +kernel
theorem dX8_mend_34 : decode cX8_mend 34 = .ok (.iconst 0, 1) := by decide +kernel
theorem dX8_mend_35 : decode cX8_mend 35 = .ok (.ireturn, 1) := by decide +kernel
theorem dX8_mend_36 : decode cX8_mend 36 = .ok (.aload_n 0, 1) := by decide +kernel
theorem dX8_mend_37 : decode cX8_mend 37 = .ok (.getfield 23, 3) := by decide +kernel
theorem dX8_mend_40 : decode cX8_mend 40 = .ok (.iload_n 1, 1) := by decide +kernel
theorem dX8_mend_41 : decode cX8_mend 41 = .ok (.iaload, 1) := by decide +kernel
theorem dX8_mend_42 : decode cX8_mend 42 = .ok (.istore_n 3, 1) := by decide +kernel
theorem dX8_mend_43 : decode cX8_mend 43 = .ok (.iconst 0, 1) := by decide +kernel
theorem dX8_mend_44 : decode cX8_mend 44 = .ok (.istore 4, 2) := by decide +kernel
theorem dX8_mend_46 : decode cX8_mend 46 = .ok (.bipush 8, 2) := by decide +kernel
theorem dX8_mend_48 : decode cX8_mend 48 = .ok (.iload_n 1, 1) := by decide +kernel
theorem dX8_mend_49 : decode cX8_mend 49 = .ok (.imul, 1) := by decide +kernel
theorem dX8_mend_50 : decode cX8_mend 50 = .ok (.istore 5, 2) := by decide +kernel
theorem dX8_mend_52 : decode cX8_mend 52 = .ok (.iload 5, 2) := by decide +kernel
theorem dX8_mend_54 : decode cX8_mend 54 = .ok (.bipush 8, 2) := by decide +kernel
theorem dX8_mend_56 : decode cX8_mend 56 = .ok (.iload_n 1, 1) := by decide +kernel
theorem dX8_mend_57 : decode cX8_mend 57 = .ok (.imul, 1) := by decide +kernel
theorem dX8_mend_58 : decode cX8_mend 58 = .ok (.aload_n 0, 1) := by decide +kernel
theorem dX8_mend_59 : decode cX8_mend 59 = .ok (.getfield 26, 3) := by decide +kernel
theorem dX8_mend_62 : decode cX8_mend 62 = .ok (.iload_n 1, 1) := by decide +kernel
theorem dX8_mend_63 : decode cX8_mend 63 = .ok (.iaload, 1) := by decide +kernel
theorem dX8_mend_64 : decode cX8_mend 64 = .ok (.iadd, 1) := by decide +kernel
theorem dX8_mend_65 : decode cX8_mend 65 = .ok (.if_icmp .ge 93, 3) := by decide +kernel
theorem dX8_mend_68 : decode cX8_mend 68 = .ok (.aload_n 0, 1) := by decide +kernel
theorem dX8_mend_69 : decode cX8_mend 69 = .ok (.iload_n 3, 1) := by decide +kernel
theorem dX8_mend_70 : decode cX8_mend 70 = .ok (.aload_n 0, 1) := by decide +kernel
theorem dX8_mend_71 : decode cX8_mend 71 = .ok (.getfield 29, 3) := by decide +kernel
theorem dX8_mend_74 : decode cX8_mend 74 = .ok (.iload 5, 2) := by decide +kernel
theorem dX8_mend_76 : decode cX8_mend 76 = .ok (.iaload, 1) := by decide +kernel
theorem dX8_mend_77 : decode cX8_mend 77 = .ok (.aload_n 0, 1) := by decide +kernel
theorem dX8_mend_78 : decode cX8_mend 78 = .ok (.getfield 32, 3) := by decide +kernel
theorem dX8_mend_81 : decode cX8_mend 81 = .ok (.iload 5, 2) := by decide +kernel
theorem dX8_mend_83 : decode cX8_mend 83 = .ok (.iaload, 1) := by decide +kernel
theorem dX8_mend_84 : decode cX8_mend 84 = .ok (.invokevirtual 100, 3) := by decide +kernel
theorem dX8_mend_87 : decode cX8_mend 87 = .ok (.ifCond .eq 65, 3) := by decide +kernel
theorem dX8_mend_90 : decode cX8_mend 90 = .ok (.aload_n 0, 1) := by decide +kernel
theorem dX8_mend_91 : decode cX8_mend 91 = .ok (.getfield 32, 3) := by decide +kernel
theorem dX8_mend_94 : decode cX8_mend 94 = .ok (.iload 5, 2) := by decide +kernel
theorem dX8_mend_96 : decode cX8_mend 96 = .ok (.aload_n 0, 1) := by decide +kernel
theorem dX8_mend_97 : decode cX8_mend 97 = .ok (.iload_n 3, 1) := by decide +kernel
theorem dX8_mend_98 : decode cX8_mend 98 = .ok (.aload_n 0, 1) := by decide +kernel
theorem dX8_mend_99 : decode cX8_mend 99 = .ok (.getfield 29, 3) := by decide +kernel
theorem dX8_mend_102 : decode cX8_mend 102 = .ok (.iload 5, 2) := by decide +kernel
theorem dX8_mend_104 : decode cX8_mend 104 = .ok (.iaload, 1) := by decide +kernel
theorem dX8_mend_105 : decode cX8_mend 105 = .ok (.invokevirtual 97, 3) := by decide +kernel
theorem dX8_mend_108 : decode cX8_mend 108 = .ok (.iastore, 1) := by decide +kernel
theorem dX8_mend_109 : decode cX8_mend 109 = .ok (.aload_n 0, 1) := by decide +kernel
theorem dX8_mend_110 : decode cX8_mend 110 = .ok (.getfield 78, 3) := by decide +kernel
theorem dX8_mend_113 : decode cX8_mend 113 = .ok (.iload_n 3, 1) := by decide +kernel
theorem dX8_mend_114 : decode cX8_mend 114 = .ok (.dup2, 1) := by decide +kernel
theorem dX8_mend_115 : decode cX8_mend 115 = .ok (.iaload, 1) := by decide +kernel
theorem dX8_mend_116 : decode cX8_mend 116 = .ok (.aload_n 0, 1) := by decide +kernel
theorem dX8_mend_117 : decode cX8_mend 117 = .ok (.getfield 72, 3) := by decide +kernel
theorem dX8_mend_120 : decode cX8_mend 120 = .ok (.iload_n 3, 1) := by decide +kernel
theorem dX8_mend_121 : decode cX8_mend 121 = .ok (.aload_n 0, 1) := by decide +kernel
theorem dX8_mend_122 : decode cX8_mend 122 = .ok (.getfield 29, 3) := by decide +kernel
theorem dX8_mend_125 : decode cX8_mend 125 = .ok (.iload 5, 2) := by decide +kernel
theorem dX8_mend_127 : decode cX8_mend 127 = .ok (.iaload, 1) := by decide +kernel
theorem dX8_mend_128 : decode cX8_mend 128 = .ok (.invokestatic 93, 3) := by decide +kernel
theorem dX8_mend_131 : decode cX8_mend 131 = .ok (.iaload, 1) := by decide +kernel
theorem dX8_mend_132 : decode cX8_mend 132 = .ok (.aload_n 0, 1) := by decide +kernel
theorem dX8_mend_133 : decode cX8_mend 133 = .ok (.getfield 35, 3) := by decide +kernel
theorem dX8_mend_136 : decode cX8_mend 136 = .ok (.iload_n 1, 1) := by decide +kernel
theorem dX8_mend_137 : decode cX8_mend 137 = .ok (.iaload, 1) := by decide +kernel
theorem dX8_mend_138 : decode cX8_mend 138 = .ok (.if_icmp .ge 8, 3) := by decide +kernel
theorem dX8_mend_141 : decode cX8_mend 141 = .ok (.bipush (-5), 2) := by decide +kernel
theorem dX8_mend_143 : decode cX8_mend 143 = .ok (.goto 4, 3) := by decide +kernel
theorem dX8_mend_146 : decode cX8_mend 146 = .ok (.iconst 3, 1) := by decide +kernel
theorem dX8_mend_147 : decode cX8_mend 147 = .ok (.iadd, 1) := by decide +kernel
theorem dX8_mend_148 : decode cX8_mend 148 = .ok (.iastore, 1) := by decide +kernel
theorem dX8_mend_149 : decode cX8_mend 149 = .ok (.iinc 4 1, 3) := by decide +kernel
theorem dX8_mend_152 : decode cX8_mend 152 = .ok (.iinc 5 1, 3) := by decide +kernel
theorem dX8_mend_155 : decode cX8_mend 155 = .ok (.goto (-103), 3) := by decide +kernel
theorem dX8_mend_158 : decode cX8_mend 158 = .ok (.aload_n 0, 1) := by decide +kernel
theorem dX8_mend_159 : decode cX8_mend 159 = .ok (.invokevirtual 124, 3) := by decide +kernel
theorem dX8_mend_162 : decode cX8_mend 162 = .ok (.iload 4, 2) := by decide +kernel
theorem dX8_mend_164 : decode cX8_mend 164 = .ok (.ireturn, 1) := by decide +kernel
set_option maxRecDepth 20000 in
theorem ggX8_setPrices_X8_isIn : GoodIn wsX8_setPrices wsX8_isIn := goodIn_r _ [7] (by decide +kernel) (by decide +kernel)
set_option maxRecDepth 20000 in
theorem gX8_setPrices_X8_isIn : GoodIn wsX8_setPrices (va_wsS RX8 114 yX8_isIn wsX8_isIn) := goodIn_app (goodIn_of _ (by decide +kernel)) ggX8_setPrices_X8_isIn
set_option maxRecDepth 20000 in
theorem ggX8_setPrices_X8_holds : GoodIn wsX8_setPrices wsX8_holds := goodIn_r _ [11, 12, 13, 14, 15, 16, 17, 18, 19, 20, 21, 22, 23, 24, 25, 26, 27, 28, 29, 30, 31, 32, 33, 34, 35, 36, 37, 38, 39, 40, 41, 42, 43, 44, 45, 46, 47] (by decide +kernel) (by decide +kernel)
set_option maxRecDepth 20000 in
theorem gX8_setPrices_X8_holds : GoodIn wsX8_setPrices (wsV RX8 118 RX8 yX8_holds wsX8_holds) := goodIn_app (goodIn_of _ (by decide +kernel)) ggX8_setPrices_X8_holds
theorem dX8_setPrices_0 : decode cX8_setPrices 0 = .ok (.aload_n 0, 1) := by decide +kernel
theorem dX8_setPrices_1 : decode cX8_setPrices 1 = .ok (.iload_n 1, 1) := by decide +kernel
theorem dX8_setPrices_2 : decode cX8_setPrices 2 = .ok (.iconst 1, 1) := by decide +kernel
theorem dX8_setPrices_3 : decode cX8_setPrices 3 = .ok (.isub, 1) := by decide +kernel
theorem dX8_setPrices_4 : decode cX8_setPrices 4 = .ok (.bipush 100, 2) := by decide +kernel
theorem dX8_setPrices_6 : decode cX8_setPrices 6 = .ok (.invokestatic 114, 3) := by decide +kernel
theorem dX8_setPrices_9 : decode cX8_setPrices 9 = .ok (.ifCond .eq 25, 3) := by decide +kernel
theorem dX8_setPrices_12 : decode cX8_setPrices 12 = .ok (.iload_n 2, 1) := by decide +kernel
theorem dX8_setPrices_13 : decode cX8_setPrices 13 = .ok (.bipush 101, 2) := by decide +kernel
theorem dX8_setPrices_15 : decode cX8_setPrices 15 = .ok (.invokestatic 114, 3) := by decide +kernel
theorem dX8_setPrices_18 : decode cX8_setPrices 18 = .ok (.ifCond .eq 16, 3) := by decide +kernel
theorem dX8_setPrices_21 : decode cX8_setPrices 21 = .ok (.iload_n 3, 1) := by decide +kernel
theorem dX8_setPrices_22 : decode cX8_setPrices 22 = .ok (.bipush 101, 2) := by decide +kernel
theorem dX8_setPrices_24 : decode cX8_setPrices 24 = .ok (.invokestatic 114, 3) := by decide +kernel
theorem dX8_setPrices_27 : decode cX8_setPrices 27 = .ok (.ifCond .eq 7, 3) := by decide +kernel
theorem dX8_setPrices_30 : decode cX8_setPrices 30 = .ok (.iconst 0, 1) := by decide +kernel
theorem dX8_setPrices_31 : decode cX8_setPrices 31 = .ok (.goto 4, 3) := by decide +kernel
theorem dX8_setPrices_34 : decode cX8_setPrices 34 = .ok (.iconst 1, 1) := by decide +kernel
theorem dX8_setPrices_35 : decode cX8_setPrices 35 = .ok (.invokevirtual 118, 3) := by decide +kernel
theorem dX8_setPrices_38 : decode cX8_setPrices 38 = .ok (.ifCond .eq 18, 3) := by decide +kernel
theorem dX8_setPrices_41 : decode cX8_setPrices 41 = .ok (.aload_n 0, 1) := by decide +kernel
theorem dX8_setPrices_42 : decode cX8_setPrices 42 = .ok (.iload_n 1, 1) := by decide +kernel
theorem dX8_setPrices_43 : decode cX8_setPrices 43 = .ok (.putfield 13, 3) := by decide +kernel
theorem dX8_setPrices_46 : decode cX8_setPrices 46 = .ok (.aload_n 0, 1) := by decide +kernel
theorem dX8_setPrices_47 : decode cX8_setPrices 47 = .ok (.iload_n 2, 1) := by decide +kernel
theorem dX8_setPrices_48 : decode cX8_setPrices 48 = .ok (.putfield 17, 3) := by decide +kernel
theorem dX8_setPrices_51 : decode cX8_setPrices 51 = .ok (.aload_n 0, 1) := by decide +kernel
theorem dX8_setPrices_52 : decode cX8_setPrices 52 = .ok (.iload_n 3, 1) := by decide +kernel
theorem dX8_setPrices_53 : decode cX8_setPrices 53 = .ok (.putfield 20, 3) := by decide +kernel
theorem dX8_setPrices_56 : decode cX8_setPrices 56 = .ok (.return_, 1) := by decide +kernel
set_option maxRecDepth 20000 in
theorem ggX8_paid_X8_isIn : GoodIn wsX8_paid wsX8_isIn := goodIn_r _ [5] (by decide +kernel) (by decide +kernel)
set_option maxRecDepth 20000 in
theorem gX8_paid_X8_isIn : GoodIn wsX8_paid (va_wsS RX8 114 yX8_isIn wsX8_isIn) := goodIn_app (goodIn_of _ (by decide +kernel)) ggX8_paid_X8_isIn
set_option maxRecDepth 20000 in
theorem ggX8_paid_X8_holds : GoodIn wsX8_paid wsX8_holds := goodIn_r _ [9, 10, 11, 12, 13, 14, 15, 16, 17, 18, 19, 20, 21, 22, 23, 24, 25, 26, 27, 28, 29, 30, 31, 32, 33, 34, 35, 36, 37, 38, 39, 40, 41, 42, 43, 44, 45] (by decide +kernel) (by decide +kernel)
set_option maxRecDepth 20000 in
theorem gX8_paid_X8_holds : GoodIn wsX8_paid (wsV RX8 118 RX8 yX8_holds wsX8_holds) := goodIn_app (goodIn_of _ (by decide +kernel)) ggX8_paid_X8_holds
theorem dX8_paid_0 : decode cX8_paid 0 = .ok (.aload_n 0, 1) := by decide +kernel
theorem dX8_paid_1 : decode cX8_paid 1 = .ok (.iload_n 1, 1) := by decide +kernel
theorem dX8_paid_2 : decode cX8_paid 2 = .ok (.iconst 4, 1) := by decide +kernel
theorem dX8_paid_3 : decode cX8_paid 3 = .ok (.invokestatic 114, 3) := by decide +kernel
theorem dX8_paid_6 : decode cX8_paid 6 = .ok (.ifCond .eq 7, 3) := by decide +kernel
theorem dX8_paid_9 : decode cX8_paid 9 = .ok (.iconst 0, 1) := by decide +kernel
theorem dX8_paid_10 : decode cX8_paid 10 = .ok (.goto 4, 3) := by decide +kernel
theorem dX8_paid_13 : decode cX8_paid 13 = .ok (.iconst 1, 1) := by decide +kernel
theorem dX8_paid_14 : decode cX8_paid 14 = .ok (.invokevirtual 118, 3) := by decide +kernel
theorem dX8_paid_17 : decode cX8_paid 17 = .ok (.ifCond .eq 12, 3) := by decide +kernel
theorem dX8_paid_20 : decode cX8_paid 20 = .ok (.aload_n 0, 1) := by decide +kernel
theorem dX8_paid_21 : decode cX8_paid 21 = .ok (.getfield 78, 3) := by decide +kernel
theorem dX8_paid_24 : decode cX8_paid 24 = .ok (.iload_n 1, 1) := by decide +kernel
theorem dX8_paid_25 : decode cX8_paid 25 = .ok (.iaload, 1) := by decide +kernel
theorem dX8_paid_26 : decode cX8_paid 26 = .ok (.goto 4, 3) := by decide +kernel
theorem dX8_paid_29 : decode cX8_paid 29 = .ok (.iconst 0, 1) := by decide +kernel
theorem dX8_paid_30 : decode cX8_paid 30 = .ok (.ireturn, 1) := by decide +kernel
set_option maxRecDepth 20000 in
theorem ggX8_earned_X8_isIn : GoodIn wsX8_earned wsX8_isIn := goodIn_r _ [5] (by decide +kernel) (by decide +kernel)
set_option maxRecDepth 20000 in
theorem gX8_earned_X8_isIn : GoodIn wsX8_earned (va_wsS RX8 114 yX8_isIn wsX8_isIn) := goodIn_app (goodIn_of _ (by decide +kernel)) ggX8_earned_X8_isIn
set_option maxRecDepth 20000 in
theorem ggX8_earned_X8_holds : GoodIn wsX8_earned wsX8_holds := goodIn_r _ [9, 10, 11, 12, 13, 14, 15, 16, 17, 18, 19, 20, 21, 22, 23, 24, 25, 26, 27, 28, 29, 30, 31, 32, 33, 34, 35, 36, 37, 38, 39, 40, 41, 42, 43, 44, 45] (by decide +kernel) (by decide +kernel)
set_option maxRecDepth 20000 in
theorem gX8_earned_X8_holds : GoodIn wsX8_earned (wsV RX8 118 RX8 yX8_holds wsX8_holds) := goodIn_app (goodIn_of _ (by decide +kernel)) ggX8_earned_X8_holds
theorem dX8_earned_0 : decode cX8_earned 0 = .ok (.aload_n 0, 1) := by decide +kernel
theorem dX8_earned_1 : decode cX8_earned 1 = .ok (.iload_n 1, 1) := by decide +kernel
theorem dX8_earned_2 : decode cX8_earned 2 = .ok (.iconst 4, 1) := by decide +kernel
theorem dX8_earned_3 : decode cX8_earned 3 = .ok (.invokestatic 114, 3) := by decide +kernel
theorem dX8_earned_6 : decode cX8_earned 6 = .ok (.ifCond .eq 7, 3) := by decide +kernel
theorem dX8_earned_9 : decode cX8_earned 9 = .ok (.iconst 0, 1) := by decide +kernel
theorem dX8_earned_10 : decode cX8_earned 10 = .ok (.goto 4, 3) := by decide +kernel
theorem dX8_earned_13 : decode cX8_earned 13 = .ok (.iconst 1, 1) := by decide +kernel
theorem dX8_earned_14 : decode cX8_earned 14 = .ok (.invokevirtual 118, 3) := by decide +kernel
theorem dX8_earned_17 : decode cX8_earned 17 = .ok (.ifCond .eq 12, 3) := by decide +kernel
theorem dX8_earned_20 : decode cX8_earned 20 = .ok (.aload_n 0, 1) := by decide +kernel
theorem dX8_earned_21 : decode cX8_earned 21 = .ok (.getfield 81, 3) := by decide +kernel
theorem dX8_earned_24 : decode cX8_earned 24 = .ok (.iload_n 1, 1) := by decide +kernel
theorem dX8_earned_25 : decode cX8_earned 25 = .ok (.iaload, 1) := by decide +kernel
theorem dX8_earned_26 : decode cX8_earned 26 = .ok (.goto 4, 3) := by decide +kernel
theorem dX8_earned_29 : decode cX8_earned 29 = .ok (.iconst 0, 1) := by decide +kernel
theorem dX8_earned_30 : decode cX8_earned 30 = .ok (.ireturn, 1) := by decide +kernel
theorem dX8_purse_0 : decode cX8_purse 0 = .ok (.aload_n 0, 1) := by decide +kernel
theorem dX8_purse_1 : decode cX8_purse 1 = .ok (.iconst 0, 1) := by decide +kernel
theorem dX8_purse_2 : decode cX8_purse 2 = .ok (.putfield 90, 3) := by decide +kernel
theorem dX8_purse_5 : decode cX8_purse 5 = .ok (.iconst 0, 1) := by decide +kernel
theorem dX8_purse_6 : decode cX8_purse 6 = .ok (.istore_n 1, 1) := by decide +kernel
theorem dX8_purse_7 : decode cX8_purse 7 = .ok (.iconst 0, 1) := by decide +kernel
theorem dX8_purse_8 : decode cX8_purse 8 = .ok (.istore_n 2, 1) := by decide +kernel
theorem dX8_purse_9 : decode cX8_purse 9 = .ok (.iload_n 2, 1) := by decide +kernel
theorem dX8_purse_10 : decode cX8_purse 10 = .ok (.iconst 4, 1) := by decide +kernel
theorem dX8_purse_11 : decode cX8_purse 11 = .ok (.if_icmp .ge 25, 3) := by decide +kernel
theorem dX8_purse_14 : decode cX8_purse 14 = .ok (.iload_n 1, 1) := by decide +kernel
theorem dX8_purse_15 : decode cX8_purse 15 = .ok (.aload_n 0, 1) := by decide +kernel
theorem dX8_purse_16 : decode cX8_purse 16 = .ok (.getfield 78, 3) := by decide +kernel
theorem dX8_purse_19 : decode cX8_purse 19 = .ok (.iload_n 2, 1) := by decide +kernel
theorem dX8_purse_20 : decode cX8_purse 20 = .ok (.iaload, 1) := by decide +kernel
theorem dX8_purse_21 : decode cX8_purse 21 = .ok (.aload_n 0, 1) := by decide +kernel
theorem dX8_purse_22 : decode cX8_purse 22 = .ok (.getfield 81, 3) := by decide +kernel
theorem dX8_purse_25 : decode cX8_purse 25 = .ok (.iload_n 2, 1) := by decide +kernel
theorem dX8_purse_26 : decode cX8_purse 26 = .ok (.iaload, 1) := by decide +kernel
theorem dX8_purse_27 : decode cX8_purse 27 = .ok (.isub, 1) := by decide +kernel
theorem dX8_purse_28 : decode cX8_purse 28 = .ok (.iadd, 1) := by decide +kernel
theorem dX8_purse_29 : decode cX8_purse 29 = .ok (.istore_n 1, 1) := by decide +kernel
theorem dX8_purse_30 : decode cX8_purse 30 = .ok (.iinc 2 1, 3) := by decide +kernel
theorem dX8_purse_33 : decode cX8_purse 33 = .ok (.goto (-24), 3) := by decide +kernel
theorem dX8_purse_36 : decode cX8_purse 36 = .ok (.iload_n 1, 1) := by decide +kernel
theorem dX8_purse_37 : decode cX8_purse 37 = .ok (.ireturn, 1) := by decide +kernel
