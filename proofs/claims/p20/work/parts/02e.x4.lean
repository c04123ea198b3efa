theorem dX4_init_0 : decode cX4_init 0 = .ok (.aload_n 0, 1) := by decide +kernel
theorem dX4_init_1 : decode cX4_init 1 = .ok (.invokespecial 1, 3) := by decide +kernel
theorem dX4_init_4 : decode cX4_init 4 = .ok (.aload_n 0, 1) := by decide +kernel
theorem dX4_init_5 : decode cX4_init 5 = .ok (.iconst 0, 1) := by decide +kernel
theorem dX4_init_6 : decode cX4_init 6 = .ok (.anewarray 7, 3) := by decide +kernel
theorem dX4_init_9 : decode cX4_init 9 = .ok (.putfield 9, 3) := by decide +kernel
theorem dX4_init_12 : decode cX4_init 12 = .ok (.aload_n 0, 1) := by decide +kernel
theorem dX4_init_13 : decode cX4_init 13 = .ok (.iconst 0, 1) := by decide +kernel
theorem dX4_init_14 : decode cX4_init 14 = .ok (.anewarray 7, 3) := by decide +kernel
theorem dX4_init_17 : decode cX4_init 17 = .ok (.putfield 15, 3) := by decide +kernel
theorem dX4_init_20 : decode cX4_init 20 = .ok (.aload_n 0, 1) := by decide +kernel
theorem dX4_init_21 : decode cX4_init 21 = .ok (.bipush 14, 2) := by decide +kernel
theorem dX4_init_23 : decode cX4_init 23 = .ok (.iconst 4, 1) := by decide +kernel
theorem dX4_init_24 : decode cX4_init 24 = .ok (.multianewarray 18 2, 4) := by decide +kernel
theorem dX4_init_28 : decode cX4_init 28 = .ok (.putfield 19, 3) := by decide +kernel
theorem dX4_init_31 : decode cX4_init 31 = .ok (.aload_n 0, 1) := by decide +kernel
theorem dX4_init_32 : decode cX4_init 32 = .ok (.bipush 14, 2) := by decide +kernel
theorem dX4_init_34 : decode cX4_init 34 = .ok (.anewarray 7, 3) := by decide +kernel
theorem dX4_init_37 : decode cX4_init 37 = .ok (.putfield 22, 3) := by decide +kernel
theorem dX4_init_40 : decode cX4_init 40 = .ok (.iconst 0, 1) := by decide +kernel
theorem dX4_init_41 : decode cX4_init 41 = .ok (.istore_n 1, 1) := by decide +kernel
theorem dX4_init_42 : decode cX4_init 42 = .ok (.iload_n 1, 1) := by decide +kernel
theorem dX4_init_43 : decode cX4_init 43 = .ok (.bipush 14, 2) := by decide +kernel
theorem dX4_init_45 : decode cX4_init 45 = .ok (.if_icmp .ge 26, 3) := by decide +kernel
theorem dX4_init_48 : decode cX4_init 48 = .ok (.aload_n 0, 1) := by decide +kernel
theorem dX4_init_49 : decode cX4_init 49 = .ok (.getfield 22, 3) := by decide +kernel
theorem dX4_init_52 : decode cX4_init 52 = .ok (.iload_n 1, 1) := by decide +kernel
theorem dX4_init_53 : decode cX4_init 53 = .ok (.iconst 2, 1) := by decide +kernel
theorem dX4_init_54 : decode cX4_init 54 = .ok (.newarray .int, 2) := by decide +kernel
theorem dX4_init_56 : decode cX4_init 56 = .ok (.dup, 1) := by decide +kernel
theorem dX4_init_57 : decode cX4_init 57 = .ok (.iconst 0, 1) := by decide +kernel
theorem dX4_init_58 : decode cX4_init 58 = .ok (.iconst (-1), 1) := by decide +kernel
theorem dX4_init_59 : decode cX4_init 59 = .ok (.iastore, 1) := by decide +kernel
theorem dX4_init_60 : decode cX4_init 60 = .ok (.dup, 1) := by decide +kernel
theorem dX4_init_61 : decode cX4_init 61 = .ok (.iconst 1, 1) := by decide +kernel
theorem dX4_init_62 : decode cX4_init 62 = .ok (.iconst (-1), 1) := by decide +kernel
theorem dX4_init_63 : decode cX4_init 63 = .ok (.iastore, 1) := by decide +kernel
theorem dX4_init_64 : decode cX4_init 64 = .ok (.aastore, 1) := by decide +kernel
theorem dX4_init_65 : decode cX4_init 65 = .ok (.iinc 1 1, 3) := by decide +kernel
theorem dX4_init_68 : decode cX4_init 68 = .ok (.goto (-26), 3) := by decide +kernel
theorem dX4_init_71 : decode cX4_init 71 = .ok (.return_, 1) := by decide +kernel
theorem dX4_more_0 : decode cX4_more 0 = .ok (.aload_n 0, 1) := by decide +kernel
theorem dX4_more_1 : decode cX4_more 1 = .ok (.arraylength, 1) := by decide +kernel
theorem dX4_more_2 : decode cX4_more 2 = .ok (.iconst 1, 1) := by decide +kernel
theorem dX4_more_3 : decode cX4_more 3 = .ok (.iadd, 1) := by decide +kernel
theorem dX4_more_4 : decode cX4_more 4 = .ok (.anewarray 7, 3) := by decide +kernel
theorem dX4_more_7 : decode cX4_more 7 = .ok (.astore_n 2, 1) := by decide +kernel
theorem dX4_more_8 : decode cX4_more 8 = .ok (.iconst 0, 1) := by decide +kernel
theorem dX4_more_9 : decode cX4_more 9 = .ok (.istore_n 3, 1) := by decide +kernel
theorem dX4_more_10 : decode cX4_more 10 = .ok (.iload_n 3, 1) := by decide +kernel
theorem dX4_more_11 : decode cX4_more 11 = .ok (.aload_n 0, 1) := by decide +kernel
theorem dX4_more_12 : decode cX4_more 12 = .ok (.arraylength, 1) := by decide +kernel
theorem dX4_more_13 : decode cX4_more 13 = .ok (.if_icmp .ge 15, 3) := by decide +kernel
theorem dX4_more_16 : decode cX4_more 16 = .ok (.aload_n 2, 1) := by decide +kernel
theorem dX4_more_17 : decode cX4_more 17 = .ok (.iload_n 3, 1) := by decide +kernel
theorem dX4_more_18 : decode cX4_more 18 = .ok (.aload_n 0, 1) := by decide +kernel
theorem dX4_more_19 : decode cX4_more 19 = .ok (.iload_n 3, 1) := by decide +kernel
theorem dX4_more_20 : decode cX4_more 20 = .ok (.aaload, 1) := by decide +kernel
theorem dX4_more_21 : decode cX4_more 21 = .ok (.aastore, 1) := by decide +kernel
theorem dX4_more_22 : decode cX4_more 22 = .ok (.iinc 3 1, 3) := by decide +kernel
theorem dX4_more_25 : decode cX4_more 25 = .ok (.goto (-15), 3) := by decide +kernel
theorem dX4_more_28 : decode cX4_more 28 = .ok (.aload_n 2, 1) := by decide +kernel
theorem dX4_more_29 : decode cX4_more 29 = .ok (.aload_n 0, 1) := by decide +kernel
theorem dX4_more_30 : decode cX4_more 30 = .ok (.arraylength, 1) := by decide +kernel
theorem dX4_more_31 : decode cX4_more 31 = .ok (.aload_n 1, 1) := by decide +kernel
theorem dX4_more_32 : decode cX4_more 32 = .ok (.aastore, 1) := by decide +kernel
theorem dX4_more_33 : decode cX4_more 33 = .ok (.aload_n 2, 1) := by decide +kernel
theorem dX4_more_34 : decode cX4_more 34 = .ok (.areturn, 1) := by decide +kernel
theorem dX4_reckon_0 : decode cX4_reckon 0 = .ok (.aload_n 0, 1) := by decide +kernel
theorem dX4_reckon_1 : decode cX4_reckon 1 = .ok (.aload_n 0, 1) := by decide +kernel
theorem dX4_reckon_2 : decode cX4_reckon 2 = .ok (.getfield 25, 3) := by decide +kernel
theorem dX4_reckon_5 : decode cX4_reckon 5 = .ok (.aload_n 0, 1) := by decide +kernel
theorem dX4_reckon_6 : decode cX4_reckon 6 = .ok (.getfield 25, 3) := by decide +kernel
theorem dX4_reckon_9 : decode cX4_reckon 9 = .ok (.multianewarray 29 2, 4) := by decide +kernel
theorem dX4_reckon_13 : decode cX4_reckon 13 = .ok (.putfield 31, 3) := by decide +kernel
theorem dX4_reckon_16 : decode cX4_reckon 16 = .ok (.aload_n 0, 1) := by decide +kernel
theorem dX4_reckon_17 : decode cX4_reckon 17 = .ok (.aload_n 0, 1) := by decide +kernel
theorem dX4_reckon_18 : decode cX4_reckon 18 = .ok (.getfield 25, 3) := by decide +kernel
theorem dX4_reckon_21 : decode cX4_reckon 21 = .ok (.aload_n 0, 1) := by decide +kernel
theorem dX4_reckon_22 : decode cX4_reckon 22 = .ok (.getfield 25, 3) := by decide +kernel
theorem dX4_reckon_25 : decode cX4_reckon 25 = .ok (.multianewarray 29 2, 4) := by decide +kernel
theorem dX4_reckon_29 : decode cX4_reckon 29 = .ok (.putfield 34, 3) := by decide +kernel
theorem dX4_reckon_32 : decode cX4_reckon 32 = .ok (.iconst 0, 1) := by decide +kernel
theorem dX4_reckon_33 : decode cX4_reckon 33 = .ok (.istore_n 1, 1) := by decide +kernel
theorem dX4_reckon_34 : decode cX4_reckon 34 = .ok (.iload_n 1, 1) := by decide +kernel
theorem dX4_reckon_35 : decode cX4_reckon 35 = .ok (.aload_n 0, 1) := by decide +kernel
theorem dX4_reckon_36 : decode cX4_reckon 36 = .ok (.getfield 25, 3) := by decide +kernel
theorem dX4_reckon_39 : decode cX4_reckon 39 = .ok (.if_icmp .ge 18, 3) := by decide +kernel
theorem dX4_reckon_42 : decode cX4_reckon 42 = .ok (.aload_n 0, 1) := by decide +kernel
theorem dX4_reckon_43 : decode cX4_reckon 43 = .ok (.getfield 31, 3) := by decide +kernel
theorem dX4_reckon_46 : decode cX4_reckon 46 = .ok (.iload_n 1, 1) := by decide +kernel
theorem dX4_reckon_47 : decode cX4_reckon 47 = .ok (.aaload, 1) := by decide +kernel
theorem dX4_reckon_48 : decode cX4_reckon 48 = .ok (.iload_n 1, 1) := by decide +kernel
theorem dX4_reckon_49 : decode cX4_reckon 49 = .ok (.iconst 1, 1) := by decide +kernel
theorem dX4_reckon_50 : decode cX4_reckon 50 = .ok (.bastore, 1) := by decide +kernel
theorem dX4_reckon_51 : decode cX4_reckon 51 = .ok (.iinc 1 1, 3) := by decide +kernel
theorem dX4_reckon_54 : decode cX4_reckon 54 = .ok (.goto (-20), 3) := by decide +kernel
theorem dX4_reckon_57 : decode cX4_reckon 57 = .ok (.aload_n 0, 1) := by decide +kernel
theorem dX4_reckon_58 : decode cX4_reckon 58 = .ok (.getfield 15, 3) := by decide +kernel
theorem dX4_reckon_61 : decode cX4_reckon 61 = .ok (.astore_n 1, 1) := by decide +kernel
theorem dX4_reckon_62 : decode cX4_reckon 62 = .ok (.aload_n 1, 1) := by decide +kernel
theorem dX4_reckon_63 : decode cX4_reckon 63 = .ok (.arraylength, 1) := by decide +kernel
theorem dX4_reckon_64 : decode cX4_reckon 64 = .ok (.istore_n 2, 1) := by decide +kernel
theorem dX4_reckon_65 : decode cX4_reckon 65 = .ok (.iconst 0, 1) := by decide +kernel
theorem dX4_reckon_66 : decode cX4_reckon 66 = .ok (.istore_n 3, 1) := by decide +kernel
theorem dX4_reckon_67 : decode cX4_reckon 67 = .ok (.iload_n 3, 1) := by decide +kernel
theorem dX4_reckon_68 : decode cX4_reckon 68 = .ok (.iload_n 2, 1) := by decide +kernel
theorem dX4_reckon_69 : decode cX4_reckon 69 = .ok (.if_icmp .ge 44, 3) := by decide +kernel
theorem dX4_reckon_72 : decode cX4_reckon 72 = .ok (.aload_n 1, 1) := by decide +kernel
theorem dX4_reckon_73 : decode cX4_reckon 73 = .ok (.iload_n 3, 1) := by decide +kernel
theorem dX4_reckon_74 : decode cX4_reckon 74 = .ok (.aaload, 1) := by decide +kernel
theorem dX4_reckon_75 : decode cX4_reckon 75 = .ok (.astore 4, 2) := by decide +kernel
theorem dX4_reckon_77 : decode cX4_reckon 77 = .ok (.aload_n 0, 1) := by decide +kernel
theorem dX4_reckon_78 : decode cX4_reckon 78 = .ok (.getfield 31, 3) := by decide +kernel
theorem dX4_reckon_81 : decode cX4_reckon 81 = .ok (.aload 4, 2) := by decide +kernel
theorem dX4_reckon_83 : decode cX4_reckon 83 = .ok (.iconst 0, 1) := by decide +kernel
theorem dX4_reckon_84 : decode cX4_reckon 84 = .ok (.iaload, 1) := by decide +kernel
theorem dX4_reckon_85 : decode cX4_reckon 85 = .ok (.aaload, 1) := by decide +kernel
theorem dX4_reckon_86 : decode cX4_reckon 86 = .ok (.aload 4, 2) := by decide +kernel
theorem dX4_reckon_88 : decode cX4_reckon 88 = .ok (.iconst 1, 1) := by decide +kernel
theorem dX4_reckon_89 : decode cX4_reckon 89 = .ok (.iaload, 1) := by decide +kernel
theorem dX4_reckon_90 : decode cX4_reckon 90 = .ok (.iconst 1, 1) := by decide +kernel
theorem dX4_reckon_91 : decode cX4_reckon 91 = .ok (.bastore, 1) := by decide +kernel
theorem dX4_reckon_92 : decode cX4_reckon 92 = .ok (.aload_n 0, 1) := by decide +kernel
theorem dX4_reckon_93 : decode cX4_reckon 93 = .ok (.getfield 31, 3) := by decide +kernel
theorem dX4_reckon_96 : decode cX4_reckon 96 = .ok (.aload 4, 2) := by decide +kernel
theorem dX4_reckon_98 : decode cX4_reckon 98 = .ok (.iconst 1, 1) := by decide +kernel
theorem dX4_reckon_99 : decode cX4_reckon 99 = .ok (.iaload, 1) := by decide +kernel
theorem dX4_reckon_100 : decode cX4_reckon 100 = .ok (.aaload, 1) := by decide +kernel
theorem dX4_reckon_101 : decode cX4_reckon 101 = .ok (.aload 4, 2) := by decide +kernel
theorem dX4_reckon_103 : decode cX4_reckon 103 = .ok (.iconst 0, 1) := by decide +kernel
theorem dX4_reckon_104 : decode cX4_reckon 104 = .ok (.iaload, 1) := by decide +kernel
theorem dX4_reckon_105 : decode cX4_reckon 105 = .ok (.iconst 1, 1) := by decide +kernel
theorem dX4_reckon_106 : decode cX4_reckon 106 = .ok (.bastore, 1) := by decide +kernel
theorem dX4_reckon_107 : decode cX4_reckon 107 = .ok (.iinc 3 1, 3) := by decide +kernel
theorem dX4_reckon_110 : decode cX4_reckon 110 = .ok (.goto (-43), 3) := by decide +kernel
theorem dX4_reckon_113 : decode cX4_reckon 113 = .ok (.iconst 0, 1) := by decide +kernel
theorem dX4_reckon_114 : decode cX4_reckon 114 = .ok (.istore_n 1, 1) := by decide +kernel
theorem dX4_reckon_115 : decode cX4_reckon 115 = .ok (.iload_n 1, 1) := by decide +kernel
theorem dX4_reckon_116 : decode cX4_reckon 116 = .ok (.aload_n 0, 1) := by decide +kernel
theorem dX4_reckon_117 : decode cX4_reckon 117 = .ok (.getfield 25, 3) := by decide +kernel
theorem dX4_reckon_120 : decode cX4_reckon 120 = .ok (.if_icmp .ge 87, 3) := by decide +kernel
theorem dX4_reckon_123 : decode cX4_reckon 123 = .ok (.iconst 0, 1) := by decide +kernel
theorem dX4_reckon_124 : decode cX4_reckon 124 = .ok (.istore_n 2, 1) := by decide +kernel
theorem dX4_reckon_125 : decode cX4_reckon 125 = .ok (.iload_n 2, 1) := by decide +kernel
theorem dX4_reckon_126 : decode cX4_reckon 126 = .ok (.aload_n 0, 1) := by decide +kernel
theorem dX4_reckon_127 : decode cX4_reckon 127 = .ok (.getfield 25, 3) := by decide +kernel
theorem dX4_reckon_130 : decode cX4_reckon 130 = .ok (.if_icmp .ge 71, 3) := by decide +kernel
theorem dX4_reckon_133 : decode cX4_reckon 133 = .ok (.iconst 0, 1) := by decide +kernel
theorem dX4_reckon_134 : decode cX4_reckon 134 = .ok (.istore_n 3, 1) := by decide +kernel
theorem dX4_reckon_135 : decode cX4_reckon 135 = .ok (.iload_n 3, 1) := by decide +kernel
theorem dX4_reckon_136 : decode cX4_reckon 136 = .ok (.aload_n 0, 1) := by decide +kernel
theorem dX4_reckon_137 : decode cX4_reckon 137 = .ok (.getfield 25, 3) := by decide +kernel
theorem dX4_reckon_140 : decode cX4_reckon 140 = .ok (.if_icmp .ge 55, 3) := by decide +kernel
theorem dX4_reckon_143 : decode cX4_reckon 143 = .ok (.aload_n 0, 1) := by decide +kernel
theorem dX4_reckon_144 : decode cX4_reckon 144 = .ok (.getfield 31, 3) := by decide +kernel
theorem dX4_reckon_147 : decode cX4_reckon 147 = .ok (.iload_n 2, 1) := by decide +kernel
theorem dX4_reckon_148 : decode cX4_reckon 148 = .ok (.aaload, 1) := by decide +kernel
theorem dX4_reckon_149 : decode cX4_reckon 149 = .ok (.iload_n 3, 1) := by decide +kernel
theorem dX4_reckon_150 : decode cX4_reckon 150 = .ok (.aload_n 0, 1) := by decide +kernel
theorem dX4_reckon_151 : decode cX4_reckon 151 = .ok (.getfield 31, 3) := by decide +kernel
theorem dX4_reckon_154 : decode cX4_reckon 154 = .ok (.iload_n 2, 1) := by decide +kernel
theorem dX4_reckon_155 : decode cX4_reckon 155 = .ok (.aaload, 1) := by decide +kernel
theorem dX4_reckon_156 : decode cX4_reckon 156 = .ok (.iload_n 3, 1) := by decide +kernel
theorem dX4_reckon_157 : decode cX4_reckon 157 = .ok (.baload, 1) := by decide +kernel
theorem dX4_reckon_158 : decode cX4_reckon 158 = .ok (.ifCond .ne 25, 3) := by decide +kernel
theorem dX4_reckon_161 : decode cX4_reckon 161 = .ok (.aload_n 0, 1) := by decide +kernel
theorem dX4_reckon_162 : decode cX4_reckon 162 = .ok (.getfield 31, 3) := by decide +kernel
theorem dX4_reckon_165 : decode cX4_reckon 165 = .ok (.iload_n 2, 1) := by decide +kernel
theorem dX4_reckon_166 : decode cX4_reckon 166 = .ok (.aaload, 1) := by decide +kernel
theorem dX4_reckon_167 : decode cX4_reckon 167 = .ok (.iload_n 1, 1) := by decide +kernel
theorem dX4_reckon_168 : decode cX4_reckon 168 = .ok (.baload, 1) := by decide +kernel
theorem dX4_reckon_169 : decode cX4_reckon 169 = .ok (.ifCond .eq 18, 3) := by decide +kernel
theorem dX4_reckon_172 : decode cX4_reckon 172 = .ok (.aload_n 0, 1) := by decide +kernel
theorem dX4_reckon_173 : decode cX4_reckon 173 = .ok (.getfield 31, 3) := by decide +kernel
theorem dX4_reckon_176 : decode cX4_reckon 176 = .ok (.iload_n 1, 1) := by decide +kernel
theorem dX4_reckon_177 : decode cX4_reckon 177 = .ok (.aaload, 1) := by decide +kernel
theorem dX4_reckon_178 : decode cX4_reckon 178 = .ok (.iload_n 3, 1) := by decide +kernel
theorem dX4_reckon_179 : decode cX4_reckon 179 = .ok (.baload, 1) := by decide +kernel
theorem dX4_reckon_180 : decode cX4_reckon 180 = .ok (.ifCond .eq 7, 3) := by decide +kernel
theorem dX4_reckon_183 : decode cX4_reckon 183 = .ok (.iconst 1, 1) := by decide +kernel
theorem dX4_reckon_184 : decode cX4_reckon 184 = .ok (.goto 4, 3) := by decide +kernel
theorem dX4_reckon_187 : decode cX4_reckon 187 = .ok (.iconst 0, 1) := by decide +kernel
theorem dX4_reckon_188 : decode cX4_reckon 188 = .ok (.bastore, 1) := by decide +kernel
theorem dX4_reckon_189 : decode cX4_reckon 189 = .ok (.iinc 3 1, 3) := by decide +kernel
theorem dX4_reckon_192 : decode cX4_reckon 192 = .ok (.goto (-57), 3) := by decide +kernel
theorem dX4_reckon_195 : decode cX4_reckon 195 = .ok (.iinc 2 1, 3) := by decide +kernel
theorem dX4_reckon_198 : decode cX4_reckon 198 = .ok (.goto (-73), 3) := by decide +kernel
theorem dX4_reckon_201 : decode cX4_reckon 201 = .ok (.iinc 1 1, 3) := by decide +kernel
theorem dX4_reckon_204 : decode cX4_reckon 204 = .ok (.goto (-89), 3) := by decide +kernel
theorem dX4_reckon_207 : decode cX4_reckon 207 = .ok (.aload_n 0, 1) := by decide +kernel
theorem dX4_reckon_208 : decode cX4_reckon 208 = .ok (.getfield 9, 3) := by decide +kernel
theorem dX4_reckon_211 : decode cX4_reckon 211 = .ok (.astore_n 1, 1) := by decide +kernel
theorem dX4_reckon_212 : decode cX4_reckon 212 = .ok (.aload_n 1, 1) := by decide +kernel
theorem dX4_reckon_213 : decode cX4_reckon 213 = .ok (.arraylength, 1) := by decide +kernel
theorem dX4_reckon_214 : decode cX4_reckon 214 = .ok (.istore_n 2, 1) := by decide +kernel
theorem dX4_reckon_215 : decode cX4_reckon 215 = .ok (.iconst 0, 1) := by decide +kernel
theorem dX4_reckon_216 : decode cX4_reckon 216 = .ok (.istore_n 3, 1) := by decide +kernel
theorem dX4_reckon_217 : decode cX4_reckon 217 = .ok (.iload_n 3, 1) := by decide +kernel
theorem dX4_reckon_218 : decode cX4_reckon 218 = .ok (.iload_n 2, 1) := by decide +kernel
theorem dX4_reckon_219 : decode cX4_reckon 219 = .ok (.if_icmp .ge 91, 3) := by decide +kernel
theorem dX4_reckon_222 : decode cX4_reckon 222 = .ok (.aload_n 1, 1) := by decide +kernel
theorem dX4_reckon_223 : decode cX4_reckon 223 = .ok (.iload_n 3, 1) := by decide +kernel
theorem dX4_reckon_224 : decode cX4_reckon 224 = .ok (.aaload, 1) := by decide +kernel
theorem dX4_reckon_225 : decode cX4_reckon 225 = .ok (.astore 4, 2) := by decide +kernel
theorem dX4_reckon_227 : decode cX4_reckon 227 = .ok (.iconst 0, 1) := by decide +kernel
theorem dX4_reckon_228 : decode cX4_reckon 228 = .ok (.istore 5, 2) := by decide +kernel
theorem dX4_reckon_230 : decode cX4_reckon 230 = .ok (.iload 5, 2) := by decide +kernel
theorem dX4_reckon_232 : decode cX4_reckon 232 = .ok (.aload_n 0, 1) := by decide +kernel
theorem dX4_reckon_233 : decode cX4_reckon 233 = .ok (.getfield 25, 3) := by decide +kernel
theorem dX4_reckon_236 : decode cX4_reckon 236 = .ok (.if_icmp .ge 68, 3) := by decide +kernel
theorem dX4_reckon_239 : decode cX4_reckon 239 = .ok (.iconst 0, 1) := by decide +kernel
theorem dX4_reckon_240 : decode cX4_reckon 240 = .ok (.istore 6, 2) := by decide +kernel
theorem dX4_reckon_242 : decode cX4_reckon 242 = .ok (.iload 6, 2) := by decide +kernel
theorem dX4_reckon_244 : decode cX4_reckon 244 = .ok (.aload_n 0, 1) := by decide +kernel
theorem dX4_reckon_245 : decode cX4_reckon 245 = .ok (.getfield 25, 3) := by decide +kernel
theorem dX4_reckon_248 : decode cX4_reckon 248 = .ok (.if_icmp .ge 50, 3) := by decide +kernel
theorem dX4_reckon_251 : decode cX4_reckon 251 = .ok (.aload_n 0, 1) := by decide +kernel
theorem dX4_reckon_252 : decode cX4_reckon 252 = .ok (.getfield 31, 3) := by decide +kernel
theorem dX4_reckon_255 : decode cX4_reckon 255 = .ok (.iload 5, 2) := by decide +kernel
theorem dX4_reckon_257 : decode cX4_reckon 257 = .ok (.aaload, 1) := by decide +kernel
theorem dX4_reckon_258 : decode cX4_reckon 258 = .ok (.aload 4, 2) := by decide +kernel
theorem dX4_reckon_260 : decode cX4_reckon 260 = .ok (.iconst 0, 1) := by decide +kernel
theorem dX4_reckon_261 : decode cX4_reckon 261 = .ok (.iaload, 1) := by decide +kernel
theorem dX4_reckon_262 : decode cX4_reckon 262 = .ok (.baload, 1) := by decide +kernel
theorem dX4_reckon_263 : decode cX4_reckon 263 = .ok (.ifCond .eq 29, 3) := by decide +kernel
theorem dX4_reckon_266 : decode cX4_reckon 266 = .ok (.aload_n 0, 1) := by decide +kernel
theorem dX4_reckon_267 : decode cX4_reckon 267 = .ok (.getfield 31, 3) := by decide +kernel
theorem dX4_reckon_270 : decode cX4_reckon 270 = .ok (.iload 6, 2) := by decide +kernel
theorem dX4_reckon_272 : decode cX4_reckon 272 = .ok (.aaload, 1) := by decide +kernel
theorem dX4_reckon_273 : decode cX4_reckon 273 = .ok (.aload 4, 2) := by decide +kernel
theorem dX4_reckon_275 : decode cX4_reckon 275 = .ok (.iconst 1, 1) := by decide +kernel
theorem dX4_reckon_276 : decode cX4_reckon 276 = .ok (.iaload, 1) := by decide +kernel
theorem dX4_reckon_277 : decode cX4_reckon 277 = .ok (.baload, 1) := by decide +kernel
theorem dX4_reckon_278 : decode cX4_reckon 278 = .ok (.ifCond .eq 14, 3) := by decide +kernel
theorem dX4_reckon_281 : decode cX4_reckon 281 = .ok (.aload_n 0, 1) := by decide +kernel
theorem dX4_reckon_282 : decode cX4_reckon 282 = .ok (.getfield 34, 3) := by decide +kernel
theorem dX4_reckon_285 : decode cX4_reckon 285 = .ok (.iload 5, 2) := by decide +kernel
theorem dX4_reckon_287 : decode cX4_reckon 287 = .ok (.aaload, 1) := by decide +kernel
theorem dX4_reckon_288 : decode cX4_reckon 288 = .ok (.iload 6, 2) := by decide +kernel
theorem dX4_reckon_290 : decode cX4_reckon 290 = .ok (.iconst 1, 1) := by decide +kernel
theorem dX4_reckon_291 : decode cX4_reckon 291 = .ok (.bastore, 1) := by decide +kernel
theorem dX4_reckon_292 : decode cX4_reckon 292 = .ok (.iinc 6 1, 3) := by decide +kernel
theorem dX4_reckon_295 : decode cX4_reckon 295 = .ok (.goto (-53), 3) := by decide +kernel
theorem dX4_reckon_298 : decode cX4_reckon 298 = .ok (.iinc 5 1, 3) := by decide +kernel
theorem dX4_reckon_301 : decode cX4_reckon 301 = .ok (.goto (-71), 3) := by decide +kernel
theorem dX4_reckon_304 : decode cX4_reckon 304 = .ok (.iinc 3 1, 3) := by decide +kernel
theorem dX4_reckon_307 : decode cX4_reckon 307 = .ok (.goto (-90), 3) := by decide +kernel
theorem dX4_reckon_310 : decode cX4_reckon 310 = .ok (.iconst 0, 1) := by decide +kernel
theorem dX4_reckon_311 : decode cX4_reckon 311 = .ok (.istore_n 1, 1) := by decide +kernel
theorem dX4_reckon_312 : decode cX4_reckon 312 = .ok (.iload_n 1, 1) := by decide +kernel
theorem dX4_reckon_313 : decode cX4_reckon 313 = .ok (.aload_n 0, 1) := by decide +kernel
theorem dX4_reckon_314 : decode cX4_reckon 314 = .ok (.getfield 25, 3) := by decide +kernel
theorem dX4_reckon_317 : decode cX4_reckon 317 = .ok (.if_icmp .ge 87, 3) := by decide +kernel
theorem dX4_reckon_320 : decode cX4_reckon 320 = .ok (.iconst 0, 1) := by decide +kernel
theorem dX4_reckon_321 : decode cX4_reckon 321 = .ok (.istore_n 2, 1) := by decide +kernel
theorem dX4_reckon_322 : decode cX4_reckon 322 = .ok (.iload_n 2, 1) := by decide +kernel
theorem dX4_reckon_323 : decode cX4_reckon 323 = .ok (.aload_n 0, 1) := by decide +kernel
theorem dX4_reckon_324 : decode cX4_reckon 324 = .ok (.getfield 25, 3) := by decide +kernel
theorem dX4_reckon_327 : decode cX4_reckon 327 = .ok (.if_icmp .ge 71, 3) := by decide +kernel
theorem dX4_reckon_330 : decode cX4_reckon 330 = .ok (.iconst 0, 1) := by decide +kernel
theorem dX4_reckon_331 : decode cX4_reckon 331 = .ok (.istore_n 3, 1) := by decide +kernel
theorem dX4_reckon_332 : decode cX4_reckon 332 = .ok (.iload_n 3, 1) := by decide +kernel
theorem dX4_reckon_333 : decode cX4_reckon 333 = .ok (.aload_n 0, 1) := by decide +kernel
theorem dX4_reckon_334 : decode cX4_reckon 334 = .ok (.getfield 25, 3) := by decide +kernel
theorem dX4_reckon_337 : decode cX4_reckon 337 = .ok (.if_icmp .ge 55, 3) := by decide +kernel
theorem dX4_reckon_340 : decode cX4_reckon 340 = .ok (.aload_n 0, 1) := by decide +kernel
theorem dX4_reckon_341 : decode cX4_reckon 341 = .ok (.getfield 34, 3) := by decide +kernel
theorem dX4_reckon_344 : decode cX4_reckon 344 = .ok (.iload_n 2, 1) := by decide +kernel
theorem dX4_reckon_345 : decode cX4_reckon 345 = .ok (.aaload, 1) := by decide +kernel
theorem dX4_reckon_346 : decode cX4_reckon 346 = .ok (.iload_n 3, 1) := by decide +kernel
theorem dX4_reckon_347 : decode cX4_reckon 347 = .ok (.aload_n 0, 1) := by decide +kernel
theorem dX4_reckon_348 : decode cX4_reckon 348 = .ok (.getfield 34, 3) := by decide +kernel
theorem dX4_reckon_351 : decode cX4_reckon 351 = .ok (.iload_n 2, 1) := by decide +kernel
theorem dX4_reckon_352 : decode cX4_reckon 352 = .ok (.aaload, 1) := by decide +kernel
theorem dX4_reckon_353 : decode cX4_reckon 353 = .ok (.iload_n 3, 1) := by decide +kernel
theorem dX4_reckon_354 : decode cX4_reckon 354 = .ok (.baload, 1) := by decide +kernel
theorem dX4_reckon_355 : decode cX4_reckon 355 = .ok (.ifCond .ne 25, 3) := by decide +kernel
theorem dX4_reckon_358 : decode cX4_reckon 358 = .ok (.aload_n 0, 1) := by decide +kernel
theorem dX4_reckon_359 : decode cX4_reckon 359 = .ok (.getfield 34, 3) := by decide +kernel
theorem dX4_reckon_362 : decode cX4_reckon 362 = .ok (.iload_n 2, 1) := by decide +kernel
theorem dX4_reckon_363 : decode cX4_reckon 363 = .ok (.aaload, 1) := by decide +kernel
theorem dX4_reckon_364 : decode cX4_reckon 364 = .ok (.iload_n 1, 1) := by decide +kernel
theorem dX4_reckon_365 : decode cX4_reckon 365 = .ok (.baload, 1) := by decide +kernel
theorem dX4_reckon_366 : decode cX4_reckon 366 = .ok (.ifCond .eq 18, 3) := by decide +kernel
theorem dX4_reckon_369 : decode cX4_reckon 369 = .ok (.aload_n 0, 1) := by decide +kernel
theorem dX4_reckon_370 : decode cX4_reckon 370 = .ok (.getfield 34, 3) := by decide +kernel
theorem dX4_reckon_373 : decode cX4_reckon 373 = .ok (.iload_n 1, 1) := by decide +kernel
theorem dX4_reckon_374 : decode cX4_reckon 374 = .ok (.aaload, 1) := by decide +kernel
theorem dX4_reckon_375 : decode cX4_reckon 375 = .ok (.iload_n 3, 1) := by decide +kernel
theorem dX4_reckon_376 : decode cX4_reckon 376 = .ok (.baload, 1) := by decide +kernel
theorem dX4_reckon_377 : decode cX4_reckon 377 = .ok (.ifCond .eq 7, 3) := by decide +kernel
theorem dX4_reckon_380 : decode cX4_reckon 380 = .ok (.iconst 1, 1) := by decide +kernel
theorem dX4_reckon_381 : decode cX4_reckon 381 = .ok (.goto 4, 3) := by decide +kernel
theorem dX4_reckon_384 : decode cX4_reckon 384 = .ok (.iconst 0, 1) := by decide +kernel
theorem dX4_reckon_385 : decode cX4_reckon 385 = .ok (.bastore, 1) := by decide +kernel
theorem dX4_reckon_386 : decode cX4_reckon 386 = .ok (.iinc 3 1, 3) := by decide +kernel
theorem dX4_reckon_389 : decode cX4_reckon 389 = .ok (.goto (-57), 3) := by decide +kernel
theorem dX4_reckon_392 : decode cX4_reckon 392 = .ok (.iinc 2 1, 3) := by decide +kernel
theorem dX4_reckon_395 : decode cX4_reckon 395 = .ok (.goto (-73), 3) := by decide +kernel
theorem dX4_reckon_398 : decode cX4_reckon 398 = .ok (.iinc 1 1, 3) := by decide +kernel
theorem dX4_reckon_401 : decode cX4_reckon 401 = .ok (.goto (-89), 3) := by decide +kernel
theorem dX4_reckon_404 : decode cX4_reckon 404 = .ok (.aload_n 0, 1) := by decide +kernel
theorem dX4_reckon_405 : decode cX4_reckon 405 = .ok (.areturn, 1) := by decide +kernel
theorem dX4_from_0 : decode cX4_from 0 = .ok (.iconst 0, 1) := by decide +kernel
theorem dX4_from_1 : decode cX4_from 1 = .ok (.istore_n 2, 1) := by decide +kernel
theorem dX4_from_2 : decode cX4_from 2 = .ok (.iconst 0, 1) := by decide +kernel
theorem dX4_from_3 : decode cX4_from 3 = .ok (.istore_n 3, 1) := by decide +kernel
theorem dX4_from_4 : decode cX4_from 4 = .ok (.iload_n 3, 1) := by decide +kernel
theorem dX4_from_5 : decode cX4_from 5 = .ok (.aload_n 0, 1) := by decide +kernel
theorem dX4_from_6 : decode cX4_from 6 = .ok (.getfield 25, 3) := by decide +kernel
theorem dX4_from_9 : decode cX4_from 9 = .ok (.if_icmp .ge 52, 3) := by decide +kernel
theorem dX4_from_12 : decode cX4_from 12 = .ok (.aload_n 0, 1) := by decide +kernel
theorem dX4_from_13 : decode cX4_from 13 = .ok (.getfield 31, 3) := by decide +kernel
theorem dX4_from_16 : decode cX4_from 16 = .ok (.iload_n 1, 1) := by decide +kernel
theorem dX4_from_17 : decode cX4_from 17 = .ok (.aaload, 1) := by decide +kernel
theorem dX4_from_18 : decode cX4_from 18 = .ok (.iload_n 3, 1) := by decide +kernel
theorem dX4_from_19 : decode cX4_from 19 = .ok (.baload, 1) := by decide +kernel
theorem dX4_from_20 : decode cX4_from 20 = .ok (.ifCond .ne 14, 3) := by decide +kernel
theorem dX4_from_23 : decode cX4_from 23 = .ok (.aload_n 0, 1) := by decide +kernel
theorem dX4_from_24 : decode cX4_from 24 = .ok (.getfield 34, 3) := by decide +kernel
theorem dX4_from_27 : decode cX4_from 27 = .ok (.iload_n 1, 1) := by decide +kernel
theorem dX4_from_28 : decode cX4_from 28 = .ok (.aaload, 1) := by decide +kernel
theorem dX4_from_29 : decode cX4_from 29 = .ok (.iload_n 3, 1) := by decide +kernel
theorem dX4_from_30 : decode cX4_from 30 = .ok (.baload, 1) := by decide +kernel
theorem dX4_from_31 : decode cX4_from 31 = .ok (.ifCond .eq 24, 3) := by decide +kernel
theorem dX4_from_34 : decode cX4_from 34 = .ok (.aload_n 0, 1) := by decide +kernel
theorem dX4_from_35 : decode cX4_from 35 = .ok (.getfield 22, 3) := by decide +kernel
theorem dX4_from_38 : decode cX4_from 38 = .ok (.iload_n 3, 1) := by decide +kernel
theorem dX4_from_39 : decode cX4_from 39 = .ok (.aaload, 1) := by decide +kernel
theorem dX4_from_40 : decode cX4_from 40 = .ok (.iconst 0, 1) := by decide +kernel
theorem dX4_from_41 : decode cX4_from 41 = .ok (.iaload, 1) := by decide +kernel
theorem dX4_from_42 : decode cX4_from 42 = .ok (.iload_n 2, 1) := by decide +kernel
theorem dX4_from_43 : decode cX4_from 43 = .ok (.if_icmp .le 12, 3) := by decide +kernel
theorem dX4_from_46 : decode cX4_from 46 = .ok (.aload_n 0, 1) := by decide +kernel
theorem dX4_from_47 : decode cX4_from 47 = .ok (.getfield 22, 3) := by decide +kernel
theorem dX4_from_50 : decode cX4_from 50 = .ok (.iload_n 3, 1) := by decide +kernel
theorem dX4_from_51 : decode cX4_from 51 = .ok (.aaload, 1) := by decide +kernel
theorem dX4_from_52 : decode cX4_from 52 = .ok (.iconst 0, 1) := by decide +kernel
theorem dX4_from_53 : decode cX4_from 53 = .ok (.iaload, 1) := by decide +kernel
theorem dX4_from_54 : decode cX4_from 54 = .ok (.istore_n 2, 1) := by decide +kernel
theorem dX4_from_55 : decode cX4_from 55 = .ok (.iinc 3 1, 3) := by decide +kernel
theorem dX4_from_58 : decode cX4_from 58 = .ok (.goto (-54), 3) := by decide +kernel
theorem dX4_from_61 : decode cX4_from 61 = .ok (.iload_n 2, 1) := by decide +kernel
theorem dX4_from_62 : decode cX4_from 62 = .ok (.ireturn, 1) := by decide +kernel
theorem dX4_to_0 : decode cX4_to 0 = .ok (.sipush 9999, 3) := by decide +kernel
theorem dX4_to_3 : decode cX4_to 3 = .ok (.istore_n 2, 1) := by decide +kernel
theorem dX4_to_4 : decode cX4_to 4 = .ok (.iconst 0, 1) := by decide +kernel
theorem dX4_to_5 : decode cX4_to 5 = .ok (.istore_n 3, 1) := by decide +kernel
theorem dX4_to_6 : decode cX4_to 6 = .ok (.iload_n 3, 1) := by decide +kernel
theorem dX4_to_7 : decode cX4_to 7 = .ok (.aload_n 0, 1) := by decide +kernel
theorem dX4_to_8 : decode cX4_to 8 = .ok (.getfield 25, 3) := by decide +kernel
theorem dX4_to_11 : decode cX4_to 11 = .ok (.if_icmp .ge 63, 3) := by decide +kernel
theorem dX4_to_14 : decode cX4_to 14 = .ok (.aload_n 0, 1) := by decide +kernel
theorem dX4_to_15 : decode cX4_to 15 = .ok (.getfield 31, 3) := by decide +kernel
theorem dX4_to_18 : decode cX4_to 18 = .ok (.iload_n 1, 1) := by decide +kernel
theorem dX4_to_19 : decode cX4_to 19 = .ok (.aaload, 1) := by decide +kernel
theorem dX4_to_20 : decode cX4_to 20 = .ok (.iload_n 3, 1) := by decide +kernel
theorem dX4_to_21 : decode cX4_to 21 = .ok (.baload, 1) := by decide +kernel
theorem dX4_to_22 : decode cX4_to 22 = .ok (.ifCond .ne 14, 3) := by decide +kernel
theorem dX4_to_25 : decode cX4_to 25 = .ok (.aload_n 0, 1) := by decide +kernel
theorem dX4_to_26 : decode cX4_to 26 = .ok (.getfield 34, 3) := by decide +kernel
theorem dX4_to_29 : decode cX4_to 29 = .ok (.iload_n 3, 1) := by decide +kernel
theorem dX4_to_30 : decode cX4_to 30 = .ok (.aaload, 1) := by decide +kernel
theorem dX4_to_31 : decode cX4_to 31 = .ok (.iload_n 1, 1) := by decide +kernel
theorem dX4_to_32 : decode cX4_to 32 = .ok (.baload, 1) := by decide +kernel
theorem dX4_to_33 : decode cX4_to 33 = .ok (.ifCond .eq 35, 3) := by decide +kernel
theorem dX4_to_36 : decode cX4_to 36 = .ok (.aload_n 0, 1) := by decide +kernel
theorem dX4_to_37 : decode cX4_to 37 = .ok (.getfield 22, 3) := by decide +kernel
theorem dX4_to_40 : decode cX4_to 40 = .ok (.iload_n 3, 1) := by decide +kernel
theorem dX4_to_41 : decode cX4_to 41 = .ok (.aaload, 1) := by decide +kernel
theorem dX4_to_42 : decode cX4_to 42 = .ok (.iconst 0, 1) := by decide +kernel
theorem dX4_to_43 : decode cX4_to 43 = .ok (.iaload, 1) := by decide +kernel
theorem dX4_to_44 : decode cX4_to 44 = .ok (.ifCond .lt 24, 3) := by decide +kernel
theorem dX4_to_47 : decode cX4_to 47 = .ok (.aload_n 0, 1) := by decide +kernel
theorem dX4_to_48 : decode cX4_to 48 = .ok (.getfield 22, 3) := by decide +kernel
theorem dX4_to_51 : decode cX4_to 51 = .ok (.iload_n 3, 1) := by decide +kernel
theorem dX4_to_52 : decode cX4_to 52 = .ok (.aaload, 1) := by decide +kernel
theorem dX4_to_53 : decode cX4_to 53 = .ok (.iconst 1, 1) := by decide +kernel
theorem dX4_to_54 : decode cX4_to 54 = .ok (.iaload, 1) := by decide +kernel
theorem dX4_to_55 : decode cX4_to 55 = .ok (.iload_n 2, 1) := by decide +kernel
theorem dX4_to_56 : decode cX4_to 56 = .ok (.if_icmp .ge 12, 3) := by decide +kernel
theorem dX4_to_59 : decode cX4_to 59 = .ok (.aload_n 0, 1) := by decide +kernel
theorem dX4_to_60 : decode cX4_to 60 = .ok (.getfield 22, 3) := by decide +kernel
theorem dX4_to_63 : decode cX4_to 63 = .ok (.iload_n 3, 1) := by decide +kernel
theorem dX4_to_64 : decode cX4_to 64 = .ok (.aaload, 1) := by decide +kernel
theorem dX4_to_65 : decode cX4_to 65 = .ok (.iconst 1, 1) := by decide +kernel
theorem dX4_to_66 : decode cX4_to 66 = .ok (.iaload, 1) := by decide +kernel
theorem dX4_to_67 : decode cX4_to 67 = .ok (.istore_n 2, 1) := by decide +kernel
theorem dX4_to_68 : decode cX4_to 68 = .ok (.iinc 3 1, 3) := by decide +kernel
theorem dX4_to_71 : decode cX4_to 71 = .ok (.goto (-65), 3) := by decide +kernel
theorem dX4_to_74 : decode cX4_to 74 = .ok (.iload_n 2, 1) := by decide +kernel
theorem dX4_to_75 : decode cX4_to 75 = .ok (.ireturn, 1) := by decide +kernel
set_option maxRecDepth 20000 in
theorem ggX4_doubtful_X4_from : GoodIn wsX4_doubtful wsX4_from := goodIn_r _ [6, 1, 7, 8, 9, 14, 15, 16, 17, 18, 19, 20] (by decide +kernel) (by decide +kernel)
set_option maxRecDepth 20000 in
theorem gX4_doubtful_X4_from : GoodIn wsX4_doubtful (wsV RX4 37 RX4 yX4_from wsX4_from) := goodIn_app (goodIn_of _ (by decide +kernel)) ggX4_doubtful_X4_from
set_option maxRecDepth 20000 in
theorem ggX4_doubtful_X4_to : GoodIn wsX4_doubtful wsX4_to := goodIn_r _ [13, 1, 7, 8, 9, 14, 15, 16, 17, 18, 19, 20] (by decide +kernel) (by decide +kernel)
set_option maxRecDepth 20000 in
theorem gX4_doubtful_X4_to : GoodIn wsX4_doubtful (wsV RX4 41 RX4 yX4_to wsX4_to) := goodIn_app (goodIn_of _ (by decide +kernel)) ggX4_doubtful_X4_to
theorem dX4_doubtful_0 : decode cX4_doubtful 0 = .ok (.iconst 0, 1) := by decide +kernel
theorem dX4_doubtful_1 : decode cX4_doubtful 1 = .ok (.istore_n 1, 1) := by decide +kernel
theorem dX4_doubtful_2 : decode cX4_doubtful 2 = .ok (.iconst 0, 1) := by decide +kernel
theorem dX4_doubtful_3 : decode cX4_doubtful 3 = .ok (.istore_n 2, 1) := by decide +kernel
theorem dX4_doubtful_4 : decode cX4_doubtful 4 = .ok (.iload_n 2, 1) := by decide +kernel
theorem dX4_doubtful_5 : decode cX4_doubtful 5 = .ok (.aload_n 0, 1) := by decide +kernel
theorem dX4_doubtful_6 : decode cX4_doubtful 6 = .ok (.getfield 25, 3) := by decide +kernel
theorem dX4_doubtful_9 : decode cX4_doubtful 9 = .ok (.if_icmp .ge 30, 3) := by decide +kernel
theorem dX4_doubtful_12 : decode cX4_doubtful 12 = .ok (.iload_n 1, 1) := by decide +kernel
theorem dX4_doubtful_13 : decode cX4_doubtful 13 = .ok (.aload_n 0, 1) := by decide +kernel
theorem dX4_doubtful_14 : decode cX4_doubtful 14 = .ok (.iload_n 2, 1) := by decide +kernel
theorem dX4_doubtful_15 : decode cX4_doubtful 15 = .ok (.invokevirtual 37, 3) := by decide +kernel
theorem dX4_doubtful_18 : decode cX4_doubtful 18 = .ok (.aload_n 0, 1) := by decide +kernel
theorem dX4_doubtful_19 : decode cX4_doubtful 19 = .ok (.iload_n 2, 1) := by decide +kernel
theorem dX4_doubtful_20 : decode cX4_doubtful 20 = .ok (.invokevirtual 41, 3) := by decide +kernel
theorem dX4_doubtful_23 : decode cX4_doubtful 23 = .ok (.if_icmp .le 7, 3) := by decide +kernel
theorem dX4_doubtful_26 : decode cX4_doubtful 26 = .ok (.iconst 1, 1) := by decide +kernel
theorem dX4_doubtful_27 : decode cX4_doubtful 27 = .ok (.goto 4, 3) := by decide +kernel
theorem dX4_doubtful_30 : decode cX4_doubtful 30 = .ok (.iconst 0, 1) := by decide +kernel
theorem dX4_doubtful_31 : decode cX4_doubtful 31 = .ok (.iadd, 1) := by decide +kernel
theorem dX4_doubtful_32 : decode cX4_doubtful 32 = .ok (.istore_n 1, 1) := by decide +kernel
theorem dX4_doubtful_33 : decode cX4_doubtful 33 = .ok (.iinc 2 1, 3) := by decide +kernel
theorem dX4_doubtful_36 : decode cX4_doubtful 36 = .ok (.goto (-32), 3) := by decide +kernel
theorem dX4_doubtful_39 : decode cX4_doubtful 39 = .ok (.iload_n 1, 1) := by decide +kernel
theorem dX4_doubtful_40 : decode cX4_doubtful 40 = .ok (.ireturn, 1) := by decide +kernel
theorem dX4_pairs_0 : decode cX4_pairs 0 = .ok (.iconst 0, 1) := by decide +kernel
theorem dX4_pairs_1 : decode cX4_pairs 1 = .ok (.istore_n 1, 1) := by decide +kernel
theorem dX4_pairs_2 : decode cX4_pairs 2 = .ok (.aload_n 0, 1) := by decide +kernel
theorem dX4_pairs_3 : decode cX4_pairs 3 = .ok (.getfield 34, 3) := by decide +kernel
theorem dX4_pairs_6 : decode cX4_pairs 6 = .ok (.astore_n 2, 1) := by decide +kernel
theorem dX4_pairs_7 : decode cX4_pairs 7 = .ok (.aload_n 2, 1) := by decide +kernel
theorem dX4_pairs_8 : decode cX4_pairs 8 = .ok (.arraylength, 1) := by decide +kernel
theorem dX4_pairs_9 : decode cX4_pairs 9 = .ok (.istore_n 3, 1) := by decide +kernel
theorem dX4_pairs_10 : decode cX4_pairs 10 = .ok (.iconst 0, 1) := by decide +kernel
theorem dX4_pairs_11 : decode cX4_pairs 11 = .ok (.istore 4, 2) := by decide +kernel
theorem dX4_pairs_13 : decode cX4_pairs 13 = .ok (.iload 4, 2) := by decide +kernel
theorem dX4_pairs_15 : decode cX4_pairs 15 = .ok (.iload_n 3, 1) := by decide +kernel
theorem dX4_pairs_16 : decode cX4_pairs 16 = .ok (.if_icmp .ge 60, 3) := by decide +kernel
theorem dX4_pairs_19 : decode cX4_pairs 19 = .ok (.aload_n 2, 1) := by decide +kernel
theorem dX4_pairs_20 : decode cX4_pairs 20 = .ok (.iload 4, 2) := by decide +kernel
theorem dX4_pairs_22 : decode cX4_pairs 22 = .ok (.aaload, 1) := by decide +kernel
theorem dX4_pairs_23 : decode cX4_pairs 23 = .ok (.astore 5, 2) := by decide +kernel
theorem dX4_pairs_25 : decode cX4_pairs 25 = .ok (.aload 5, 2) := by decide +kernel
theorem dX4_pairs_27 : decode cX4_pairs 27 = .ok (.astore 6, 2) := by decide +kernel
theorem dX4_pairs_29 : decode cX4_pairs 29 = .ok (.aload 6, 2) := by decide +kernel
theorem dX4_pairs_31 : decode cX4_pairs 31 = .ok (.arraylength, 1) := by decide +kernel
theorem dX4_pairs_32 : decode cX4_pairs 32 = .ok (.istore 7, 2) := by decide +kernel
theorem dX4_pairs_34 : decode cX4_pairs 34 = .ok (.iconst 0, 1) := by decide +kernel
theorem dX4_pairs_35 : decode cX4_pairs 35 = .ok (.istore 8, 2) := by decide +kernel
theorem dX4_pairs_37 : decode cX4_pairs 37 = .ok (.iload 8, 2) := by decide +kernel
theorem dX4_pairs_39 : decode cX4_pairs 39 = .ok (.iload 7, 2) := by decide +kernel
theorem dX4_pairs_41 : decode cX4_pairs 41 = .ok (.if_icmp .ge 29, 3) := by decide +kernel
theorem dX4_pairs_44 : decode cX4_pairs 44 = .ok (.aload 6, 2) := by decide +kernel
theorem dX4_pairs_46 : decode cX4_pairs 46 = .ok (.iload 8, 2) := by decide +kernel
theorem dX4_pairs_48 : decode cX4_pairs 48 = .ok (.baload, 1) := by decide +kernel
theorem dX4_pairs_49 : decode cX4_pairs 49 = .ok (.istore 9, 2) := by decide +kernel
theorem dX4_pairs_51 : decode cX4_pairs 51 = .ok (.iload_n 1, 1) := by decide +kernel
theorem dX4_pairs_52 : decode cX4_pairs 52 = .ok (.iload 9, 2) := by decide +kernel
theorem dX4_pairs_54 : decode cX4_pairs 54 = .ok (.ifCond .eq 7, 3) := by decide +kernel
theorem dX4_pairs_57 : decode cX4_pairs 57 = .ok (.iconst 1, 1) := by decide +kernel
theorem dX4_pairs_58 : decode cX4_pairs 58 = .ok (.goto 4, 3) := by decide +kernel
theorem dX4_pairs_61 : decode cX4_pairs 61 = .ok (.iconst 0, 1) := by decide +kernel
theorem dX4_pairs_62 : decode cX4_pairs 62 = .ok (.iadd, 1) := by decide +kernel
theorem dX4_pairs_63 : decode cX4_pairs 63 = .ok (.istore_n 1, 1) := by decide +kernel
theorem dX4_pairs_64 : decode cX4_pairs 64 = .ok (.iinc 8 1, 3) := by decide +kernel
theorem dX4_pairs_67 : decode cX4_pairs 67 = .ok (.goto (-30), 3) := by decide +kernel
theorem dX4_pairs_70 : decode cX4_pairs 70 = .ok (.iinc 4 1, 3) := by decide +kernel
theorem dX4_pairs_73 : decode cX4_pairs 73 = .ok (.goto (-60), 3) := by decide +kernel
theorem dX4_pairs_76 : decode cX4_pairs 76 = .ok (.iload_n 1, 1) := by decide +kernel
theorem dX4_pairs_77 : decode cX4_pairs 77 = .ok (.ireturn, 1) := by decide +kernel
theorem dX4_phase_0 : decode cX4_phase 0 = .ok (.aload_n 0, 1) := by decide +kernel
theorem dX4_phase_1 : decode cX4_phase 1 = .ok (.getfield 25, 3) := by decide +kernel
theorem dX4_phase_4 : decode cX4_phase 4 = .ok (.newarray .boolean, 2) := by decide +kernel
theorem dX4_phase_6 : decode cX4_phase 6 = .ok (.astore_n 2, 1) := by decide +kernel
theorem dX4_phase_7 : decode cX4_phase 7 = .ok (.aload_n 2, 1) := by decide +kernel
theorem dX4_phase_8 : decode cX4_phase 8 = .ok (.iload_n 1, 1) := by decide +kernel
theorem dX4_phase_9 : decode cX4_phase 9 = .ok (.iconst 1, 1) := by decide +kernel
theorem dX4_phase_10 : decode cX4_phase 10 = .ok (.bastore, 1) := by decide +kernel
theorem dX4_phase_11 : decode cX4_phase 11 = .ok (.iconst (-1), 1) := by decide +kernel
theorem dX4_phase_12 : decode cX4_phase 12 = .ok (.istore_n 3, 1) := by decide +kernel
theorem dX4_phase_13 : decode cX4_phase 13 = .ok (.iconst 1, 1) := by decide +kernel
theorem dX4_phase_14 : decode cX4_phase 14 = .ok (.istore 4, 2) := by decide +kernel
theorem dX4_phase_16 : decode cX4_phase 16 = .ok (.iload 4, 2) := by decide +kernel
theorem dX4_phase_18 : decode cX4_phase 18 = .ok (.ifCond .eq 133, 3) := by decide +kernel
theorem dX4_phase_21 : decode cX4_phase 21 = .ok (.iconst 0, 1) := by decide +kernel
theorem dX4_phase_22 : decode cX4_phase 22 = .ok (.istore 4, 2) := by decide +kernel
theorem dX4_phase_24 : decode cX4_phase 24 = .ok (.aload_n 0, 1) := by decide +kernel
theorem dX4_phase_25 : decode cX4_phase 25 = .ok (.getfield 25, 3) := by decide +kernel
theorem dX4_phase_28 : decode cX4_phase 28 = .ok (.newarray .boolean, 2) := by decide +kernel
theorem dX4_phase_30 : decode cX4_phase 30 = .ok (.astore 5, 2) := by decide +kernel
theorem dX4_phase_32 : decode cX4_phase 32 = .ok (.iconst 0, 1) := by decide +kernel
theorem dX4_phase_33 : decode cX4_phase 33 = .ok (.istore 6, 2) := by decide +kernel
theorem dX4_phase_35 : decode cX4_phase 35 = .ok (.iload 6, 2) := by decide +kernel
theorem dX4_phase_37 : decode cX4_phase 37 = .ok (.aload_n 0, 1) := by decide +kernel
theorem dX4_phase_38 : decode cX4_phase 38 = .ok (.getfield 25, 3) := by decide +kernel
theorem dX4_phase_41 : decode cX4_phase 41 = .ok (.if_icmp .ge 53, 3) := by decide +kernel
theorem dX4_phase_44 : decode cX4_phase 44 = .ok (.iconst 0, 1) := by decide +kernel
theorem dX4_phase_45 : decode cX4_phase 45 = .ok (.istore 7, 2) := by decide +kernel
theorem dX4_phase_47 : decode cX4_phase 47 = .ok (.iload 7, 2) := by decide +kernel
theorem dX4_phase_49 : decode cX4_phase 49 = .ok (.aload_n 0, 1) := by decide +kernel
theorem dX4_phase_50 : decode cX4_phase 50 = .ok (.getfield 25, 3) := by decide +kernel
theorem dX4_phase_53 : decode cX4_phase 53 = .ok (.if_icmp .ge 35, 3) := by decide +kernel
theorem dX4_phase_56 : decode cX4_phase 56 = .ok (.aload_n 2, 1) := by decide +kernel
theorem dX4_phase_57 : decode cX4_phase 57 = .ok (.iload 6, 2) := by decide +kernel
theorem dX4_phase_59 : decode cX4_phase 59 = .ok (.baload, 1) := by decide +kernel
theorem dX4_phase_60 : decode cX4_phase 60 = .ok (.ifCond .eq 22, 3) := by decide +kernel
theorem dX4_phase_63 : decode cX4_phase 63 = .ok (.aload_n 0, 1) := by decide +kernel
theorem dX4_phase_64 : decode cX4_phase 64 = .ok (.getfield 34, 3) := by decide +kernel
theorem dX4_phase_67 : decode cX4_phase 67 = .ok (.iload 6, 2) := by decide +kernel
theorem dX4_phase_69 : decode cX4_phase 69 = .ok (.aaload, 1) := by decide +kernel
theorem dX4_phase_70 : decode cX4_phase 70 = .ok (.iload 7, 2) := by decide +kernel
theorem dX4_phase_72 : decode cX4_phase 72 = .ok (.baload, 1) := by decide +kernel
theorem dX4_phase_73 : decode cX4_phase 73 = .ok (.ifCond .eq 9, 3) := by decide +kernel
theorem dX4_phase_76 : decode cX4_phase 76 = .ok (.aload 5, 2) := by decide +kernel
theorem dX4_phase_78 : decode cX4_phase 78 = .ok (.iload 7, 2) := by decide +kernel
theorem dX4_phase_80 : decode cX4_phase 80 = .ok (.iconst 1, 1) := by decide +kernel
theorem dX4_phase_81 : decode cX4_phase 81 = .ok (.bastore, 1) := by decide +kernel
theorem dX4_phase_82 : decode cX4_phase 82 = .ok (.iinc 7 1, 3) := by decide +kernel
theorem dX4_phase_85 : decode cX4_phase 85 = .ok (.goto (-38), 3) := by decide +kernel
theorem dX4_phase_88 : decode cX4_phase 88 = .ok (.iinc 6 1, 3) := by decide +kernel
theorem dX4_phase_91 : decode cX4_phase 91 = .ok (.goto (-56), 3) := by decide +kernel
theorem dX4_phase_94 : decode cX4_phase 94 = .ok (.aload_n 2, 1) := by decide +kernel
theorem dX4_phase_95 : decode cX4_phase 95 = .ok (.astore 6, 2) := by decide +kernel
theorem dX4_phase_97 : decode cX4_phase 97 = .ok (.aload 6, 2) := by decide +kernel
theorem dX4_phase_99 : decode cX4_phase 99 = .ok (.arraylength, 1) := by decide +kernel
theorem dX4_phase_100 : decode cX4_phase 100 = .ok (.istore 7, 2) := by decide +kernel
theorem dX4_phase_102 : decode cX4_phase 102 = .ok (.iconst 0, 1) := by decide +kernel
theorem dX4_phase_103 : decode cX4_phase 103 = .ok (.istore 8, 2) := by decide +kernel
theorem dX4_phase_105 : decode cX4_phase 105 = .ok (.iload 8, 2) := by decide +kernel
theorem dX4_phase_107 : decode cX4_phase 107 = .ok (.iload 7, 2) := by decide +kernel
theorem dX4_phase_109 : decode cX4_phase 109 = .ok (.if_icmp .ge 33, 3) := by decide +kernel
theorem dX4_phase_112 : decode cX4_phase 112 = .ok (.aload 6, 2) := by decide +kernel
theorem dX4_phase_114 : decode cX4_phase 114 = .ok (.iload 8, 2) := by decide +kernel
theorem dX4_phase_116 : decode cX4_phase 116 = .ok (.baload, 1) := by decide +kernel
theorem dX4_phase_117 : decode cX4_phase 117 = .ok (.istore 9, 2) := by decide +kernel
theorem dX4_phase_119 : decode cX4_phase 119 = .ok (.iload 4, 2) := by decide +kernel
theorem dX4_phase_121 : decode cX4_phase 121 = .ok (.ifCond .ne 8, 3) := by decide +kernel
theorem dX4_phase_124 : decode cX4_phase 124 = .ok (.iload 9, 2) := by decide +kernel
theorem dX4_phase_126 : decode cX4_phase 126 = .ok (.ifCond .eq 7, 3) := by decide +kernel
theorem dX4_phase_129 : decode cX4_phase 129 = .ok (.iconst 1, 1) := by decide +kernel
theorem dX4_phase_130 : decode cX4_phase 130 = .ok (.goto 4, 3) := by decide +kernel
theorem dX4_phase_133 : decode cX4_phase 133 = .ok (.iconst 0, 1) := by decide +kernel
theorem dX4_phase_134 : decode cX4_phase 134 = .ok (.istore 4, 2) := by decide +kernel
theorem dX4_phase_136 : decode cX4_phase 136 = .ok (.iinc 8 1, 3) := by decide +kernel
theorem dX4_phase_139 : decode cX4_phase 139 = .ok (.goto (-34), 3) := by decide +kernel
theorem dX4_phase_142 : decode cX4_phase 142 = .ok (.aload 5, 2) := by decide +kernel
theorem dX4_phase_144 : decode cX4_phase 144 = .ok (.astore_n 2, 1) := by decide +kernel
theorem dX4_phase_145 : decode cX4_phase 145 = .ok (.iinc 3 1, 3) := by decide +kernel
theorem dX4_phase_148 : decode cX4_phase 148 = .ok (.goto (-132), 3) := by decide +kernel
theorem dX4_phase_151 : decode cX4_phase 151 = .ok (.iload_n 3, 1) := by decide +kernel
theorem dX4_phase_152 : decode cX4_phase 152 = .ok (.iconst 1, 1) := by decide +kernel
theorem dX4_phase_153 : decode cX4_phase 153 = .ok (.isub, 1) := by decide +kernel
theorem dX4_phase_154 : decode cX4_phase 154 = .ok (.ireturn, 1) := by decide +kernel
theorem dX4_season_0 : decode cX4_season 0 = .ok (.iconst 4, 1) := by decide +kernel
theorem dX4_season_1 : decode cX4_season 1 = .ok (.newarray .int, 2) := by decide +kernel
theorem dX4_season_3 : decode cX4_season 3 = .ok (.dup, 1) := by decide +kernel
theorem dX4_season_4 : decode cX4_season 4 = .ok (.iconst 0, 1) := by decide +kernel
theorem dX4_season_5 : decode cX4_season 5 = .ok (.iconst 3, 1) := by decide +kernel
theorem dX4_season_6 : decode cX4_season 6 = .ok (.aload_n 1, 1) := by decide +kernel
theorem dX4_season_7 : decode cX4_season 7 = .ok (.iconst 0, 1) := by decide +kernel
theorem dX4_season_8 : decode cX4_season 8 = .ok (.iaload, 1) := by decide +kernel
theorem dX4_season_9 : decode cX4_season 9 = .ok (.imul, 1) := by decide +kernel
theorem dX4_season_10 : decode cX4_season 10 = .ok (.aload_n 1, 1) := by decide +kernel
theorem dX4_season_11 : decode cX4_season 11 = .ok (.iconst 3, 1) := by decide +kernel
theorem dX4_season_12 : decode cX4_season 12 = .ok (.iaload, 1) := by decide +kernel
theorem dX4_season_13 : decode cX4_season 13 = .ok (.iadd, 1) := by decide +kernel
theorem dX4_season_14 : decode cX4_season 14 = .ok (.iastore, 1) := by decide +kernel
theorem dX4_season_15 : decode cX4_season 15 = .ok (.dup, 1) := by decide +kernel
theorem dX4_season_16 : decode cX4_season 16 = .ok (.iconst 1, 1) := by decide +kernel
theorem dX4_season_17 : decode cX4_season 17 = .ok (.iconst 2, 1) := by decide +kernel
theorem dX4_season_18 : decode cX4_season 18 = .ok (.aload_n 1, 1) := by decide +kernel
theorem dX4_season_19 : decode cX4_season 19 = .ok (.iconst 1, 1) := by decide +kernel
theorem dX4_season_20 : decode cX4_season 20 = .ok (.iaload, 1) := by decide +kernel
theorem dX4_season_21 : decode cX4_season 21 = .ok (.imul, 1) := by decide +kernel
theorem dX4_season_22 : decode cX4_season 22 = .ok (.aload_n 1, 1) := by decide +kernel
theorem dX4_season_23 : decode cX4_season 23 = .ok (.iconst 2, 1) := by decide +kernel
theorem dX4_season_24 : decode cX4_season 24 = .ok (.iaload, 1) := by decide +kernel
theorem dX4_season_25 : decode cX4_season 25 = .ok (.iconst 2, 1) := by decide +kernel
theorem dX4_season_26 : decode cX4_season 26 = .ok (.idiv, 1) := by decide +kernel
theorem dX4_season_27 : decode cX4_season 27 = .ok (.iadd, 1) := by decide +kernel
theorem dX4_season_28 : decode cX4_season 28 = .ok (.iastore, 1) := by decide +kernel
theorem dX4_season_29 : decode cX4_season 29 = .ok (.dup, 1) := by decide +kernel
theorem dX4_season_30 : decode cX4_season 30 = .ok (.iconst 2, 1) := by decide +kernel
theorem dX4_season_31 : decode cX4_season 31 = .ok (.iconst 2, 1) := by decide +kernel
theorem dX4_season_32 : decode cX4_season 32 = .ok (.aload_n 1, 1) := by decide +kernel
theorem dX4_season_33 : decode cX4_season 33 = .ok (.iconst 2, 1) := by decide +kernel
theorem dX4_season_34 : decode cX4_season 34 = .ok (.iaload, 1) := by decide +kernel
theorem dX4_season_35 : decode cX4_season 35 = .ok (.imul, 1) := by decide +kernel
theorem dX4_season_36 : decode cX4_season 36 = .ok (.aload_n 1, 1) := by decide +kernel
theorem dX4_season_37 : decode cX4_season 37 = .ok (.iconst 1, 1) := by decide +kernel
theorem dX4_season_38 : decode cX4_season 38 = .ok (.iaload, 1) := by decide +kernel
theorem dX4_season_39 : decode cX4_season 39 = .ok (.iadd, 1) := by decide +kernel
theorem dX4_season_40 : decode cX4_season 40 = .ok (.iastore, 1) := by decide +kernel
theorem dX4_season_41 : decode cX4_season 41 = .ok (.dup, 1) := by decide +kernel
theorem dX4_season_42 : decode cX4_season 42 = .ok (.iconst 3, 1) := by decide +kernel
theorem dX4_season_43 : decode cX4_season 43 = .ok (.iconst 4, 1) := by decide +kernel
theorem dX4_season_44 : decode cX4_season 44 = .ok (.aload_n 1, 1) := by decide +kernel
theorem dX4_season_45 : decode cX4_season 45 = .ok (.iconst 3, 1) := by decide +kernel
theorem dX4_season_46 : decode cX4_season 46 = .ok (.iaload, 1) := by decide +kernel
theorem dX4_season_47 : decode cX4_season 47 = .ok (.imul, 1) := by decide +kernel
theorem dX4_season_48 : decode cX4_season 48 = .ok (.aload_n 1, 1) := by decide +kernel
theorem dX4_season_49 : decode cX4_season 49 = .ok (.iconst 0, 1) := by decide +kernel
theorem dX4_season_50 : decode cX4_season 50 = .ok (.iaload, 1) := by decide +kernel
theorem dX4_season_51 : decode cX4_season 51 = .ok (.iadd, 1) := by decide +kernel
theorem dX4_season_52 : decode cX4_season 52 = .ok (.iastore, 1) := by decide +kernel
theorem dX4_season_53 : decode cX4_season 53 = .ok (.astore_n 2, 1) := by decide +kernel
theorem dX4_season_54 : decode cX4_season 54 = .ok (.iconst 3, 1) := by decide +kernel
theorem dX4_season_55 : decode cX4_season 55 = .ok (.istore_n 3, 1) := by decide +kernel
theorem dX4_season_56 : decode cX4_season 56 = .ok (.iconst 2, 1) := by decide +kernel
theorem dX4_season_57 : decode cX4_season 57 = .ok (.istore 4, 2) := by decide +kernel
theorem dX4_season_59 : decode cX4_season 59 = .ok (.iload 4, 2) := by decide +kernel
theorem dX4_season_61 : decode cX4_season 61 = .ok (.ifCond .lt 22, 3) := by decide +kernel
theorem dX4_season_64 : decode cX4_season 64 = .ok (.aload_n 2, 1) := by decide +kernel
theorem dX4_season_65 : decode cX4_season 65 = .ok (.iload 4, 2) := by decide +kernel
theorem dX4_season_67 : decode cX4_season 67 = .ok (.iaload, 1) := by decide +kernel
theorem dX4_season_68 : decode cX4_season 68 = .ok (.aload_n 2, 1) := by decide +kernel
theorem dX4_season_69 : decode cX4_season 69 = .ok (.iload_n 3, 1) := by decide +kernel
theorem dX4_season_70 : decode cX4_season 70 = .ok (.iaload, 1) := by decide +kernel
theorem dX4_season_71 : decode cX4_season 71 = .ok (.if_icmp .lt 6, 3) := by decide +kernel
theorem dX4_season_74 : decode cX4_season 74 = .ok (.iload 4, 2) := by decide +kernel
theorem dX4_season_76 : decode cX4_season 76 = .ok (.istore_n 3, 1) := by decide +kernel
theorem dX4_season_77 : decode cX4_season 77 = .ok (.iinc 4 (-1), 3) := by decide +kernel
theorem dX4_season_80 : decode cX4_season 80 = .ok (.goto (-21), 3) := by decide +kernel
theorem dX4_season_83 : decode cX4_season 83 = .ok (.aload_n 1, 1) := by decide +kernel
theorem dX4_season_84 : decode cX4_season 84 = .ok (.iconst 0, 1) := by decide +kernel
theorem dX4_season_85 : decode cX4_season 85 = .ok (.iaload, 1) := by decide +kernel
theorem dX4_season_86 : decode cX4_season 86 = .ok (.aload_n 1, 1) := by decide +kernel
theorem dX4_season_87 : decode cX4_season 87 = .ok (.iconst 1, 1) := by decide +kernel
theorem dX4_season_88 : decode cX4_season 88 = .ok (.iaload, 1) := by decide +kernel
theorem dX4_season_89 : decode cX4_season 89 = .ok (.iadd, 1) := by decide +kernel
theorem dX4_season_90 : decode cX4_season 90 = .ok (.aload_n 1, 1) := by decide +kernel
theorem dX4_season_91 : decode cX4_season 91 = .ok (.iconst 2, 1) := by decide +kernel
theorem dX4_season_92 : decode cX4_season 92 = .ok (.iaload, 1) := by decide +kernel
theorem dX4_season_93 : decode cX4_season 93 = .ok (.iadd, 1) := by decide +kernel
theorem dX4_season_94 : decode cX4_season 94 = .ok (.aload_n 1, 1) := by decide +kernel
theorem dX4_season_95 : decode cX4_season 95 = .ok (.iconst 3, 1) := by decide +kernel
theorem dX4_season_96 : decode cX4_season 96 = .ok (.iaload, 1) := by decide +kernel
theorem dX4_season_97 : decode cX4_season 97 = .ok (.iadd, 1) := by decide +kernel
theorem dX4_season_98 : decode cX4_season 98 = .ok (.ifCond .ne 7, 3) := by decide +kernel
theorem dX4_season_101 : decode cX4_season 101 = .ok (.iconst (-1), 1) := by decide +kernel
theorem dX4_season_102 : decode cX4_season 102 = .ok (.goto 4, 3) := by decide +kernel
theorem dX4_season_105 : decode cX4_season 105 = .ok (.iload_n 3, 1) := by decide +kernel
theorem dX4_season_106 : decode cX4_season 106 = .ok (.ireturn, 1) := by decide +kernel
