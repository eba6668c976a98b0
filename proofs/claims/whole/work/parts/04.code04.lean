theorem zd_M_basic_23 : decode ze_M_basic 23 = .ok (.getfield 68, 3) := by decide +kernel
theorem zd_M_basic_26 : decode ze_M_basic 26 = .ok (.bipush 14, 2) := by decide +kernel
theorem zd_M_basic_28 : decode ze_M_basic 28 = .ok (.laload, 1) := by decide +kernel
theorem zd_M_basic_29 : decode ze_M_basic 29 = .ok (.ldc2_w 119, 3) := by decide +kernel
theorem zd_M_basic_32 : decode ze_M_basic 32 = .ok (.lor, 1) := by decide +kernel
theorem zd_M_basic_33 : decode ze_M_basic 33 = .ok (.lastore, 1) := by decide +kernel
theorem zd_M_basic_34 : decode ze_M_basic 34 = .ok (.aload_n 0, 1) := by decide +kernel
theorem zd_M_basic_35 : decode ze_M_basic 35 = .ok (.iconst 1, 1) := by decide +kernel
theorem zd_M_basic_36 : decode ze_M_basic 36 = .ok (.iload_n 2, 1) := by decide +kernel
theorem zd_M_basic_37 : decode ze_M_basic 37 = .ok (.invokevirtual 208, 3) := by decide +kernel
theorem zd_M_basic_40 : decode ze_M_basic 40 = .ok (.ifCond .eq 47, 3) := by decide +kernel
theorem zd_M_basic_43 : decode ze_M_basic 43 = .ok (.aload_n 0, 1) := by decide +kernel
theorem zd_M_basic_44 : decode ze_M_basic 44 = .ok (.iload_n 2, 1) := by decide +kernel
theorem zd_M_basic_45 : decode ze_M_basic 45 = .ok (.invokevirtual 212, 3) := by decide +kernel
theorem zd_M_basic_48 : decode ze_M_basic 48 = .ok (.aload_n 0, 1) := by decide +kernel
theorem zd_M_basic_49 : decode ze_M_basic 49 = .ok (.getfield 68, 3) := by decide +kernel
theorem zd_M_basic_52 : decode ze_M_basic 52 = .ok (.bipush 14, 2) := by decide +kernel
theorem zd_M_basic_54 : decode ze_M_basic 54 = .ok (.aload_n 0, 1) := by decide +kernel
theorem zd_M_basic_55 : decode ze_M_basic 55 = .ok (.getfield 68, 3) := by decide +kernel
theorem zd_M_basic_58 : decode ze_M_basic 58 = .ok (.bipush 14, 2) := by decide +kernel
theorem zd_M_basic_60 : decode ze_M_basic 60 = .ok (.laload, 1) := by decide +kernel
theorem zd_M_basic_61 : decode ze_M_basic 61 = .ok (.ldc2_w 215, 3) := by decide +kernel
theorem zd_M_basic_64 : decode ze_M_basic 64 = .ok (.lor, 1) := by decide +kernel
theorem zd_M_basic_65 : decode ze_M_basic 65 = .ok (.lastore, 1) := by decide +kernel
theorem zd_M_basic_66 : decode ze_M_basic 66 = .ok (.aload_n 0, 1) := by decide +kernel
theorem zd_M_basic_67 : decode ze_M_basic 67 = .ok (.iconst 2, 1) := by decide +kernel
theorem zd_M_basic_68 : decode ze_M_basic 68 = .ok (.iload_n 2, 1) := by decide +kernel
theorem zd_M_basic_69 : decode ze_M_basic 69 = .ok (.invokevirtual 208, 3) := by decide +kernel
theorem zd_M_basic_72 : decode ze_M_basic 72 = .ok (.ifCond .eq 15, 3) := by decide +kernel
theorem zd_M_basic_75 : decode ze_M_basic 75 = .ok (.aload_n 0, 1) := by decide +kernel
theorem zd_M_basic_76 : decode ze_M_basic 76 = .ok (.getfield 68, 3) := by decide +kernel
theorem zd_M_basic_79 : decode ze_M_basic 79 = .ok (.bipush 9, 2) := by decide +kernel
theorem zd_M_basic_81 : decode ze_M_basic 81 = .ok (.aload_n 0, 1) := by decide +kernel
theorem zd_M_basic_82 : decode ze_M_basic 82 = .ok (.iload_n 2, 1) := by decide +kernel
theorem zd_M_basic_83 : decode ze_M_basic 83 = .ok (.invokevirtual 217, 3) := by decide +kernel
theorem zd_M_basic_86 : decode ze_M_basic 86 = .ok (.lastore, 1) := by decide +kernel
theorem zd_M_basic_87 : decode ze_M_basic 87 = .ok (.aload_n 0, 1) := by decide +kernel
theorem zd_M_basic_88 : decode ze_M_basic 88 = .ok (.iload_n 2, 1) := by decide +kernel
theorem zd_M_basic_89 : decode ze_M_basic 89 = .ok (.invokevirtual 220, 3) := by decide +kernel
theorem zd_M_basic_92 : decode ze_M_basic 92 = .ok (.return_, 1) := by decide +kernel
theorem zd_M_extension_0 : decode ze_M_extension 0 = .ok (.aload_n 0, 1) := by decide +kernel
theorem zd_M_extension_1 : decode ze_M_extension 1 = .ok (.bipush 48, 2) := by decide +kernel
theorem zd_M_extension_3 : decode ze_M_extension 3 = .ok (.iload_n 3, 1) := by decide +kernel
theorem zd_M_extension_4 : decode ze_M_extension 4 = .ok (.invokevirtual 203, 3) := by decide +kernel
theorem zd_M_extension_7 : decode ze_M_extension 7 = .ok (.istore 4, 2) := by decide +kernel
theorem zd_M_extension_9 : decode ze_M_extension 9 = .ok (.aload_n 0, 1) := by decide +kernel
theorem zd_M_extension_10 : decode ze_M_extension 10 = .ok (.getfield 197, 3) := by decide +kernel
theorem zd_M_extension_13 : decode ze_M_extension 13 = .ok (.istore 5, 2) := by decide +kernel
theorem zd_M_extension_15 : decode ze_M_extension 15 = .ok (.aload_n 0, 1) := by decide +kernel
theorem zd_M_extension_16 : decode ze_M_extension 16 = .ok (.iload 4, 2) := by decide +kernel
theorem zd_M_extension_18 : decode ze_M_extension 18 = .ok (.invokevirtual 217, 3) := by decide +kernel
theorem zd_M_extension_21 : decode ze_M_extension 21 = .ok (.lstore 6, 2) := by decide +kernel
theorem zd_M_extension_23 : decode ze_M_extension 23 = .ok (.aload_n 0, 1) := by decide +kernel
theorem zd_M_extension_24 : decode ze_M_extension 24 = .ok (.getfield 194, 3) := by decide +kernel
theorem zd_M_extension_27 : decode ze_M_extension 27 = .ok (.ifCond .ne 17, 3) := by decide +kernel
theorem zd_M_extension_30 : decode ze_M_extension 30 = .ok (.lload 6, 2) := by decide +kernel
theorem zd_M_extension_32 : decode ze_M_extension 32 = .ok (.lload_n 1, 1) := by decide +kernel
theorem zd_M_extension_33 : decode ze_M_extension 33 = .ok (.lcmp, 1) := by decide +kernel
theorem zd_M_extension_34 : decode ze_M_extension 34 = .ok (.ifCond .gt 10, 3) := by decide +kernel
theorem zd_M_extension_37 : decode ze_M_extension 37 = .ok (.aload_n 0, 1) := by decide +kernel
theorem zd_M_extension_38 : decode ze_M_extension 38 = .ok (.iconst 4, 1) := by decide +kernel
theorem zd_M_extension_39 : decode ze_M_extension 39 = .ok (.iload 5, 2) := by decide +kernel
theorem zd_M_extension_41 : decode ze_M_extension 41 = .ok (.invokevirtual 200, 3) := by decide +kernel
theorem zd_M_extension_44 : decode ze_M_extension 44 = .ok (.aload_n 0, 1) := by decide +kernel
theorem zd_M_extension_45 : decode ze_M_extension 45 = .ok (.iconst 1, 1) := by decide +kernel
theorem zd_M_extension_46 : decode ze_M_extension 46 = .ok (.iload 4, 2) := by decide +kernel
theorem zd_M_extension_48 : decode ze_M_extension 48 = .ok (.invokevirtual 208, 3) := by decide +kernel
theorem zd_M_extension_51 : decode ze_M_extension 51 = .ok (.istore 8, 2) := by decide +kernel
theorem zd_M_extension_53 : decode ze_M_extension 53 = .ok (.iload 8, 2) := by decide +kernel
theorem zd_M_extension_55 : decode ze_M_extension 55 = .ok (.ifCond .eq 9, 3) := by decide +kernel
theorem zd_M_extension_58 : decode ze_M_extension 58 = .ok (.aload_n 0, 1) := by decide +kernel
theorem zd_M_extension_59 : decode ze_M_extension 59 = .ok (.iload 4, 2) := by decide +kernel
theorem zd_M_extension_61 : decode ze_M_extension 61 = .ok (.invokevirtual 212, 3) := by decide +kernel
theorem zd_M_extension_64 : decode ze_M_extension 64 = .ok (.aload_n 0, 1) := by decide +kernel
theorem zd_M_extension_65 : decode ze_M_extension 65 = .ok (.getfield 194, 3) := by decide +kernel
theorem zd_M_extension_68 : decode ze_M_extension 68 = .ok (.ifCond .eq 6, 3) := by decide +kernel
theorem zd_M_extension_71 : decode ze_M_extension 71 = .ok (.lload 6, 2) := by decide +kernel
theorem zd_M_extension_73 : decode ze_M_extension 73 = .ok (.lreturn, 1) := by decide +kernel
theorem zd_M_extension_74 : decode ze_M_extension 74 = .ok (.aload_n 0, 1) := by decide +kernel
theorem zd_M_extension_75 : decode ze_M_extension 75 = .ok (.getfield 197, 3) := by decide +kernel
theorem zd_M_extension_78 : decode ze_M_extension 78 = .ok (.istore 9, 2) := by decide +kernel
theorem zd_M_extension_80 : decode ze_M_extension 80 = .ok (.lload 6, 2) := by decide +kernel
theorem zd_M_extension_82 : decode ze_M_extension 82 = .ok (.lconst 1, 1) := by decide +kernel
theorem zd_M_extension_83 : decode ze_M_extension 83 = .ok (.lcmp, 1) := by decide +kernel
theorem zd_M_extension_84 : decode ze_M_extension 84 = .ok (.ifCond .ne 12, 3) := by decide +kernel
theorem zd_M_extension_87 : decode ze_M_extension 87 = .ok (.aload_n 0, 1) := by decide +kernel
theorem zd_M_extension_88 : decode ze_M_extension 88 = .ok (.iload 4, 2) := by decide +kernel
theorem zd_M_extension_90 : decode ze_M_extension 90 = .ok (.invokevirtual 226, 3) := by decide +kernel
theorem zd_M_extension_93 : decode ze_M_extension 93 = .ok (.goto 139, 3) := by decide +kernel
theorem zd_M_extension_96 : decode ze_M_extension 96 = .ok (.lload 6, 2) := by decide +kernel
theorem zd_M_extension_98 : decode ze_M_extension 98 = .ok (.ldc2_w 119, 3) := by decide +kernel
theorem zd_M_extension_101 : decode ze_M_extension 101 = .ok (.lcmp, 1) := by decide +kernel
theorem zd_M_extension_102 : decode ze_M_extension 102 = .ok (.ifCond .ne 50, 3) := by decide +kernel
theorem zd_M_extension_105 : decode ze_M_extension 105 = .ok (.aload_n 0, 1) := by decide +kernel
theorem zd_M_extension_106 : decode ze_M_extension 106 = .ok (.getfield 68, 3) := by decide +kernel
theorem zd_M_extension_109 : decode ze_M_extension 109 = .ok (.bipush 10, 2) := by decide +kernel
theorem zd_M_extension_111 : decode ze_M_extension 111 = .ok (.aload_n 0, 1) := by decide +kernel
theorem zd_M_extension_112 : decode ze_M_extension 112 = .ok (.iload 4, 2) := by decide +kernel
theorem zd_M_extension_114 : decode ze_M_extension 114 = .ok (.invokevirtual 217, 3) := by decide +kernel
theorem zd_M_extension_117 : decode ze_M_extension 117 = .ok (.lastore, 1) := by decide +kernel
theorem zd_M_extension_118 : decode ze_M_extension 118 = .ok (.aload_n 0, 1) := by decide +kernel
theorem zd_M_extension_119 : decode ze_M_extension 119 = .ok (.getfield 194, 3) := by decide +kernel
theorem zd_M_extension_122 : decode ze_M_extension 122 = .ok (.ifCond .ne 110, 3) := by decide +kernel
theorem zd_M_extension_125 : decode ze_M_extension 125 = .ok (.aload_n 0, 1) := by decide +kernel
theorem zd_M_extension_126 : decode ze_M_extension 126 = .ok (.getfield 68, 3) := by decide +kernel
theorem zd_M_extension_129 : decode ze_M_extension 129 = .ok (.bipush 10, 2) := by decide +kernel
theorem zd_M_extension_131 : decode ze_M_extension 131 = .ok (.laload, 1) := by decide +kernel
theorem zd_M_extension_132 : decode ze_M_extension 132 = .ok (.lconst 1, 1) := by decide +kernel
theorem zd_M_extension_133 : decode ze_M_extension 133 = .ok (.ldc2_w 151, 3) := by decide +kernel
theorem zd_M_extension_136 : decode ze_M_extension 136 = .ok (.invokestatic 125, 3) := by decide +kernel
theorem zd_M_extension_139 : decode ze_M_extension 139 = .ok (.ifCond .ne 93, 3) := by decide +kernel
theorem zd_M_extension_142 : decode ze_M_extension 142 = .ok (.aload_n 0, 1) := by decide +kernel
theorem zd_M_extension_143 : decode ze_M_extension 143 = .ok (.iconst 4, 1) := by decide +kernel
theorem zd_M_extension_144 : decode ze_M_extension 144 = .ok (.iload 9, 2) := by decide +kernel
theorem zd_M_extension_146 : decode ze_M_extension 146 = .ok (.invokevirtual 200, 3) := by decide +kernel
theorem zd_M_extension_149 : decode ze_M_extension 149 = .ok (.goto 83, 3) := by decide +kernel
theorem zd_M_extension_152 : decode ze_M_extension 152 = .ok (.lload 6, 2) := by decide +kernel
theorem zd_M_extension_154 : decode ze_M_extension 154 = .ok (.ldc2_w 38, 3) := by decide +kernel
theorem zd_M_extension_157 : decode ze_M_extension 157 = .ok (.lcmp, 1) := by decide +kernel
theorem zd_M_extension_158 : decode ze_M_extension 158 = .ok (.ifCond .ne 12, 3) := by decide +kernel
theorem zd_M_extension_161 : decode ze_M_extension 161 = .ok (.aload_n 0, 1) := by decide +kernel
theorem zd_M_extension_162 : decode ze_M_extension 162 = .ok (.iload 4, 2) := by decide +kernel
theorem zd_M_extension_164 : decode ze_M_extension 164 = .ok (.invokevirtual 229, 3) := by decide +kernel
theorem zd_M_extension_167 : decode ze_M_extension 167 = .ok (.goto 65, 3) := by decide +kernel
theorem zd_M_extension_170 : decode ze_M_extension 170 = .ok (.aload_n 0, 1) := by decide +kernel
theorem zd_M_extension_171 : decode ze_M_extension 171 = .ok (.iconst 4, 1) := by decide +kernel
theorem zd_M_extension_172 : decode ze_M_extension 172 = .ok (.iload 4, 2) := by decide +kernel
theorem zd_M_extension_174 : decode ze_M_extension 174 = .ok (.invokevirtual 203, 3) := by decide +kernel
theorem zd_M_extension_177 : decode ze_M_extension 177 = .ok (.istore 10, 2) := by decide +kernel
theorem zd_M_extension_179 : decode ze_M_extension 179 = .ok (.aload_n 0, 1) := by decide +kernel
theorem zd_M_extension_180 : decode ze_M_extension 180 = .ok (.aload_n 0, 1) := by decide +kernel
theorem zd_M_extension_181 : decode ze_M_extension 181 = .ok (.getfield 194, 3) := by decide +kernel
theorem zd_M_extension_184 : decode ze_M_extension 184 = .ok (.ifCond .ne 8, 3) := by decide +kernel
theorem zd_M_extension_187 : decode ze_M_extension 187 = .ok (.iload 10, 2) := by decide +kernel
theorem zd_M_extension_189 : decode ze_M_extension 189 = .ok (.goto 7, 3) := by decide +kernel
theorem zd_M_extension_192 : decode ze_M_extension 192 = .ok (.aload_n 0, 1) := by decide +kernel
theorem zd_M_extension_193 : decode ze_M_extension 193 = .ok (.getfield 197, 3) := by decide +kernel
theorem zd_M_extension_196 : decode ze_M_extension 196 = .ok (.putfield 197, 3) := by decide +kernel
theorem zd_M_extension_199 : decode ze_M_extension 199 = .ok (.aload_n 0, 1) := by decide +kernel
theorem zd_M_extension_200 : decode ze_M_extension 200 = .ok (.getfield 68, 3) := by decide +kernel
theorem zd_M_extension_203 : decode ze_M_extension 203 = .ok (.bipush 14, 2) := by decide +kernel
theorem zd_M_extension_205 : decode ze_M_extension 205 = .ok (.iload 8, 2) := by decide +kernel
theorem zd_M_extension_207 : decode ze_M_extension 207 = .ok (.ifCond .eq 17, 3) := by decide +kernel
theorem zd_M_extension_210 : decode ze_M_extension 210 = .ok (.aload_n 0, 1) := by decide +kernel
theorem zd_M_extension_211 : decode ze_M_extension 211 = .ok (.getfield 68, 3) := by decide +kernel
theorem zd_M_extension_214 : decode ze_M_extension 214 = .ok (.bipush 14, 2) := by decide +kernel
theorem zd_M_extension_216 : decode ze_M_extension 216 = .ok (.laload, 1) := by decide +kernel
theorem zd_M_extension_217 : decode ze_M_extension 217 = .ok (.ldc2_w 206, 3) := by decide +kernel
theorem zd_M_extension_220 : decode ze_M_extension 220 = .ok (.lor, 1) := by decide +kernel
theorem zd_M_extension_221 : decode ze_M_extension 221 = .ok (.goto 10, 3) := by decide +kernel
theorem zd_M_extension_224 : decode ze_M_extension 224 = .ok (.aload_n 0, 1) := by decide +kernel
theorem zd_M_extension_225 : decode ze_M_extension 225 = .ok (.getfield 68, 3) := by decide +kernel
theorem zd_M_extension_228 : decode ze_M_extension 228 = .ok (.bipush 14, 2) := by decide +kernel
theorem zd_M_extension_230 : decode ze_M_extension 230 = .ok (.laload, 1) := by decide +kernel
theorem zd_M_extension_231 : decode ze_M_extension 231 = .ok (.lastore, 1) := by decide +kernel
theorem zd_M_extension_232 : decode ze_M_extension 232 = .ok (.aload_n 0, 1) := by decide +kernel
theorem zd_M_extension_233 : decode ze_M_extension 233 = .ok (.iload 4, 2) := by decide +kernel
theorem zd_M_extension_235 : decode ze_M_extension 235 = .ok (.invokevirtual 220, 3) := by decide +kernel
theorem zd_M_extension_238 : decode ze_M_extension 238 = .ok (.aload_n 0, 1) := by decide +kernel
theorem zd_M_extension_239 : decode ze_M_extension 239 = .ok (.getfield 68, 3) := by decide +kernel
theorem zd_M_extension_242 : decode ze_M_extension 242 = .ok (.bipush 13, 2) := by decide +kernel
theorem zd_M_extension_244 : decode ze_M_extension 244 = .ok (.dup2, 1) := by decide +kernel
theorem zd_M_extension_245 : decode ze_M_extension 245 = .ok (.laload, 1) := by decide +kernel
theorem zd_M_extension_246 : decode ze_M_extension 246 = .ok (.lconst 1, 1) := by decide +kernel
theorem zd_M_extension_247 : decode ze_M_extension 247 = .ok (.ladd, 1) := by decide +kernel
theorem zd_M_extension_248 : decode ze_M_extension 248 = .ok (.lastore, 1) := by decide +kernel
theorem zd_M_extension_249 : decode ze_M_extension 249 = .ok (.lload 6, 2) := by decide +kernel
theorem zd_M_extension_251 : decode ze_M_extension 251 = .ok (.lreturn, 1) := by decide +kernel
theorem zd_M_readCertificate_0 : decode ze_M_readCertificate 0 = .ok (.iconst 0, 1) := by decide +kernel
theorem zd_M_readCertificate_1 : decode ze_M_readCertificate 1 = .ok (.istore_n 1, 1) := by decide +kernel
theorem zd_M_readCertificate_2 : decode ze_M_readCertificate 2 = .ok (.iload_n 1, 1) := by decide +kernel
theorem zd_M_readCertificate_3 : decode ze_M_readCertificate 3 = .ok (.bipush 15, 2) := by decide +kernel
theorem zd_M_readCertificate_5 : decode ze_M_readCertificate 5 = .ok (.if_icmp .ge 16, 3) := by decide +kernel
theorem zd_M_readCertificate_8 : decode ze_M_readCertificate 8 = .ok (.aload_n 0, 1) := by decide +kernel
theorem zd_M_readCertificate_9 : decode ze_M_readCertificate 9 = .ok (.getfield 68, 3) := by decide +kernel
theorem zd_M_readCertificate_12 : decode ze_M_readCertificate 12 = .ok (.iload_n 1, 1) := by decide +kernel
theorem zd_M_readCertificate_13 : decode ze_M_readCertificate 13 = .ok (.lconst 0, 1) := by decide +kernel
theorem zd_M_readCertificate_14 : decode ze_M_readCertificate 14 = .ok (.lastore, 1) := by decide +kernel
theorem zd_M_readCertificate_15 : decode ze_M_readCertificate 15 = .ok (.iinc 1 1, 3) := by decide +kernel
theorem zd_M_readCertificate_18 : decode ze_M_readCertificate 18 = .ok (.goto (-16), 3) := by decide +kernel
theorem zd_M_readCertificate_21 : decode ze_M_readCertificate 21 = .ok (.aload_n 0, 1) := by decide +kernel
theorem zd_M_readCertificate_22 : decode ze_M_readCertificate 22 = .ok (.getfield 68, 3) := by decide +kernel
theorem zd_M_readCertificate_25 : decode ze_M_readCertificate 25 = .ok (.bipush 9, 2) := by decide +kernel
theorem zd_M_readCertificate_27 : decode ze_M_readCertificate 27 = .ok (.ldc2_w 100, 3) := by decide +kernel
theorem zd_M_readCertificate_30 : decode ze_M_readCertificate 30 = .ok (.lastore, 1) := by decide +kernel
theorem zd_M_readCertificate_31 : decode ze_M_readCertificate 31 = .ok (.aload_n 0, 1) := by decide +kernel
theorem zd_M_readCertificate_32 : decode ze_M_readCertificate 32 = .ok (.bipush 48, 2) := by decide +kernel
theorem zd_M_readCertificate_34 : decode ze_M_readCertificate 34 = .ok (.aload_n 0, 1) := by decide +kernel
theorem zd_M_readCertificate_35 : decode ze_M_readCertificate 35 = .ok (.getfield 141, 3) := by decide +kernel
theorem zd_M_readCertificate_38 : decode ze_M_readCertificate 38 = .ok (.invokevirtual 203, 3) := by decide +kernel
theorem zd_M_readCertificate_41 : decode ze_M_readCertificate 41 = .ok (.istore_n 1, 1) := by decide +kernel
theorem zd_M_readCertificate_42 : decode ze_M_readCertificate 42 = .ok (.aload_n 0, 1) := by decide +kernel
theorem zd_M_readCertificate_43 : decode ze_M_readCertificate 43 = .ok (.getfield 197, 3) := by decide +kernel
theorem zd_M_readCertificate_46 : decode ze_M_readCertificate 46 = .ok (.istore_n 2, 1) := by decide +kernel
theorem zd_M_readCertificate_47 : decode ze_M_readCertificate 47 = .ok (.aload_n 0, 1) := by decide +kernel
theorem zd_M_readCertificate_48 : decode ze_M_readCertificate 48 = .ok (.bipush 48, 2) := by decide +kernel
theorem zd_M_readCertificate_50 : decode ze_M_readCertificate 50 = .ok (.iload_n 1, 1) := by decide +kernel
theorem zd_M_readCertificate_51 : decode ze_M_readCertificate 51 = .ok (.invokevirtual 203, 3) := by decide +kernel
theorem zd_M_readCertificate_54 : decode ze_M_readCertificate 54 = .ok (.istore_n 3, 1) := by decide +kernel
theorem zd_M_readCertificate_55 : decode ze_M_readCertificate 55 = .ok (.iload_n 3, 1) := by decide +kernel
theorem zd_M_readCertificate_56 : decode ze_M_readCertificate 56 = .ok (.istore 4, 2) := by decide +kernel
theorem zd_M_readCertificate_58 : decode ze_M_readCertificate 58 = .ok (.aload_n 0, 1) := by decide +kernel
theorem zd_M_readCertificate_59 : decode ze_M_readCertificate 59 = .ok (.getfield 68, 3) := by decide +kernel
theorem zd_M_readCertificate_62 : decode ze_M_readCertificate 62 = .ok (.iconst 0, 1) := by decide +kernel
theorem zd_M_readCertificate_63 : decode ze_M_readCertificate 63 = .ok (.aload_n 0, 1) := by decide +kernel
theorem zd_M_readCertificate_64 : decode ze_M_readCertificate 64 = .ok (.iload_n 3, 1) := by decide +kernel
theorem zd_M_readCertificate_65 : decode ze_M_readCertificate 65 = .ok (.invokevirtual 217, 3) := by decide +kernel
theorem zd_M_readCertificate_68 : decode ze_M_readCertificate 68 = .ok (.lastore, 1) := by decide +kernel
theorem zd_M_readCertificate_69 : decode ze_M_readCertificate 69 = .ok (.aload_n 0, 1) := by decide +kernel
theorem zd_M_readCertificate_70 : decode ze_M_readCertificate 70 = .ok (.getfield 68, 3) := by decide +kernel
theorem zd_M_readCertificate_73 : decode ze_M_readCertificate 73 = .ok (.iconst 1, 1) := by decide +kernel
theorem zd_M_readCertificate_74 : decode ze_M_readCertificate 74 = .ok (.aload_n 0, 1) := by decide +kernel
theorem zd_M_readCertificate_75 : decode ze_M_readCertificate 75 = .ok (.bipush 19, 2) := by decide +kernel
theorem zd_M_readCertificate_77 : decode ze_M_readCertificate 77 = .ok (.iload_n 3, 1) := by decide +kernel
theorem zd_M_readCertificate_78 : decode ze_M_readCertificate 78 = .ok (.invokevirtual 223, 3) := by decide +kernel
theorem zd_M_readCertificate_81 : decode ze_M_readCertificate 81 = .ok (.lastore, 1) := by decide +kernel
theorem zd_M_readCertificate_82 : decode ze_M_readCertificate 82 = .ok (.aload_n 0, 1) := by decide +kernel
theorem zd_M_readCertificate_83 : decode ze_M_readCertificate 83 = .ok (.getfield 68, 3) := by decide +kernel
theorem zd_M_readCertificate_86 : decode ze_M_readCertificate 86 = .ok (.iconst 2, 1) := by decide +kernel
theorem zd_M_readCertificate_87 : decode ze_M_readCertificate 87 = .ok (.aload_n 0, 1) := by decide +kernel
theorem zd_M_readCertificate_88 : decode ze_M_readCertificate 88 = .ok (.iload_n 3, 1) := by decide +kernel
theorem zd_M_readCertificate_89 : decode ze_M_readCertificate 89 = .ok (.invokevirtual 217, 3) := by decide +kernel
theorem zd_M_readCertificate_92 : decode ze_M_readCertificate 92 = .ok (.lastore, 1) := by decide +kernel
theorem zd_M_readCertificate_93 : decode ze_M_readCertificate 93 = .ok (.aload_n 0, 1) := by decide +kernel
theorem zd_M_readCertificate_94 : decode ze_M_readCertificate 94 = .ok (.getfield 68, 3) := by decide +kernel
theorem zd_M_readCertificate_97 : decode ze_M_readCertificate 97 = .ok (.iconst 3, 1) := by decide +kernel
theorem zd_M_readCertificate_98 : decode ze_M_readCertificate 98 = .ok (.aload_n 0, 1) := by decide +kernel
theorem zd_M_readCertificate_99 : decode ze_M_readCertificate 99 = .ok (.iload_n 3, 1) := by decide +kernel
theorem zd_M_readCertificate_100 : decode ze_M_readCertificate 100 = .ok (.invokevirtual 217, 3) := by decide +kernel
theorem zd_M_readCertificate_103 : decode ze_M_readCertificate 103 = .ok (.lastore, 1) := by decide +kernel
theorem zd_M_readCertificate_104 : decode ze_M_readCertificate 104 = .ok (.aload_n 0, 1) := by decide +kernel
theorem zd_M_readCertificate_105 : decode ze_M_readCertificate 105 = .ok (.getfield 68, 3) := by decide +kernel
theorem zd_M_readCertificate_108 : decode ze_M_readCertificate 108 = .ok (.iconst 4, 1) := by decide +kernel
theorem zd_M_readCertificate_109 : decode ze_M_readCertificate 109 = .ok (.aload_n 0, 1) := by decide +kernel
theorem zd_M_readCertificate_110 : decode ze_M_readCertificate 110 = .ok (.bipush 19, 2) := by decide +kernel
theorem zd_M_readCertificate_112 : decode ze_M_readCertificate 112 = .ok (.iload_n 3, 1) := by decide +kernel
theorem zd_M_readCertificate_113 : decode ze_M_readCertificate 113 = .ok (.invokevirtual 223, 3) := by decide +kernel
theorem zd_M_readCertificate_116 : decode ze_M_readCertificate 116 = .ok (.lastore, 1) := by decide +kernel
theorem zd_M_readCertificate_117 : decode ze_M_readCertificate 117 = .ok (.aload_n 0, 1) := by decide +kernel
theorem zd_M_readCertificate_118 : decode ze_M_readCertificate 118 = .ok (.getfield 68, 3) := by decide +kernel
theorem zd_M_readCertificate_121 : decode ze_M_readCertificate 121 = .ok (.iconst 5, 1) := by decide +kernel
theorem zd_M_readCertificate_122 : decode ze_M_readCertificate 122 = .ok (.aload_n 0, 1) := by decide +kernel
theorem zd_M_readCertificate_123 : decode ze_M_readCertificate 123 = .ok (.iload_n 3, 1) := by decide +kernel
theorem zd_M_readCertificate_124 : decode ze_M_readCertificate 124 = .ok (.invokevirtual 217, 3) := by decide +kernel
theorem zd_M_readCertificate_127 : decode ze_M_readCertificate 127 = .ok (.lastore, 1) := by decide +kernel
theorem zd_M_readCertificate_128 : decode ze_M_readCertificate 128 = .ok (.aload_n 0, 1) := by decide +kernel
theorem zd_M_readCertificate_129 : decode ze_M_readCertificate 129 = .ok (.getfield 68, 3) := by decide +kernel
theorem zd_M_readCertificate_132 : decode ze_M_readCertificate 132 = .ok (.bipush 6, 2) := by decide +kernel
theorem zd_M_readCertificate_134 : decode ze_M_readCertificate 134 = .ok (.aload_n 0, 1) := by decide +kernel
theorem zd_M_readCertificate_135 : decode ze_M_readCertificate 135 = .ok (.iload_n 3, 1) := by decide +kernel
theorem zd_M_readCertificate_136 : decode ze_M_readCertificate 136 = .ok (.invokevirtual 217, 3) := by decide +kernel
theorem zd_M_readCertificate_139 : decode ze_M_readCertificate 139 = .ok (.lastore, 1) := by decide +kernel
theorem zd_M_readCertificate_140 : decode ze_M_readCertificate 140 = .ok (.aload_n 0, 1) := by decide +kernel
theorem zd_M_readCertificate_141 : decode ze_M_readCertificate 141 = .ok (.bipush 48, 2) := by decide +kernel
theorem zd_M_readCertificate_143 : decode ze_M_readCertificate 143 = .ok (.iload_n 3, 1) := by decide +kernel
theorem zd_M_readCertificate_144 : decode ze_M_readCertificate 144 = .ok (.invokevirtual 208, 3) := by decide +kernel
theorem zd_M_readCertificate_147 : decode ze_M_readCertificate 147 = .ok (.ifCond .eq 53, 3) := by decide +kernel
theorem zd_M_readCertificate_150 : decode ze_M_readCertificate 150 = .ok (.aload_n 0, 1) := by decide +kernel
theorem zd_M_readCertificate_151 : decode ze_M_readCertificate 151 = .ok (.bipush 48, 2) := by decide +kernel
theorem zd_M_readCertificate_153 : decode ze_M_readCertificate 153 = .ok (.iload_n 3, 1) := by decide +kernel
theorem zd_M_readCertificate_154 : decode ze_M_readCertificate 154 = .ok (.invokevirtual 203, 3) := by decide +kernel
theorem zd_M_readCertificate_157 : decode ze_M_readCertificate 157 = .ok (.istore 5, 2) := by decide +kernel
theorem zd_M_readCertificate_159 : decode ze_M_readCertificate 159 = .ok (.aload_n 0, 1) := by decide +kernel
theorem zd_M_readCertificate_160 : decode ze_M_readCertificate 160 = .ok (.ldc2_w 100, 3) := by decide +kernel
theorem zd_M_readCertificate_163 : decode ze_M_readCertificate 163 = .ok (.iload 5, 2) := by decide +kernel
theorem zd_M_readCertificate_165 : decode ze_M_readCertificate 165 = .ok (.invokevirtual 232, 3) := by decide +kernel
theorem zd_M_readCertificate_168 : decode ze_M_readCertificate 168 = .ok (.lstore 6, 2) := by decide +kernel
theorem zd_M_readCertificate_170 : decode ze_M_readCertificate 170 = .ok (.aload_n 0, 1) := by decide +kernel
theorem zd_M_readCertificate_171 : decode ze_M_readCertificate 171 = .ok (.bipush 48, 2) := by decide +kernel
theorem zd_M_readCertificate_173 : decode ze_M_readCertificate 173 = .ok (.iload 5, 2) := by decide +kernel
theorem zd_M_readCertificate_175 : decode ze_M_readCertificate 175 = .ok (.invokevirtual 208, 3) := by decide +kernel
theorem zd_M_readCertificate_178 : decode ze_M_readCertificate 178 = .ok (.ifCond .eq 16, 3) := by decide +kernel
theorem zd_M_readCertificate_181 : decode ze_M_readCertificate 181 = .ok (.aload_n 0, 1) := by decide +kernel
theorem zd_M_readCertificate_182 : decode ze_M_readCertificate 182 = .ok (.lload 6, 2) := by decide +kernel
theorem zd_M_readCertificate_184 : decode ze_M_readCertificate 184 = .ok (.iload 5, 2) := by decide +kernel
theorem zd_M_readCertificate_186 : decode ze_M_readCertificate 186 = .ok (.invokevirtual 232, 3) := by decide +kernel
theorem zd_M_readCertificate_189 : decode ze_M_readCertificate 189 = .ok (.lstore 6, 2) := by decide +kernel
theorem zd_M_readCertificate_191 : decode ze_M_readCertificate 191 = .ok (.goto (-21), 3) := by decide +kernel
theorem zd_M_readCertificate_194 : decode ze_M_readCertificate 194 = .ok (.aload_n 0, 1) := by decide +kernel
theorem zd_M_readCertificate_195 : decode ze_M_readCertificate 195 = .ok (.iload 5, 2) := by decide +kernel
theorem zd_M_readCertificate_197 : decode ze_M_readCertificate 197 = .ok (.invokevirtual 220, 3) := by decide +kernel
theorem zd_M_readCertificate_200 : decode ze_M_readCertificate 200 = .ok (.aload_n 0, 1) := by decide +kernel
theorem zd_M_readCertificate_201 : decode ze_M_readCertificate 201 = .ok (.iload_n 3, 1) := by decide +kernel
theorem zd_M_readCertificate_202 : decode ze_M_readCertificate 202 = .ok (.invokevirtual 220, 3) := by decide +kernel
theorem zd_M_readCertificate_205 : decode ze_M_readCertificate 205 = .ok (.aload_n 0, 1) := by decide +kernel
theorem zd_M_readCertificate_206 : decode ze_M_readCertificate 206 = .ok (.getfield 194, 3) := by decide +kernel
theorem zd_M_readCertificate_209 : decode ze_M_readCertificate 209 = .ok (.ifCond .ne 18, 3) := by decide +kernel
theorem zd_M_readCertificate_212 : decode ze_M_readCertificate 212 = .ok (.aload_n 0, 1) := by decide +kernel
theorem zd_M_readCertificate_213 : decode ze_M_readCertificate 213 = .ok (.getfield 68, 3) := by decide +kernel
theorem zd_M_readCertificate_216 : decode ze_M_readCertificate 216 = .ok (.bipush 8, 2) := by decide +kernel
theorem zd_M_readCertificate_218 : decode ze_M_readCertificate 218 = .ok (.aload_n 0, 1) := by decide +kernel
theorem zd_M_readCertificate_219 : decode ze_M_readCertificate 219 = .ok (.iload_n 2, 1) := by decide +kernel
theorem zd_M_readCertificate_220 : decode ze_M_readCertificate 220 = .ok (.iload 4, 2) := by decide +kernel
theorem zd_M_readCertificate_222 : decode ze_M_readCertificate 222 = .ok (.invokevirtual 164, 3) := by decide +kernel
theorem zd_M_readCertificate_225 : decode ze_M_readCertificate 225 = .ok (.i2l, 1) := by decide +kernel
theorem zd_M_readCertificate_226 : decode ze_M_readCertificate 226 = .ok (.lastore, 1) := by decide +kernel
theorem zd_M_readCertificate_227 : decode ze_M_readCertificate 227 = .ok (.aload_n 0, 1) := by decide +kernel
theorem zd_M_readCertificate_228 : decode ze_M_readCertificate 228 = .ok (.getfield 68, 3) := by decide +kernel
theorem zd_M_readCertificate_231 : decode ze_M_readCertificate 231 = .ok (.bipush 7, 2) := by decide +kernel
theorem zd_M_readCertificate_233 : decode ze_M_readCertificate 233 = .ok (.aload_n 0, 1) := by decide +kernel
theorem zd_M_readCertificate_234 : decode ze_M_readCertificate 234 = .ok (.iload_n 1, 1) := by decide +kernel
theorem zd_M_readCertificate_235 : decode ze_M_readCertificate 235 = .ok (.invokevirtual 217, 3) := by decide +kernel
theorem zd_M_readCertificate_238 : decode ze_M_readCertificate 238 = .ok (.lastore, 1) := by decide +kernel
theorem zd_M_readCertificate_239 : decode ze_M_readCertificate 239 = .ok (.aload_n 0, 1) := by decide +kernel
theorem zd_M_readCertificate_240 : decode ze_M_readCertificate 240 = .ok (.iload_n 1, 1) := by decide +kernel
theorem zd_M_readCertificate_241 : decode ze_M_readCertificate 241 = .ok (.invokevirtual 220, 3) := by decide +kernel
theorem zd_M_readCertificate_244 : decode ze_M_readCertificate 244 = .ok (.aload_n 0, 1) := by decide +kernel
theorem zd_M_readCertificate_245 : decode ze_M_readCertificate 245 = .ok (.aload_n 0, 1) := by decide +kernel
theorem zd_M_readCertificate_246 : decode ze_M_readCertificate 246 = .ok (.getfield 141, 3) := by decide +kernel
theorem zd_M_readCertificate_249 : decode ze_M_readCertificate 249 = .ok (.invokevirtual 220, 3) := by decide +kernel
theorem zd_M_readCertificate_252 : decode ze_M_readCertificate 252 = .ok (.return_, 1) := by decide +kernel
theorem zd_M_check_0 : decode ze_M_check 0 = .ok (.aload_n 0, 1) := by decide +kernel
theorem zd_M_check_1 : decode ze_M_check 1 = .ok (.iconst 0, 1) := by decide +kernel
theorem zd_M_check_2 : decode ze_M_check 2 = .ok (.putfield 197, 3) := by decide +kernel
theorem zd_M_check_5 : decode ze_M_check 5 = .ok (.aload_n 0, 1) := by decide +kernel
theorem zd_M_check_6 : decode ze_M_check 6 = .ok (.iconst 0, 1) := by decide +kernel
theorem zd_M_check_7 : decode ze_M_check 7 = .ok (.putfield 194, 3) := by decide +kernel
theorem zd_M_check_10 : decode ze_M_check 10 = .ok (.iload_n 1, 1) := by decide +kernel
theorem zd_M_check_11 : decode ze_M_check 11 = .ok (.ifCond .eq 10, 3) := by decide +kernel
theorem zd_M_check_14 : decode ze_M_check 14 = .ok (.aload_n 0, 1) := by decide +kernel
theorem zd_M_check_15 : decode ze_M_check 15 = .ok (.invokevirtual 239, 3) := by decide +kernel
theorem zd_M_check_18 : decode ze_M_check 18 = .ok (.goto 7, 3) := by decide +kernel
theorem zd_M_check_21 : decode ze_M_check 21 = .ok (.aload_n 0, 1) := by decide +kernel
theorem zd_M_check_22 : decode ze_M_check 22 = .ok (.invokevirtual 242, 3) := by decide +kernel
theorem zd_M_check_25 : decode ze_M_check 25 = .ok (.aload_n 0, 1) := by decide +kernel
theorem zd_M_check_26 : decode ze_M_check 26 = .ok (.getfield 194, 3) := by decide +kernel
theorem zd_M_check_29 : decode ze_M_check 29 = .ok (.ireturn, 1) := by decide +kernel
theorem zd_M_storeList_0 : decode ze_M_storeList 0 = .ok (.aload_n 0, 1) := by decide +kernel
theorem zd_M_storeList_1 : decode ze_M_storeList 1 = .ok (.getfield 245, 3) := by decide +kernel
theorem zd_M_storeList_4 : decode ze_M_storeList 4 = .ok (.istore_n 1, 1) := by decide +kernel
theorem zd_M_storeList_5 : decode ze_M_storeList 5 = .ok (.aload_n 0, 1) := by decide +kernel
theorem zd_M_storeList_6 : decode ze_M_storeList 6 = .ok (.getfield 80, 3) := by decide +kernel
theorem zd_M_storeList_9 : decode ze_M_storeList 9 = .ok (.bipush 6, 2) := by decide +kernel
theorem zd_M_storeList_11 : decode ze_M_storeList 11 = .ok (.iload_n 1, 1) := by decide +kernel
theorem zd_M_storeList_12 : decode ze_M_storeList 12 = .ok (.imul, 1) := by decide +kernel
theorem zd_M_storeList_13 : decode ze_M_storeList 13 = .ok (.aload_n 0, 1) := by decide +kernel
theorem zd_M_storeList_14 : decode ze_M_storeList 14 = .ok (.getfield 68, 3) := by decide +kernel
theorem zd_M_storeList_17 : decode ze_M_storeList 17 = .ok (.iconst 1, 1) := by decide +kernel
theorem zd_M_storeList_18 : decode ze_M_storeList 18 = .ok (.laload, 1) := by decide +kernel
theorem zd_M_storeList_19 : decode ze_M_storeList 19 = .ok (.lastore, 1) := by decide +kernel
theorem zd_M_storeList_20 : decode ze_M_storeList 20 = .ok (.aload_n 0, 1) := by decide +kernel
theorem zd_M_storeList_21 : decode ze_M_storeList 21 = .ok (.getfield 80, 3) := by decide +kernel
theorem zd_M_storeList_24 : decode ze_M_storeList 24 = .ok (.bipush 6, 2) := by decide +kernel
theorem zd_M_storeList_26 : decode ze_M_storeList 26 = .ok (.iload_n 1, 1) := by decide +kernel
theorem zd_M_storeList_27 : decode ze_M_storeList 27 = .ok (.imul, 1) := by decide +kernel
theorem zd_M_storeList_28 : decode ze_M_storeList 28 = .ok (.iconst 1, 1) := by decide +kernel
theorem zd_M_storeList_29 : decode ze_M_storeList 29 = .ok (.iadd, 1) := by decide +kernel
theorem zd_M_storeList_30 : decode ze_M_storeList 30 = .ok (.aload_n 0, 1) := by decide +kernel
theorem zd_M_storeList_31 : decode ze_M_storeList 31 = .ok (.getfield 68, 3) := by decide +kernel
theorem zd_M_storeList_34 : decode ze_M_storeList 34 = .ok (.iconst 2, 1) := by decide +kernel
theorem zd_M_storeList_35 : decode ze_M_storeList 35 = .ok (.laload, 1) := by decide +kernel
theorem zd_M_storeList_36 : decode ze_M_storeList 36 = .ok (.lastore, 1) := by decide +kernel
theorem zd_M_storeList_37 : decode ze_M_storeList 37 = .ok (.aload_n 0, 1) := by decide +kernel
theorem zd_M_storeList_38 : decode ze_M_storeList 38 = .ok (.getfield 80, 3) := by decide +kernel
theorem zd_M_storeList_41 : decode ze_M_storeList 41 = .ok (.bipush 6, 2) := by decide +kernel
theorem zd_M_storeList_43 : decode ze_M_storeList 43 = .ok (.iload_n 1, 1) := by decide +kernel
theorem zd_M_storeList_44 : decode ze_M_storeList 44 = .ok (.imul, 1) := by decide +kernel
theorem zd_M_storeList_45 : decode ze_M_storeList 45 = .ok (.iconst 2, 1) := by decide +kernel
theorem zd_M_storeList_46 : decode ze_M_storeList 46 = .ok (.iadd, 1) := by decide +kernel
theorem zd_M_storeList_47 : decode ze_M_storeList 47 = .ok (.aload_n 0, 1) := by decide +kernel
theorem zd_M_storeList_48 : decode ze_M_storeList 48 = .ok (.getfield 68, 3) := by decide +kernel
theorem zd_M_storeList_51 : decode ze_M_storeList 51 = .ok (.iconst 3, 1) := by decide +kernel
theorem zd_M_storeList_52 : decode ze_M_storeList 52 = .ok (.laload, 1) := by decide +kernel
theorem zd_M_storeList_53 : decode ze_M_storeList 53 = .ok (.lastore, 1) := by decide +kernel
theorem zd_M_storeList_54 : decode ze_M_storeList 54 = .ok (.aload_n 0, 1) := by decide +kernel
theorem zd_M_storeList_55 : decode ze_M_storeList 55 = .ok (.getfield 80, 3) := by decide +kernel
theorem zd_M_storeList_58 : decode ze_M_storeList 58 = .ok (.bipush 6, 2) := by decide +kernel
theorem zd_M_storeList_60 : decode ze_M_storeList 60 = .ok (.iload_n 1, 1) := by decide +kernel
theorem zd_M_storeList_61 : decode ze_M_storeList 61 = .ok (.imul, 1) := by decide +kernel
theorem zd_M_storeList_62 : decode ze_M_storeList 62 = .ok (.iconst 3, 1) := by decide +kernel
theorem zd_M_storeList_63 : decode ze_M_storeList 63 = .ok (.iadd, 1) := by decide +kernel
theorem zd_M_storeList_64 : decode ze_M_storeList 64 = .ok (.aload_n 0, 1) := by decide +kernel
theorem zd_M_storeList_65 : decode ze_M_storeList 65 = .ok (.getfield 236, 3) := by decide +kernel
theorem zd_M_storeList_68 : decode ze_M_storeList 68 = .ok (.i2l, 1) := by decide +kernel
theorem zd_M_storeList_69 : decode ze_M_storeList 69 = .ok (.lastore, 1) := by decide +kernel
theorem zd_M_storeList_70 : decode ze_M_storeList 70 = .ok (.aload_n 0, 1) := by decide +kernel
theorem zd_M_storeList_71 : decode ze_M_storeList 71 = .ok (.getfield 80, 3) := by decide +kernel
theorem zd_M_storeList_74 : decode ze_M_storeList 74 = .ok (.bipush 6, 2) := by decide +kernel
theorem zd_M_storeList_76 : decode ze_M_storeList 76 = .ok (.iload_n 1, 1) := by decide +kernel
theorem zd_M_storeList_77 : decode ze_M_storeList 77 = .ok (.imul, 1) := by decide +kernel
theorem zd_M_storeList_78 : decode ze_M_storeList 78 = .ok (.iconst 4, 1) := by decide +kernel
theorem zd_M_storeList_79 : decode ze_M_storeList 79 = .ok (.iadd, 1) := by decide +kernel
theorem zd_M_storeList_80 : decode ze_M_storeList 80 = .ok (.aload_n 0, 1) := by decide +kernel
theorem zd_M_storeList_81 : decode ze_M_storeList 81 = .ok (.getfield 68, 3) := by decide +kernel
theorem zd_M_storeList_84 : decode ze_M_storeList 84 = .ok (.bipush 7, 2) := by decide +kernel
theorem zd_M_storeList_86 : decode ze_M_storeList 86 = .ok (.laload, 1) := by decide +kernel
theorem zd_M_storeList_87 : decode ze_M_storeList 87 = .ok (.lastore, 1) := by decide +kernel
theorem zd_M_storeList_88 : decode ze_M_storeList 88 = .ok (.aload_n 0, 1) := by decide +kernel
theorem zd_M_storeList_89 : decode ze_M_storeList 89 = .ok (.getfield 80, 3) := by decide +kernel
theorem zd_M_storeList_92 : decode ze_M_storeList 92 = .ok (.bipush 6, 2) := by decide +kernel
theorem zd_M_storeList_94 : decode ze_M_storeList 94 = .ok (.iload_n 1, 1) := by decide +kernel
theorem zd_M_storeList_95 : decode ze_M_storeList 95 = .ok (.imul, 1) := by decide +kernel
theorem zd_M_storeList_96 : decode ze_M_storeList 96 = .ok (.iconst 5, 1) := by decide +kernel
theorem zd_M_storeList_97 : decode ze_M_storeList 97 = .ok (.iadd, 1) := by decide +kernel
theorem zd_M_storeList_98 : decode ze_M_storeList 98 = .ok (.aload_n 0, 1) := by decide +kernel
theorem zd_M_storeList_99 : decode ze_M_storeList 99 = .ok (.getfield 68, 3) := by decide +kernel
theorem zd_M_storeList_102 : decode ze_M_storeList 102 = .ok (.bipush 8, 2) := by decide +kernel
theorem zd_M_storeList_104 : decode ze_M_storeList 104 = .ok (.laload, 1) := by decide +kernel
theorem zd_M_storeList_105 : decode ze_M_storeList 105 = .ok (.lastore, 1) := by decide +kernel
theorem zd_M_storeList_106 : decode ze_M_storeList 106 = .ok (.iconst 0, 1) := by decide +kernel
theorem zd_M_storeList_107 : decode ze_M_storeList 107 = .ok (.istore_n 2, 1) := by decide +kernel
theorem zd_M_storeList_108 : decode ze_M_storeList 108 = .ok (.iload_n 2, 1) := by decide +kernel
theorem zd_M_storeList_109 : decode ze_M_storeList 109 = .ok (.aload_n 0, 1) := by decide +kernel
theorem zd_M_storeList_110 : decode ze_M_storeList 110 = .ok (.getfield 236, 3) := by decide +kernel
theorem zd_M_storeList_113 : decode ze_M_storeList 113 = .ok (.if_icmp .ge 41, 3) := by decide +kernel
theorem zd_M_storeList_116 : decode ze_M_storeList 116 = .ok (.aload_n 0, 1) := by decide +kernel
theorem zd_M_storeList_117 : decode ze_M_storeList 117 = .ok (.getfield 83, 3) := by decide +kernel
theorem zd_M_storeList_120 : decode ze_M_storeList 120 = .ok (.iconst 4, 1) := by decide +kernel
theorem zd_M_storeList_121 : decode ze_M_storeList 121 = .ok (.iload_n 1, 1) := by decide +kernel
theorem zd_M_storeList_122 : decode ze_M_storeList 122 = .ok (.imul, 1) := by decide +kernel
theorem zd_M_storeList_123 : decode ze_M_storeList 123 = .ok (.iload_n 2, 1) := by decide +kernel
theorem zd_M_storeList_124 : decode ze_M_storeList 124 = .ok (.iadd, 1) := by decide +kernel
theorem zd_M_storeList_125 : decode ze_M_storeList 125 = .ok (.aload_n 0, 1) := by decide +kernel
theorem zd_M_storeList_126 : decode ze_M_storeList 126 = .ok (.getfield 71, 3) := by decide +kernel
theorem zd_M_storeList_129 : decode ze_M_storeList 129 = .ok (.iload_n 2, 1) := by decide +kernel
theorem zd_M_storeList_130 : decode ze_M_storeList 130 = .ok (.laload, 1) := by decide +kernel
theorem zd_M_storeList_131 : decode ze_M_storeList 131 = .ok (.lastore, 1) := by decide +kernel
theorem zd_M_storeList_132 : decode ze_M_storeList 132 = .ok (.aload_n 0, 1) := by decide +kernel
theorem zd_M_storeList_133 : decode ze_M_storeList 133 = .ok (.getfield 86, 3) := by decide +kernel
theorem zd_M_storeList_136 : decode ze_M_storeList 136 = .ok (.iconst 4, 1) := by decide +kernel
theorem zd_M_storeList_137 : decode ze_M_storeList 137 = .ok (.iload_n 1, 1) := by decide +kernel
theorem zd_M_storeList_138 : decode ze_M_storeList 138 = .ok (.imul, 1) := by decide +kernel
theorem zd_M_storeList_139 : decode ze_M_storeList 139 = .ok (.iload_n 2, 1) := by decide +kernel
theorem zd_M_storeList_140 : decode ze_M_storeList 140 = .ok (.iadd, 1) := by decide +kernel
theorem zd_M_storeList_141 : decode ze_M_storeList 141 = .ok (.aload_n 0, 1) := by decide +kernel
theorem zd_M_storeList_142 : decode ze_M_storeList 142 = .ok (.getfield 74, 3) := by decide +kernel
theorem zd_M_storeList_145 : decode ze_M_storeList 145 = .ok (.iload_n 2, 1) := by decide +kernel
theorem zd_M_storeList_146 : decode ze_M_storeList 146 = .ok (.laload, 1) := by decide +kernel
theorem zd_M_storeList_147 : decode ze_M_storeList 147 = .ok (.lastore, 1) := by decide +kernel
theorem zd_M_storeList_148 : decode ze_M_storeList 148 = .ok (.iinc 2 1, 3) := by decide +kernel
theorem zd_M_storeList_151 : decode ze_M_storeList 151 = .ok (.goto (-43), 3) := by decide +kernel
theorem zd_M_storeList_154 : decode ze_M_storeList 154 = .ok (.aload_n 0, 1) := by decide +kernel
theorem zd_M_storeList_155 : decode ze_M_storeList 155 = .ok (.dup, 1) := by decide +kernel
theorem zd_M_storeList_156 : decode ze_M_storeList 156 = .ok (.getfield 245, 3) := by decide +kernel
theorem zd_M_storeList_159 : decode ze_M_storeList 159 = .ok (.iconst 1, 1) := by decide +kernel
theorem zd_M_storeList_160 : decode ze_M_storeList 160 = .ok (.iadd, 1) := by decide +kernel
theorem zd_M_storeList_161 : decode ze_M_storeList 161 = .ok (.putfield 245, 3) := by decide +kernel
theorem zd_M_storeList_164 : decode ze_M_storeList 164 = .ok (.iload_n 1, 1) := by decide +kernel
theorem zd_M_storeList_165 : decode ze_M_storeList 165 = .ok (.ireturn, 1) := by decide +kernel
theorem zd_M_store_0 : decode ze_M_store 0 = .ok (.iload_n 1, 1) := by decide +kernel
theorem zd_M_store_1 : decode ze_M_store 1 = .ok (.ifCond .lt 34, 3) := by decide +kernel
theorem zd_M_store_4 : decode ze_M_store 4 = .ok (.iload_n 1, 1) := by decide +kernel
theorem zd_M_store_5 : decode ze_M_store 5 = .ok (.iconst 2, 1) := by decide +kernel
theorem zd_M_store_6 : decode ze_M_store 6 = .ok (.if_icmp .gt 29, 3) := by decide +kernel
theorem zd_M_store_9 : decode ze_M_store 9 = .ok (.iload_n 1, 1) := by decide +kernel
theorem zd_M_store_10 : decode ze_M_store 10 = .ok (.iconst 2, 1) := by decide +kernel
theorem zd_M_store_11 : decode ze_M_store 11 = .ok (.if_icmp .ne 15, 3) := by decide +kernel
theorem zd_M_store_14 : decode ze_M_store 14 = .ok (.aload_n 0, 1) := by decide +kernel
theorem zd_M_store_15 : decode ze_M_store 15 = .ok (.getfield 245, 3) := by decide +kernel
theorem zd_M_store_18 : decode ze_M_store 18 = .ok (.bipush 6, 2) := by decide +kernel
theorem zd_M_store_20 : decode ze_M_store 20 = .ok (.if_icmp .ne 17, 3) := by decide +kernel
theorem zd_M_store_23 : decode ze_M_store 23 = .ok (.goto 12, 3) := by decide +kernel
theorem zd_M_store_26 : decode ze_M_store 26 = .ok (.aload_n 0, 1) := by decide +kernel
theorem zd_M_store_27 : decode ze_M_store 27 = .ok (.getfield 248, 3) := by decide +kernel
theorem zd_M_store_30 : decode ze_M_store 30 = .ok (.bipush 12, 2) := by decide +kernel
theorem zd_M_store_32 : decode ze_M_store 32 = .ok (.if_icmp .ne 5, 3) := by decide +kernel
theorem zd_M_store_35 : decode ze_M_store 35 = .ok (.iconst (-1), 1) := by decide +kernel
theorem zd_M_store_36 : decode ze_M_store 36 = .ok (.ireturn, 1) := by decide +kernel
theorem zd_M_store_37 : decode ze_M_store 37 = .ok (.aload_n 0, 1) := by decide +kernel
theorem zd_M_store_38 : decode ze_M_store 38 = .ok (.iload_n 1, 1) := by decide +kernel
theorem zd_M_store_39 : decode ze_M_store 39 = .ok (.iconst 2, 1) := by decide +kernel
theorem zd_M_store_40 : decode ze_M_store 40 = .ok (.if_icmp .ge 7, 3) := by decide +kernel
theorem zd_M_store_43 : decode ze_M_store 43 = .ok (.iconst 1, 1) := by decide +kernel
theorem zd_M_store_44 : decode ze_M_store 44 = .ok (.goto 4, 3) := by decide +kernel
theorem zd_M_store_47 : decode ze_M_store 47 = .ok (.iconst 0, 1) := by decide +kernel
theorem zd_M_store_48 : decode ze_M_store 48 = .ok (.invokevirtual 251, 3) := by decide +kernel
theorem zd_M_store_51 : decode ze_M_store 51 = .ok (.ifCond .eq 6, 3) := by decide +kernel
theorem zd_M_store_54 : decode ze_M_store 54 = .ok (.bipush (-2), 2) := by decide +kernel
theorem zd_M_store_56 : decode ze_M_store 56 = .ok (.ireturn, 1) := by decide +kernel
theorem zd_M_store_57 : decode ze_M_store 57 = .ok (.iload_n 1, 1) := by decide +kernel
theorem zd_M_store_58 : decode ze_M_store 58 = .ok (.iconst 2, 1) := by decide +kernel
theorem zd_M_store_59 : decode ze_M_store 59 = .ok (.if_icmp .ne 8, 3) := by decide +kernel
theorem zd_M_store_62 : decode ze_M_store 62 = .ok (.aload_n 0, 1) := by decide +kernel
theorem zd_M_store_63 : decode ze_M_store 63 = .ok (.invokevirtual 255, 3) := by decide +kernel
theorem zd_M_store_66 : decode ze_M_store 66 = .ok (.ireturn, 1) := by decide +kernel
theorem zd_M_store_67 : decode ze_M_store 67 = .ok (.iconst 0, 1) := by decide +kernel
theorem zd_M_store_68 : decode ze_M_store 68 = .ok (.istore_n 2, 1) := by decide +kernel
theorem zd_M_store_69 : decode ze_M_store 69 = .ok (.iload_n 2, 1) := by decide +kernel
theorem zd_M_store_70 : decode ze_M_store 70 = .ok (.bipush 15, 2) := by decide +kernel
theorem zd_M_store_72 : decode ze_M_store 72 = .ok (.if_icmp .ge 29, 3) := by decide +kernel
theorem zd_M_store_75 : decode ze_M_store 75 = .ok (.aload_n 0, 1) := by decide +kernel
theorem zd_M_store_76 : decode ze_M_store 76 = .ok (.getfield 77, 3) := by decide +kernel
theorem zd_M_store_79 : decode ze_M_store 79 = .ok (.bipush 15, 2) := by decide +kernel
theorem zd_M_store_81 : decode ze_M_store 81 = .ok (.aload_n 0, 1) := by decide +kernel
theorem zd_M_store_82 : decode ze_M_store 82 = .ok (.getfield 248, 3) := by decide +kernel
theorem zd_M_store_85 : decode ze_M_store 85 = .ok (.imul, 1) := by decide +kernel
theorem zd_M_store_86 : decode ze_M_store 86 = .ok (.iload_n 2, 1) := by decide +kernel
theorem zd_M_store_87 : decode ze_M_store 87 = .ok (.iadd, 1) := by decide +kernel
theorem zd_M_store_88 : decode ze_M_store 88 = .ok (.aload_n 0, 1) := by decide +kernel
theorem zd_M_store_89 : decode ze_M_store 89 = .ok (.getfield 68, 3) := by decide +kernel
theorem zd_M_store_92 : decode ze_M_store 92 = .ok (.iload_n 2, 1) := by decide +kernel
theorem zd_M_store_93 : decode ze_M_store 93 = .ok (.laload, 1) := by decide +kernel
theorem zd_M_store_94 : decode ze_M_store 94 = .ok (.lastore, 1) := by decide +kernel
theorem zd_M_store_95 : decode ze_M_store 95 = .ok (.iinc 2 1, 3) := by decide +kernel
theorem zd_M_store_98 : decode ze_M_store 98 = .ok (.goto (-29), 3) := by decide +kernel
theorem zd_M_store_101 : decode ze_M_store 101 = .ok (.aload_n 0, 1) := by decide +kernel
theorem zd_M_store_102 : decode ze_M_store 102 = .ok (.getfield 77, 3) := by decide +kernel
theorem zd_M_store_105 : decode ze_M_store 105 = .ok (.bipush 15, 2) := by decide +kernel
theorem zd_M_store_107 : decode ze_M_store 107 = .ok (.aload_n 0, 1) := by decide +kernel
theorem zd_M_store_108 : decode ze_M_store 108 = .ok (.getfield 248, 3) := by decide +kernel
theorem zd_M_store_111 : decode ze_M_store 111 = .ok (.imul, 1) := by decide +kernel
theorem zd_M_store_112 : decode ze_M_store 112 = .ok (.bipush 14, 2) := by decide +kernel
theorem zd_M_store_114 : decode ze_M_store 114 = .ok (.iadd, 1) := by decide +kernel
theorem zd_M_store_115 : decode ze_M_store 115 = .ok (.aload_n 0, 1) := by decide +kernel
theorem zd_M_store_116 : decode ze_M_store 116 = .ok (.getfield 68, 3) := by decide +kernel
theorem zd_M_store_119 : decode ze_M_store 119 = .ok (.bipush 14, 2) := by decide +kernel
theorem zd_M_store_121 : decode ze_M_store 121 = .ok (.laload, 1) := by decide +kernel
theorem zd_M_store_122 : decode ze_M_store 122 = .ok (.iload_n 1, 1) := by decide +kernel
theorem zd_M_store_123 : decode ze_M_store 123 = .ok (.ifCond .ne 7, 3) := by decide +kernel
theorem zd_M_store_126 : decode ze_M_store 126 = .ok (.lconst 1, 1) := by decide +kernel
theorem zd_M_store_127 : decode ze_M_store 127 = .ok (.goto 4, 3) := by decide +kernel
theorem zd_M_store_130 : decode ze_M_store 130 = .ok (.lconst 0, 1) := by decide +kernel
theorem zd_M_store_131 : decode ze_M_store 131 = .ok (.lor, 1) := by decide +kernel
theorem zd_M_store_132 : decode ze_M_store 132 = .ok (.lastore, 1) := by decide +kernel
theorem zd_M_store_133 : decode ze_M_store 133 = .ok (.aload_n 0, 1) := by decide +kernel
theorem zd_M_store_134 : decode ze_M_store 134 = .ok (.dup, 1) := by decide +kernel
theorem zd_M_store_135 : decode ze_M_store 135 = .ok (.getfield 248, 3) := by decide +kernel
theorem zd_M_store_138 : decode ze_M_store 138 = .ok (.iconst 1, 1) := by decide +kernel
theorem zd_M_store_139 : decode ze_M_store 139 = .ok (.iadd, 1) := by decide +kernel
theorem zd_M_store_140 : decode ze_M_store 140 = .ok (.putfield 248, 3) := by decide +kernel
theorem zd_M_store_143 : decode ze_M_store 143 = .ok (.aload_n 0, 1) := by decide +kernel
theorem zd_M_store_144 : decode ze_M_store 144 = .ok (.getfield 248, 3) := by decide +kernel
theorem zd_M_store_147 : decode ze_M_store 147 = .ok (.iconst 1, 1) := by decide +kernel
theorem zd_M_store_148 : decode ze_M_store 148 = .ok (.isub, 1) := by decide +kernel
theorem zd_M_store_149 : decode ze_M_store 149 = .ok (.ireturn, 1) := by decide +kernel
theorem zd_V_check_0 : decode ze_V_check 0 = .ok (.new 74, 3) := by decide +kernel
theorem zd_V_check_3 : decode ze_V_check 3 = .ok (.dup, 1) := by decide +kernel
theorem zd_V_check_4 : decode ze_V_check 4 = .ok (.aload_n 0, 1) := by decide +kernel
theorem zd_V_check_5 : decode ze_V_check 5 = .ok (.getfield 10, 3) := by decide +kernel
theorem zd_V_check_8 : decode ze_V_check 8 = .ok (.invokespecial 76, 3) := by decide +kernel
theorem zd_V_check_11 : decode ze_V_check 11 = .ok (.astore_n 2, 1) := by decide +kernel
theorem zd_V_check_12 : decode ze_V_check 12 = .ok (.iload_n 1, 1) := by decide +kernel
theorem zd_V_check_13 : decode ze_V_check 13 = .ok (.ifCond .eq 17, 3) := by decide +kernel
theorem zd_V_check_16 : decode ze_V_check 16 = .ok (.aload_n 2, 1) := by decide +kernel
theorem zd_V_check_17 : decode ze_V_check 17 = .ok (.aload_n 0, 1) := by decide +kernel
theorem zd_V_check_18 : decode ze_V_check 18 = .ok (.getfield 26, 3) := by decide +kernel
theorem zd_V_check_21 : decode ze_V_check 21 = .ok (.invokevirtual 79, 3) := by decide +kernel
theorem zd_V_check_24 : decode ze_V_check 24 = .ok (.invokevirtual 83, 3) := by decide +kernel
theorem zd_V_check_27 : decode ze_V_check 27 = .ok (.goto 14, 3) := by decide +kernel
theorem zd_V_check_30 : decode ze_V_check 30 = .ok (.aload_n 2, 1) := by decide +kernel
theorem zd_V_check_31 : decode ze_V_check 31 = .ok (.aload_n 0, 1) := by decide +kernel
theorem zd_V_check_32 : decode ze_V_check 32 = .ok (.getfield 26, 3) := by decide +kernel
theorem zd_V_check_35 : decode ze_V_check 35 = .ok (.invokevirtual 87, 3) := by decide +kernel
theorem zd_V_check_38 : decode ze_V_check 38 = .ok (.invokevirtual 91, 3) := by decide +kernel
theorem zd_V_check_41 : decode ze_V_check 41 = .ok (.ireturn, 1) := by decide +kernel
theorem zd_Draft_empty_0 : decode ze_Draft_empty 0 = .ok (.aload_n 0, 1) := by decide +kernel
theorem zd_Draft_empty_1 : decode ze_Draft_empty 1 = .ok (.iconst 0, 1) := by decide +kernel
theorem zd_Draft_empty_2 : decode ze_Draft_empty 2 = .ok (.putfield 15, 3) := by decide +kernel
theorem zd_Draft_empty_5 : decode ze_Draft_empty 5 = .ok (.return_, 1) := by decide +kernel
theorem zd_Draft_isByte_0 : decode ze_Draft_isByte 0 = .ok (.iload_n 0, 1) := by decide +kernel
theorem zd_Draft_isByte_1 : decode ze_Draft_isByte 1 = .ok (.ifCond .lt 14, 3) := by decide +kernel
theorem zd_Draft_isByte_4 : decode ze_Draft_isByte 4 = .ok (.iload_n 0, 1) := by decide +kernel
theorem zd_Draft_isByte_5 : decode ze_Draft_isByte 5 = .ok (.sipush 255, 3) := by decide +kernel
theorem zd_Draft_isByte_8 : decode ze_Draft_isByte 8 = .ok (.if_icmp .gt 7, 3) := by decide +kernel
theorem zd_Draft_isByte_11 : decode ze_Draft_isByte 11 = .ok (.iconst 1, 1) := by decide +kernel
theorem zd_Draft_isByte_12 : decode ze_Draft_isByte 12 = .ok (.goto 4, 3) := by decide +kernel
theorem zd_Draft_isByte_15 : decode ze_Draft_isByte 15 = .ok (.iconst 0, 1) := by decide +kernel
theorem zd_Draft_isByte_16 : decode ze_Draft_isByte 16 = .ok (.ireturn, 1) := by decide +kernel
theorem zd_Draft_append_0 : decode ze_Draft_append 0 = .ok (.iload_n 1, 1) := by decide +kernel
theorem zd_Draft_append_1 : decode ze_Draft_append 1 = .ok (.invokestatic 19, 3) := by decide +kernel
theorem zd_Draft_append_4 : decode ze_Draft_append 4 = .ok (.ifCond .eq 13, 3) := by decide +kernel
theorem zd_Draft_append_7 : decode ze_Draft_append 7 = .ok (.aload_n 0, 1) := by decide +kernel
theorem zd_Draft_append_8 : decode ze_Draft_append 8 = .ok (.getfield 15, 3) := by decide +kernel
theorem zd_Draft_append_11 : decode ze_Draft_append 11 = .ok (.sipush 200, 3) := by decide +kernel
theorem zd_Draft_append_14 : decode ze_Draft_append 14 = .ok (.if_icmp .lt 5, 3) := by decide +kernel
theorem zd_Draft_append_17 : decode ze_Draft_append 17 = .ok (.iconst 0, 1) := by decide +kernel
theorem zd_Draft_append_18 : decode ze_Draft_append 18 = .ok (.ireturn, 1) := by decide +kernel
theorem zd_Draft_append_19 : decode ze_Draft_append 19 = .ok (.aload_n 0, 1) := by decide +kernel
theorem zd_Draft_append_20 : decode ze_Draft_append 20 = .ok (.getfield 11, 3) := by decide +kernel
theorem zd_Draft_append_23 : decode ze_Draft_append 23 = .ok (.aload_n 0, 1) := by decide +kernel
theorem zd_Draft_append_24 : decode ze_Draft_append 24 = .ok (.getfield 15, 3) := by decide +kernel
theorem zd_Draft_append_27 : decode ze_Draft_append 27 = .ok (.iload_n 1, 1) := by decide +kernel
theorem zd_Draft_append_28 : decode ze_Draft_append 28 = .ok (.iastore, 1) := by decide +kernel
theorem zd_Draft_append_29 : decode ze_Draft_append 29 = .ok (.aload_n 0, 1) := by decide +kernel
theorem zd_Draft_append_30 : decode ze_Draft_append 30 = .ok (.dup, 1) := by decide +kernel
theorem zd_Draft_append_31 : decode ze_Draft_append 31 = .ok (.getfield 15, 3) := by decide +kernel
theorem zd_Draft_append_34 : decode ze_Draft_append 34 = .ok (.iconst 1, 1) := by decide +kernel
theorem zd_Draft_append_35 : decode ze_Draft_append 35 = .ok (.iadd, 1) := by decide +kernel
theorem zd_Draft_append_36 : decode ze_Draft_append 36 = .ok (.putfield 15, 3) := by decide +kernel
theorem zd_Draft_append_39 : decode ze_Draft_append 39 = .ok (.iconst 1, 1) := by decide +kernel
theorem zd_Draft_append_40 : decode ze_Draft_append 40 = .ok (.ireturn, 1) := by decide +kernel
theorem zd_Names_length_0 : decode ze_Names_length 0 = .ok (.iconst 0, 1) := by decide +kernel
theorem zd_Names_length_1 : decode ze_Names_length 1 = .ok (.istore_n 2, 1) := by decide +kernel
theorem zd_Names_length_2 : decode ze_Names_length 2 = .ok (.lload_n 0, 1) := by decide +kernel
theorem zd_Names_length_3 : decode ze_Names_length 3 = .ok (.lstore_n 3, 1) := by decide +kernel
theorem zd_Names_length_4 : decode ze_Names_length 4 = .ok (.lload_n 3, 1) := by decide +kernel
theorem zd_Names_length_5 : decode ze_Names_length 5 = .ok (.lconst 0, 1) := by decide +kernel
theorem zd_Names_length_6 : decode ze_Names_length 6 = .ok (.lcmp, 1) := by decide +kernel
theorem zd_Names_length_7 : decode ze_Names_length 7 = .ok (.ifCond .eq 13, 3) := by decide +kernel
theorem zd_Names_length_10 : decode ze_Names_length 10 = .ok (.iinc 2 1, 3) := by decide +kernel
theorem zd_Names_length_13 : decode ze_Names_length 13 = .ok (.lload_n 3, 1) := by decide +kernel
theorem zd_Names_length_14 : decode ze_Names_length 14 = .ok (.iconst 5, 1) := by decide +kernel
theorem zd_Names_length_15 : decode ze_Names_length 15 = .ok (.lushr, 1) := by decide +kernel
theorem zd_Names_length_16 : decode ze_Names_length 16 = .ok (.lstore_n 3, 1) := by decide +kernel
theorem zd_Names_length_17 : decode ze_Names_length 17 = .ok (.goto (-13), 3) := by decide +kernel
theorem zd_Names_length_20 : decode ze_Names_length 20 = .ok (.iload_n 2, 1) := by decide +kernel
theorem zd_Names_length_21 : decode ze_Names_length 21 = .ok (.ireturn, 1) := by decide +kernel
theorem zd_Names_toAscii_0 : decode ze_Names_toAscii 0 = .ok (.iload_n 0, 1) := by decide +kernel
theorem zd_Names_toAscii_1 : decode ze_Names_toAscii 1 = .ok (.bipush 27, 2) := by decide +kernel
theorem zd_Names_toAscii_3 : decode ze_Names_toAscii 3 = .ok (.if_icmp .ne 8, 3) := by decide +kernel
theorem zd_Names_toAscii_6 : decode ze_Names_toAscii 6 = .ok (.bipush 46, 2) := by decide +kernel
theorem zd_Names_toAscii_8 : decode ze_Names_toAscii 8 = .ok (.goto 7, 3) := by decide +kernel
theorem zd_Names_toAscii_11 : decode ze_Names_toAscii 11 = .ok (.bipush 96, 2) := by decide +kernel
theorem zd_Names_toAscii_13 : decode ze_Names_toAscii 13 = .ok (.iload_n 0, 1) := by decide +kernel
theorem zd_Names_toAscii_14 : decode ze_Names_toAscii 14 = .ok (.iadd, 1) := by decide +kernel
theorem zd_Names_toAscii_15 : decode ze_Names_toAscii 15 = .ok (.ireturn, 1) := by decide +kernel
theorem zd_Draft_appendName_0 : decode ze_Draft_appendName 0 = .ok (.aload_n 0, 1) := by decide +kernel
theorem zd_Draft_appendName_1 : decode ze_Draft_appendName 1 = .ok (.iload_n 1, 1) := by decide +kernel
theorem zd_Draft_appendName_2 : decode ze_Draft_appendName 2 = .ok (.invokevirtual 26, 3) := by decide +kernel
theorem zd_Draft_appendName_5 : decode ze_Draft_appendName 5 = .ok (.pop, 1) := by decide +kernel
theorem zd_Draft_appendName_6 : decode ze_Draft_appendName 6 = .ok (.aload_n 0, 1) := by decide +kernel
theorem zd_Draft_appendName_7 : decode ze_Draft_appendName 7 = .ok (.lload_n 2, 1) := by decide +kernel
theorem zd_Draft_appendName_8 : decode ze_Draft_appendName 8 = .ok (.invokestatic 29, 3) := by decide +kernel
theorem zd_Draft_appendName_11 : decode ze_Draft_appendName 11 = .ok (.invokevirtual 26, 3) := by decide +kernel
theorem zd_Draft_appendName_14 : decode ze_Draft_appendName 14 = .ok (.pop, 1) := by decide +kernel
theorem zd_Draft_appendName_15 : decode ze_Draft_appendName 15 = .ok (.lload_n 2, 1) := by decide +kernel
theorem zd_Draft_appendName_16 : decode ze_Draft_appendName 16 = .ok (.lstore 4, 2) := by decide +kernel
theorem zd_Draft_appendName_18 : decode ze_Draft_appendName 18 = .ok (.lload 4, 2) := by decide +kernel
theorem zd_Draft_appendName_20 : decode ze_Draft_appendName 20 = .ok (.lconst 0, 1) := by decide +kernel
theorem zd_Draft_appendName_21 : decode ze_Draft_appendName 21 = .ok (.lcmp, 1) := by decide +kernel
theorem zd_Draft_appendName_22 : decode ze_Draft_appendName 22 = .ok (.ifCond .eq 26, 3) := by decide +kernel
theorem zd_Draft_appendName_25 : decode ze_Draft_appendName 25 = .ok (.aload_n 0, 1) := by decide +kernel
theorem zd_Draft_appendName_26 : decode ze_Draft_appendName 26 = .ok (.lload 4, 2) := by decide +kernel
theorem zd_Draft_appendName_28 : decode ze_Draft_appendName 28 = .ok (.l2i, 1) := by decide +kernel
theorem zd_Draft_appendName_29 : decode ze_Draft_appendName 29 = .ok (.bipush 31, 2) := by decide +kernel
theorem zd_Draft_appendName_31 : decode ze_Draft_appendName 31 = .ok (.iand, 1) := by decide +kernel
theorem zd_Draft_appendName_32 : decode ze_Draft_appendName 32 = .ok (.invokestatic 35, 3) := by decide +kernel
theorem zd_Draft_appendName_35 : decode ze_Draft_appendName 35 = .ok (.invokevirtual 26, 3) := by decide +kernel
theorem zd_Draft_appendName_38 : decode ze_Draft_appendName 38 = .ok (.pop, 1) := by decide +kernel
theorem zd_Draft_appendName_39 : decode ze_Draft_appendName 39 = .ok (.lload 4, 2) := by decide +kernel
theorem zd_Draft_appendName_41 : decode ze_Draft_appendName 41 = .ok (.iconst 5, 1) := by decide +kernel
theorem zd_Draft_appendName_42 : decode ze_Draft_appendName 42 = .ok (.lushr, 1) := by decide +kernel
theorem zd_Draft_appendName_43 : decode ze_Draft_appendName 43 = .ok (.lstore 4, 2) := by decide +kernel
theorem zd_Draft_appendName_45 : decode ze_Draft_appendName 45 = .ok (.goto (-27), 3) := by decide +kernel
theorem zd_Draft_appendName_48 : decode ze_Draft_appendName 48 = .ok (.return_, 1) := by decide +kernel
theorem zd_Draft_appendInteger_0 : decode ze_Draft_appendInteger 0 = .ok (.iconst 1, 1) := by decide +kernel
theorem zd_Draft_appendInteger_1 : decode ze_Draft_appendInteger 1 = .ok (.istore_n 3, 1) := by decide +kernel
theorem zd_Draft_appendInteger_2 : decode ze_Draft_appendInteger 2 = .ok (.iload_n 3, 1) := by decide +kernel
theorem zd_Draft_appendInteger_3 : decode ze_Draft_appendInteger 3 = .ok (.bipush 8, 2) := by decide +kernel
theorem zd_Draft_appendInteger_5 : decode ze_Draft_appendInteger 5 = .ok (.if_icmp .ge 22, 3) := by decide +kernel
theorem zd_Draft_appendInteger_8 : decode ze_Draft_appendInteger 8 = .ok (.lload_n 1, 1) := by decide +kernel
theorem zd_Draft_appendInteger_9 : decode ze_Draft_appendInteger 9 = .ok (.bipush 8, 2) := by decide +kernel
theorem zd_Draft_appendInteger_11 : decode ze_Draft_appendInteger 11 = .ok (.iload_n 3, 1) := by decide +kernel
theorem zd_Draft_appendInteger_12 : decode ze_Draft_appendInteger 12 = .ok (.imul, 1) := by decide +kernel
theorem zd_Draft_appendInteger_13 : decode ze_Draft_appendInteger 13 = .ok (.iconst 1, 1) := by decide +kernel
theorem zd_Draft_appendInteger_14 : decode ze_Draft_appendInteger 14 = .ok (.isub, 1) := by decide +kernel
theorem zd_Draft_appendInteger_15 : decode ze_Draft_appendInteger 15 = .ok (.lushr, 1) := by decide +kernel
theorem zd_Draft_appendInteger_16 : decode ze_Draft_appendInteger 16 = .ok (.lconst 0, 1) := by decide +kernel
theorem zd_Draft_appendInteger_17 : decode ze_Draft_appendInteger 17 = .ok (.lcmp, 1) := by decide +kernel
theorem zd_Draft_appendInteger_18 : decode ze_Draft_appendInteger 18 = .ok (.ifCond .eq 9, 3) := by decide +kernel
theorem zd_Draft_appendInteger_21 : decode ze_Draft_appendInteger 21 = .ok (.iinc 3 1, 3) := by decide +kernel
theorem zd_Draft_appendInteger_24 : decode ze_Draft_appendInteger 24 = .ok (.goto (-22), 3) := by decide +kernel
theorem zd_Draft_appendInteger_27 : decode ze_Draft_appendInteger 27 = .ok (.aload_n 0, 1) := by decide +kernel
theorem zd_Draft_appendInteger_28 : decode ze_Draft_appendInteger 28 = .ok (.iconst 2, 1) := by decide +kernel
theorem zd_Draft_appendInteger_29 : decode ze_Draft_appendInteger 29 = .ok (.invokevirtual 26, 3) := by decide +kernel
theorem zd_Draft_appendInteger_32 : decode ze_Draft_appendInteger 32 = .ok (.pop, 1) := by decide +kernel
theorem zd_Draft_appendInteger_33 : decode ze_Draft_appendInteger 33 = .ok (.aload_n 0, 1) := by decide +kernel
theorem zd_Draft_appendInteger_34 : decode ze_Draft_appendInteger 34 = .ok (.iload_n 3, 1) := by decide +kernel
theorem zd_Draft_appendInteger_35 : decode ze_Draft_appendInteger 35 = .ok (.invokevirtual 26, 3) := by decide +kernel
theorem zd_Draft_appendInteger_38 : decode ze_Draft_appendInteger 38 = .ok (.pop, 1) := by decide +kernel
theorem zd_Draft_appendInteger_39 : decode ze_Draft_appendInteger 39 = .ok (.iload_n 3, 1) := by decide +kernel
theorem zd_Draft_appendInteger_40 : decode ze_Draft_appendInteger 40 = .ok (.iconst 1, 1) := by decide +kernel
theorem zd_Draft_appendInteger_41 : decode ze_Draft_appendInteger 41 = .ok (.isub, 1) := by decide +kernel
theorem zd_Draft_appendInteger_42 : decode ze_Draft_appendInteger 42 = .ok (.istore 4, 2) := by decide +kernel
theorem zd_Draft_appendInteger_44 : decode ze_Draft_appendInteger 44 = .ok (.iload 4, 2) := by decide +kernel
theorem zd_Draft_appendInteger_46 : decode ze_Draft_appendInteger 46 = .ok (.ifCond .lt 26, 3) := by decide +kernel
theorem zd_Draft_appendInteger_49 : decode ze_Draft_appendInteger 49 = .ok (.aload_n 0, 1) := by decide +kernel
theorem zd_Draft_appendInteger_50 : decode ze_Draft_appendInteger 50 = .ok (.lload_n 1, 1) := by decide +kernel
theorem zd_Draft_appendInteger_51 : decode ze_Draft_appendInteger 51 = .ok (.bipush 8, 2) := by decide +kernel
theorem zd_Draft_appendInteger_53 : decode ze_Draft_appendInteger 53 = .ok (.iload 4, 2) := by decide +kernel
theorem zd_Draft_appendInteger_55 : decode ze_Draft_appendInteger 55 = .ok (.imul, 1) := by decide +kernel
theorem zd_Draft_appendInteger_56 : decode ze_Draft_appendInteger 56 = .ok (.lushr, 1) := by decide +kernel
theorem zd_Draft_appendInteger_57 : decode ze_Draft_appendInteger 57 = .ok (.l2i, 1) := by decide +kernel
theorem zd_Draft_appendInteger_58 : decode ze_Draft_appendInteger 58 = .ok (.sipush 255, 3) := by decide +kernel
theorem zd_Draft_appendInteger_61 : decode ze_Draft_appendInteger 61 = .ok (.iand, 1) := by decide +kernel
theorem zd_Draft_appendInteger_62 : decode ze_Draft_appendInteger 62 = .ok (.invokevirtual 26, 3) := by decide +kernel
theorem zd_Draft_appendInteger_65 : decode ze_Draft_appendInteger 65 = .ok (.pop, 1) := by decide +kernel
theorem zd_Draft_appendInteger_66 : decode ze_Draft_appendInteger 66 = .ok (.iinc 4 (-1), 3) := by decide +kernel
theorem zd_Draft_appendInteger_69 : decode ze_Draft_appendInteger 69 = .ok (.goto (-25), 3) := by decide +kernel
theorem zd_Draft_appendInteger_72 : decode ze_Draft_appendInteger 72 = .ok (.return_, 1) := by decide +kernel
theorem zd_Draft_wrap_0 : decode ze_Draft_wrap 0 = .ok (.aload_n 0, 1) := by decide +kernel
theorem zd_Draft_wrap_1 : decode ze_Draft_wrap 1 = .ok (.getfield 15, 3) := by decide +kernel
theorem zd_Draft_wrap_4 : decode ze_Draft_wrap 4 = .ok (.iload_n 1, 1) := by decide +kernel
theorem zd_Draft_wrap_5 : decode ze_Draft_wrap 5 = .ok (.isub, 1) := by decide +kernel
theorem zd_Draft_wrap_6 : decode ze_Draft_wrap 6 = .ok (.istore_n 3, 1) := by decide +kernel
theorem zd_Draft_wrap_7 : decode ze_Draft_wrap 7 = .ok (.iload_n 3, 1) := by decide +kernel
theorem zd_Draft_wrap_8 : decode ze_Draft_wrap 8 = .ok (.bipush 127, 2) := by decide +kernel
theorem zd_Draft_wrap_10 : decode ze_Draft_wrap 10 = .ok (.if_icmp .le 7, 3) := by decide +kernel
theorem zd_Draft_wrap_13 : decode ze_Draft_wrap 13 = .ok (.iconst 3, 1) := by decide +kernel
theorem zd_Draft_wrap_14 : decode ze_Draft_wrap 14 = .ok (.goto 4, 3) := by decide +kernel
theorem zd_Draft_wrap_17 : decode ze_Draft_wrap 17 = .ok (.iconst 2, 1) := by decide +kernel
theorem zd_Draft_wrap_18 : decode ze_Draft_wrap 18 = .ok (.istore 4, 2) := by decide +kernel
theorem zd_Draft_wrap_20 : decode ze_Draft_wrap 20 = .ok (.iload_n 1, 1) := by decide +kernel
theorem zd_Draft_wrap_21 : decode ze_Draft_wrap 21 = .ok (.ifCond .lt 20, 3) := by decide +kernel
theorem zd_Draft_wrap_24 : decode ze_Draft_wrap 24 = .ok (.iload_n 3, 1) := by decide +kernel
theorem zd_Draft_wrap_25 : decode ze_Draft_wrap 25 = .ok (.ifCond .lt 16, 3) := by decide +kernel
theorem zd_Draft_wrap_28 : decode ze_Draft_wrap 28 = .ok (.aload_n 0, 1) := by decide +kernel
theorem zd_Draft_wrap_29 : decode ze_Draft_wrap 29 = .ok (.getfield 15, 3) := by decide +kernel
theorem zd_Draft_wrap_32 : decode ze_Draft_wrap 32 = .ok (.iload 4, 2) := by decide +kernel
theorem zd_Draft_wrap_34 : decode ze_Draft_wrap 34 = .ok (.iadd, 1) := by decide +kernel
theorem zd_Draft_wrap_35 : decode ze_Draft_wrap 35 = .ok (.sipush 200, 3) := by decide +kernel
theorem zd_Draft_wrap_38 : decode ze_Draft_wrap 38 = .ok (.if_icmp .le 4, 3) := by decide +kernel
theorem zd_Draft_wrap_41 : decode ze_Draft_wrap 41 = .ok (.return_, 1) := by decide +kernel
theorem zd_Draft_wrap_42 : decode ze_Draft_wrap 42 = .ok (.aload_n 0, 1) := by decide +kernel
theorem zd_Draft_wrap_43 : decode ze_Draft_wrap 43 = .ok (.getfield 11, 3) := by decide +kernel
theorem zd_Draft_wrap_46 : decode ze_Draft_wrap 46 = .ok (.iload_n 1, 1) := by decide +kernel
theorem zd_Draft_wrap_47 : decode ze_Draft_wrap 47 = .ok (.aload_n 0, 1) := by decide +kernel
theorem zd_Draft_wrap_48 : decode ze_Draft_wrap 48 = .ok (.getfield 11, 3) := by decide +kernel
theorem zd_Draft_wrap_51 : decode ze_Draft_wrap 51 = .ok (.iload_n 1, 1) := by decide +kernel
theorem zd_Draft_wrap_52 : decode ze_Draft_wrap 52 = .ok (.iload 4, 2) := by decide +kernel
theorem zd_Draft_wrap_54 : decode ze_Draft_wrap 54 = .ok (.iadd, 1) := by decide +kernel
theorem zd_Draft_wrap_55 : decode ze_Draft_wrap 55 = .ok (.iload_n 3, 1) := by decide +kernel
theorem zd_Draft_wrap_56 : decode ze_Draft_wrap 56 = .ok (.invokestatic 39, 3) := by decide +kernel
theorem zd_Draft_wrap_59 : decode ze_Draft_wrap 59 = .ok (.aload_n 0, 1) := by decide +kernel
theorem zd_Draft_wrap_60 : decode ze_Draft_wrap 60 = .ok (.dup, 1) := by decide +kernel
theorem zd_Draft_wrap_61 : decode ze_Draft_wrap 61 = .ok (.getfield 15, 3) := by decide +kernel
theorem zd_Draft_wrap_64 : decode ze_Draft_wrap 64 = .ok (.iload 4, 2) := by decide +kernel
theorem zd_Draft_wrap_66 : decode ze_Draft_wrap 66 = .ok (.iadd, 1) := by decide +kernel
theorem zd_Draft_wrap_67 : decode ze_Draft_wrap 67 = .ok (.putfield 15, 3) := by decide +kernel
theorem zd_Draft_wrap_70 : decode ze_Draft_wrap 70 = .ok (.aload_n 0, 1) := by decide +kernel
theorem zd_Draft_wrap_71 : decode ze_Draft_wrap 71 = .ok (.getfield 11, 3) := by decide +kernel
theorem zd_Draft_wrap_74 : decode ze_Draft_wrap 74 = .ok (.iload_n 1, 1) := by decide +kernel
theorem zd_Draft_wrap_75 : decode ze_Draft_wrap 75 = .ok (.iload_n 2, 1) := by decide +kernel
theorem zd_Draft_wrap_76 : decode ze_Draft_wrap 76 = .ok (.iastore, 1) := by decide +kernel
theorem zd_Draft_wrap_77 : decode ze_Draft_wrap 77 = .ok (.iload 4, 2) := by decide +kernel
theorem zd_Draft_wrap_79 : decode ze_Draft_wrap 79 = .ok (.iconst 3, 1) := by decide +kernel
theorem zd_Draft_wrap_80 : decode ze_Draft_wrap 80 = .ok (.if_icmp .ne 14, 3) := by decide +kernel
theorem zd_Draft_wrap_83 : decode ze_Draft_wrap 83 = .ok (.aload_n 0, 1) := by decide +kernel
theorem zd_Draft_wrap_84 : decode ze_Draft_wrap 84 = .ok (.getfield 11, 3) := by decide +kernel
theorem zd_Draft_wrap_87 : decode ze_Draft_wrap 87 = .ok (.iload_n 1, 1) := by decide +kernel
theorem zd_Draft_wrap_88 : decode ze_Draft_wrap 88 = .ok (.iconst 1, 1) := by decide +kernel
theorem zd_Draft_wrap_89 : decode ze_Draft_wrap 89 = .ok (.iadd, 1) := by decide +kernel
theorem zd_Draft_wrap_90 : decode ze_Draft_wrap 90 = .ok (.sipush 129, 3) := by decide +kernel
theorem zd_Draft_wrap_93 : decode ze_Draft_wrap 93 = .ok (.iastore, 1) := by decide +kernel
theorem zd_Draft_wrap_94 : decode ze_Draft_wrap 94 = .ok (.aload_n 0, 1) := by decide +kernel
theorem zd_Draft_wrap_95 : decode ze_Draft_wrap 95 = .ok (.getfield 11, 3) := by decide +kernel
theorem zd_Draft_wrap_98 : decode ze_Draft_wrap 98 = .ok (.iload_n 1, 1) := by decide +kernel
theorem zd_Draft_wrap_99 : decode ze_Draft_wrap 99 = .ok (.iload 4, 2) := by decide +kernel
theorem zd_Draft_wrap_101 : decode ze_Draft_wrap 101 = .ok (.iadd, 1) := by decide +kernel
theorem zd_Draft_wrap_102 : decode ze_Draft_wrap 102 = .ok (.iconst 1, 1) := by decide +kernel
theorem zd_Draft_wrap_103 : decode ze_Draft_wrap 103 = .ok (.isub, 1) := by decide +kernel
theorem zd_Draft_wrap_104 : decode ze_Draft_wrap 104 = .ok (.iload_n 3, 1) := by decide +kernel
theorem zd_Draft_wrap_105 : decode ze_Draft_wrap 105 = .ok (.iastore, 1) := by decide +kernel
theorem zd_Draft_wrap_106 : decode ze_Draft_wrap 106 = .ok (.return_, 1) := by decide +kernel
theorem zd_Tool_finish_0 : decode ze_Tool_finish 0 = .ok (.aload_n 1, 1) := by decide +kernel
theorem zd_Tool_finish_1 : decode ze_Tool_finish 1 = .ok (.iconst 0, 1) := by decide +kernel
theorem zd_Tool_finish_2 : decode ze_Tool_finish 2 = .ok (.bipush 48, 2) := by decide +kernel
theorem zd_Tool_finish_4 : decode ze_Tool_finish 4 = .ok (.invokevirtual 80, 3) := by decide +kernel
theorem zd_Tool_finish_7 : decode ze_Tool_finish 7 = .ok (.aload_n 1, 1) := by decide +kernel
theorem zd_Tool_finish_8 : decode ze_Tool_finish 8 = .ok (.iconst 0, 1) := by decide +kernel
theorem zd_Tool_finish_9 : decode ze_Tool_finish 9 = .ok (.aload_n 1, 1) := by decide +kernel
theorem zd_Tool_finish_10 : decode ze_Tool_finish 10 = .ok (.getfield 77, 3) := by decide +kernel
theorem zd_Tool_finish_13 : decode ze_Tool_finish 13 = .ok (.invokevirtual 84, 3) := by decide +kernel
theorem zd_Tool_finish_16 : decode ze_Tool_finish 16 = .ok (.istore_n 2, 1) := by decide +kernel
theorem zd_Tool_finish_17 : decode ze_Tool_finish 17 = .ok (.aload_n 1, 1) := by decide +kernel
theorem zd_Tool_finish_18 : decode ze_Tool_finish 18 = .ok (.aload_n 0, 1) := by decide +kernel
theorem zd_Tool_finish_19 : decode ze_Tool_finish 19 = .ok (.getfield 13, 3) := by decide +kernel
theorem zd_Tool_finish_22 : decode ze_Tool_finish 22 = .ok (.bipush 12, 2) := by decide +kernel
theorem zd_Tool_finish_24 : decode ze_Tool_finish 24 = .ok (.laload, 1) := by decide +kernel
theorem zd_Tool_finish_25 : decode ze_Tool_finish 25 = .ok (.l2i, 1) := by decide +kernel
theorem zd_Tool_finish_26 : decode ze_Tool_finish 26 = .ok (.iload_n 2, 1) := by decide +kernel
theorem zd_Tool_finish_27 : decode ze_Tool_finish 27 = .ok (.invokestatic 88, 3) := by decide +kernel
theorem zd_Tool_finish_30 : decode ze_Tool_finish 30 = .ok (.invokevirtual 55, 3) := by decide +kernel
theorem zd_Tool_finish_33 : decode ze_Tool_finish 33 = .ok (.aload_n 1, 1) := by decide +kernel
theorem zd_Tool_finish_34 : decode ze_Tool_finish 34 = .ok (.iconst 0, 1) := by decide +kernel
theorem zd_Tool_finish_35 : decode ze_Tool_finish 35 = .ok (.bipush 48, 2) := by decide +kernel
theorem zd_Tool_finish_37 : decode ze_Tool_finish 37 = .ok (.invokevirtual 80, 3) := by decide +kernel
theorem zd_Tool_finish_40 : decode ze_Tool_finish 40 = .ok (.aload_n 1, 1) := by decide +kernel
theorem zd_Tool_finish_41 : decode ze_Tool_finish 41 = .ok (.getfield 77, 3) := by decide +kernel
theorem zd_Tool_finish_44 : decode ze_Tool_finish 44 = .ok (.ireturn, 1) := by decide +kernel
theorem zd_Tool_writeList_0 : decode ze_Tool_writeList 0 = .ok (.aload_n 1, 1) := by decide +kernel
theorem zd_Tool_writeList_1 : decode ze_Tool_writeList 1 = .ok (.invokevirtual 50, 3) := by decide +kernel
theorem zd_Tool_writeList_4 : decode ze_Tool_writeList 4 = .ok (.aload_n 1, 1) := by decide +kernel
theorem zd_Tool_writeList_5 : decode ze_Tool_writeList 5 = .ok (.bipush 19, 2) := by decide +kernel
theorem zd_Tool_writeList_7 : decode ze_Tool_writeList 7 = .ok (.aload_n 0, 1) := by decide +kernel
theorem zd_Tool_writeList_8 : decode ze_Tool_writeList 8 = .ok (.getfield 13, 3) := by decide +kernel
theorem zd_Tool_writeList_11 : decode ze_Tool_writeList 11 = .ok (.iconst 1, 1) := by decide +kernel
theorem zd_Tool_writeList_12 : decode ze_Tool_writeList 12 = .ok (.laload, 1) := by decide +kernel
theorem zd_Tool_writeList_13 : decode ze_Tool_writeList 13 = .ok (.invokevirtual 59, 3) := by decide +kernel
theorem zd_Tool_writeList_16 : decode ze_Tool_writeList 16 = .ok (.aload_n 1, 1) := by decide +kernel
theorem zd_Tool_writeList_17 : decode ze_Tool_writeList 17 = .ok (.aload_n 0, 1) := by decide +kernel
theorem zd_Tool_writeList_18 : decode ze_Tool_writeList 18 = .ok (.getfield 13, 3) := by decide +kernel
theorem zd_Tool_writeList_21 : decode ze_Tool_writeList 21 = .ok (.iconst 2, 1) := by decide +kernel
theorem zd_Tool_writeList_22 : decode ze_Tool_writeList 22 = .ok (.laload, 1) := by decide +kernel
theorem zd_Tool_writeList_23 : decode ze_Tool_writeList 23 = .ok (.invokevirtual 55, 3) := by decide +kernel
theorem zd_Tool_writeList_26 : decode ze_Tool_writeList 26 = .ok (.aload_n 1, 1) := by decide +kernel
theorem zd_Tool_writeList_27 : decode ze_Tool_writeList 27 = .ok (.aload_n 0, 1) := by decide +kernel
theorem zd_Tool_writeList_28 : decode ze_Tool_writeList 28 = .ok (.getfield 13, 3) := by decide +kernel
theorem zd_Tool_writeList_31 : decode ze_Tool_writeList 31 = .ok (.iconst 3, 1) := by decide +kernel
theorem zd_Tool_writeList_32 : decode ze_Tool_writeList 32 = .ok (.laload, 1) := by decide +kernel
theorem zd_Tool_writeList_33 : decode ze_Tool_writeList 33 = .ok (.invokevirtual 55, 3) := by decide +kernel
theorem zd_Tool_writeList_36 : decode ze_Tool_writeList 36 = .ok (.aload_n 1, 1) := by decide +kernel
theorem zd_Tool_writeList_37 : decode ze_Tool_writeList 37 = .ok (.getfield 77, 3) := by decide +kernel
theorem zd_Tool_writeList_40 : decode ze_Tool_writeList 40 = .ok (.istore_n 2, 1) := by decide +kernel
theorem zd_Tool_writeList_41 : decode ze_Tool_writeList 41 = .ok (.iconst 0, 1) := by decide +kernel
theorem zd_Tool_writeList_42 : decode ze_Tool_writeList 42 = .ok (.istore_n 3, 1) := by decide +kernel
theorem zd_Tool_writeList_43 : decode ze_Tool_writeList 43 = .ok (.iload_n 3, 1) := by decide +kernel
theorem zd_Tool_writeList_44 : decode ze_Tool_writeList 44 = .ok (.aload_n 0, 1) := by decide +kernel
theorem zd_Tool_writeList_45 : decode ze_Tool_writeList 45 = .ok (.getfield 25, 3) := by decide +kernel
theorem zd_Tool_writeList_48 : decode ze_Tool_writeList 48 = .ok (.if_icmp .ge 43, 3) := by decide +kernel
theorem zd_Tool_writeList_51 : decode ze_Tool_writeList 51 = .ok (.aload_n 1, 1) := by decide +kernel
theorem zd_Tool_writeList_52 : decode ze_Tool_writeList 52 = .ok (.getfield 77, 3) := by decide +kernel
theorem zd_Tool_writeList_55 : decode ze_Tool_writeList 55 = .ok (.istore 4, 2) := by decide +kernel
theorem zd_Tool_writeList_57 : decode ze_Tool_writeList 57 = .ok (.aload_n 1, 1) := by decide +kernel
theorem zd_Tool_writeList_58 : decode ze_Tool_writeList 58 = .ok (.aload_n 0, 1) := by decide +kernel
theorem zd_Tool_writeList_59 : decode ze_Tool_writeList 59 = .ok (.getfield 19, 3) := by decide +kernel
theorem zd_Tool_writeList_62 : decode ze_Tool_writeList 62 = .ok (.iload_n 3, 1) := by decide +kernel
theorem zd_Tool_writeList_63 : decode ze_Tool_writeList 63 = .ok (.laload, 1) := by decide +kernel
theorem zd_Tool_writeList_64 : decode ze_Tool_writeList 64 = .ok (.invokevirtual 55, 3) := by decide +kernel
theorem zd_Tool_writeList_67 : decode ze_Tool_writeList 67 = .ok (.aload_n 1, 1) := by decide +kernel
theorem zd_Tool_writeList_68 : decode ze_Tool_writeList 68 = .ok (.aload_n 0, 1) := by decide +kernel
theorem zd_Tool_writeList_69 : decode ze_Tool_writeList 69 = .ok (.getfield 22, 3) := by decide +kernel
theorem zd_Tool_writeList_72 : decode ze_Tool_writeList 72 = .ok (.iload_n 3, 1) := by decide +kernel
theorem zd_Tool_writeList_73 : decode ze_Tool_writeList 73 = .ok (.laload, 1) := by decide +kernel
theorem zd_Tool_writeList_74 : decode ze_Tool_writeList 74 = .ok (.invokevirtual 55, 3) := by decide +kernel
theorem zd_Tool_writeList_77 : decode ze_Tool_writeList 77 = .ok (.aload_n 1, 1) := by decide +kernel
theorem zd_Tool_writeList_78 : decode ze_Tool_writeList 78 = .ok (.iload 4, 2) := by decide +kernel
theorem zd_Tool_writeList_80 : decode ze_Tool_writeList 80 = .ok (.bipush 48, 2) := by decide +kernel
theorem zd_Tool_writeList_82 : decode ze_Tool_writeList 82 = .ok (.invokevirtual 80, 3) := by decide +kernel
theorem zd_Tool_writeList_85 : decode ze_Tool_writeList 85 = .ok (.iinc 3 1, 3) := by decide +kernel
theorem zd_Tool_writeList_88 : decode ze_Tool_writeList 88 = .ok (.goto (-45), 3) := by decide +kernel
theorem zd_Tool_writeList_91 : decode ze_Tool_writeList 91 = .ok (.aload_n 1, 1) := by decide +kernel
theorem zd_Tool_writeList_92 : decode ze_Tool_writeList 92 = .ok (.iload_n 2, 1) := by decide +kernel
theorem zd_Tool_writeList_93 : decode ze_Tool_writeList 93 = .ok (.bipush 48, 2) := by decide +kernel
theorem zd_Tool_writeList_95 : decode ze_Tool_writeList 95 = .ok (.invokevirtual 80, 3) := by decide +kernel
theorem zd_Tool_writeList_98 : decode ze_Tool_writeList 98 = .ok (.aload_n 0, 1) := by decide +kernel
theorem zd_Tool_writeList_99 : decode ze_Tool_writeList 99 = .ok (.aload_n 1, 1) := by decide +kernel
theorem zd_Tool_writeList_100 : decode ze_Tool_writeList 100 = .ok (.invokevirtual 73, 3) := by decide +kernel
theorem zd_Tool_writeList_103 : decode ze_Tool_writeList 103 = .ok (.ireturn, 1) := by decide +kernel
theorem zd_V_composeList_0 : decode ze_V_composeList 0 = .ok (.aload_n 0, 1) := by decide +kernel
theorem zd_V_composeList_1 : decode ze_V_composeList 1 = .ok (.getfield 19, 3) := by decide +kernel
theorem zd_V_composeList_4 : decode ze_V_composeList 4 = .ok (.aload_n 0, 1) := by decide +kernel
theorem zd_V_composeList_5 : decode ze_V_composeList 5 = .ok (.getfield 10, 3) := by decide +kernel
theorem zd_V_composeList_8 : decode ze_V_composeList 8 = .ok (.invokevirtual 71, 3) := by decide +kernel
theorem zd_V_composeList_11 : decode ze_V_composeList 11 = .ok (.ireturn, 1) := by decide +kernel
theorem zd_M_add_0 : decode ze_M_add 0 = .ok (.aload_n 0, 1) := by decide +kernel
theorem zd_M_add_1 : decode ze_M_add 1 = .ok (.getfield 7, 3) := by decide +kernel
theorem zd_M_add_4 : decode ze_M_add 4 = .ok (.aload_n 0, 1) := by decide +kernel
theorem zd_M_add_5 : decode ze_M_add 5 = .ok (.getfield 141, 3) := by decide +kernel
theorem zd_M_add_8 : decode ze_M_add 8 = .ok (.iload_n 1, 1) := by decide +kernel
theorem zd_M_add_9 : decode ze_M_add 9 = .ok (.iastore, 1) := by decide +kernel
theorem zd_M_add_10 : decode ze_M_add 10 = .ok (.aload_n 0, 1) := by decide +kernel
theorem zd_M_add_11 : decode ze_M_add 11 = .ok (.dup, 1) := by decide +kernel
theorem zd_M_add_12 : decode ze_M_add 12 = .ok (.getfield 141, 3) := by decide +kernel
theorem zd_M_add_15 : decode ze_M_add 15 = .ok (.iconst 1, 1) := by decide +kernel
theorem zd_M_add_16 : decode ze_M_add 16 = .ok (.iadd, 1) := by decide +kernel
theorem zd_M_add_17 : decode ze_M_add 17 = .ok (.putfield 141, 3) := by decide +kernel
theorem zd_M_add_20 : decode ze_M_add 20 = .ok (.return_, 1) := by decide +kernel
theorem zd_M_name_0 : decode ze_M_name 0 = .ok (.lload_n 2, 1) := by decide +kernel
theorem zd_M_name_1 : decode ze_M_name 1 = .ok (.invokestatic 133, 3) := by decide +kernel
theorem zd_M_name_4 : decode ze_M_name 4 = .ok (.istore 4, 2) := by decide +kernel
theorem zd_M_name_6 : decode ze_M_name 6 = .ok (.aload_n 0, 1) := by decide +kernel
theorem zd_M_name_7 : decode ze_M_name 7 = .ok (.iload_n 1, 1) := by decide +kernel
theorem zd_M_name_8 : decode ze_M_name 8 = .ok (.invokevirtual 156, 3) := by decide +kernel
theorem zd_M_name_11 : decode ze_M_name 11 = .ok (.aload_n 0, 1) := by decide +kernel
theorem zd_M_name_12 : decode ze_M_name 12 = .ok (.iload 4, 2) := by decide +kernel
theorem zd_M_name_14 : decode ze_M_name 14 = .ok (.invokevirtual 156, 3) := by decide +kernel
theorem zd_M_name_17 : decode ze_M_name 17 = .ok (.iconst 0, 1) := by decide +kernel
theorem zd_M_name_18 : decode ze_M_name 18 = .ok (.istore 5, 2) := by decide +kernel
theorem zd_M_name_20 : decode ze_M_name 20 = .ok (.iload 5, 2) := by decide +kernel
theorem zd_M_name_22 : decode ze_M_name 22 = .ok (.iload 4, 2) := by decide +kernel
theorem zd_M_name_24 : decode ze_M_name 24 = .ok (.if_icmp .ge 43, 3) := by decide +kernel
theorem zd_M_name_27 : decode ze_M_name 27 = .ok (.lload_n 2, 1) := by decide +kernel
theorem zd_M_name_28 : decode ze_M_name 28 = .ok (.iconst 5, 1) := by decide +kernel
theorem zd_M_name_29 : decode ze_M_name 29 = .ok (.iload 5, 2) := by decide +kernel
theorem zd_M_name_31 : decode ze_M_name 31 = .ok (.imul, 1) := by decide +kernel
theorem zd_M_name_32 : decode ze_M_name 32 = .ok (.lshr, 1) := by decide +kernel
theorem zd_M_name_33 : decode ze_M_name 33 = .ok (.ldc2_w 131, 3) := by decide +kernel
theorem zd_M_name_36 : decode ze_M_name 36 = .ok (.land, 1) := by decide +kernel
theorem zd_M_name_37 : decode ze_M_name 37 = .ok (.l2i, 1) := by decide +kernel
theorem zd_M_name_38 : decode ze_M_name 38 = .ok (.istore 6, 2) := by decide +kernel
theorem zd_M_name_40 : decode ze_M_name 40 = .ok (.aload_n 0, 1) := by decide +kernel
theorem zd_M_name_41 : decode ze_M_name 41 = .ok (.iload 6, 2) := by decide +kernel
theorem zd_M_name_43 : decode ze_M_name 43 = .ok (.bipush 27, 2) := by decide +kernel
theorem zd_M_name_45 : decode ze_M_name 45 = .ok (.if_icmp .ne 8, 3) := by decide +kernel
theorem zd_M_name_48 : decode ze_M_name 48 = .ok (.bipush 46, 2) := by decide +kernel
theorem zd_M_name_50 : decode ze_M_name 50 = .ok (.goto 8, 3) := by decide +kernel
theorem zd_M_name_53 : decode ze_M_name 53 = .ok (.bipush 96, 2) := by decide +kernel
theorem zd_M_name_55 : decode ze_M_name 55 = .ok (.iload 6, 2) := by decide +kernel
theorem zd_M_name_57 : decode ze_M_name 57 = .ok (.iadd, 1) := by decide +kernel
theorem zd_M_name_58 : decode ze_M_name 58 = .ok (.invokevirtual 156, 3) := by decide +kernel
theorem zd_M_name_61 : decode ze_M_name 61 = .ok (.iinc 5 1, 3) := by decide +kernel
theorem zd_M_name_64 : decode ze_M_name 64 = .ok (.goto (-44), 3) := by decide +kernel
theorem zd_M_name_67 : decode ze_M_name 67 = .ok (.return_, 1) := by decide +kernel
theorem zd_M_integer_0 : decode ze_M_integer 0 = .ok (.iconst 1, 1) := by decide +kernel
theorem zd_M_integer_1 : decode ze_M_integer 1 = .ok (.istore_n 3, 1) := by decide +kernel
theorem zd_M_integer_2 : decode ze_M_integer 2 = .ok (.iload_n 3, 1) := by decide +kernel
theorem zd_M_integer_3 : decode ze_M_integer 3 = .ok (.bipush 8, 2) := by decide +kernel
theorem zd_M_integer_5 : decode ze_M_integer 5 = .ok (.if_icmp .ge 22, 3) := by decide +kernel
theorem zd_M_integer_8 : decode ze_M_integer 8 = .ok (.lload_n 1, 1) := by decide +kernel
theorem zd_M_integer_9 : decode ze_M_integer 9 = .ok (.bipush 8, 2) := by decide +kernel
theorem zd_M_integer_11 : decode ze_M_integer 11 = .ok (.iload_n 3, 1) := by decide +kernel
theorem zd_M_integer_12 : decode ze_M_integer 12 = .ok (.imul, 1) := by decide +kernel
theorem zd_M_integer_13 : decode ze_M_integer 13 = .ok (.iconst 1, 1) := by decide +kernel
theorem zd_M_integer_14 : decode ze_M_integer 14 = .ok (.isub, 1) := by decide +kernel
theorem zd_M_integer_15 : decode ze_M_integer 15 = .ok (.lshr, 1) := by decide +kernel
theorem zd_M_integer_16 : decode ze_M_integer 16 = .ok (.lconst 0, 1) := by decide +kernel
theorem zd_M_integer_17 : decode ze_M_integer 17 = .ok (.lcmp, 1) := by decide +kernel
theorem zd_M_integer_18 : decode ze_M_integer 18 = .ok (.ifCond .eq 9, 3) := by decide +kernel
theorem zd_M_integer_21 : decode ze_M_integer 21 = .ok (.iinc 3 1, 3) := by decide +kernel
theorem zd_M_integer_24 : decode ze_M_integer 24 = .ok (.goto (-22), 3) := by decide +kernel
theorem zd_M_integer_27 : decode ze_M_integer 27 = .ok (.aload_n 0, 1) := by decide +kernel
theorem zd_M_integer_28 : decode ze_M_integer 28 = .ok (.iconst 2, 1) := by decide +kernel
theorem zd_M_integer_29 : decode ze_M_integer 29 = .ok (.invokevirtual 156, 3) := by decide +kernel
theorem zd_M_integer_32 : decode ze_M_integer 32 = .ok (.aload_n 0, 1) := by decide +kernel
theorem zd_M_integer_33 : decode ze_M_integer 33 = .ok (.iload_n 3, 1) := by decide +kernel
theorem zd_M_integer_34 : decode ze_M_integer 34 = .ok (.invokevirtual 156, 3) := by decide +kernel
theorem zd_M_integer_37 : decode ze_M_integer 37 = .ok (.iload_n 3, 1) := by decide +kernel
theorem zd_M_integer_38 : decode ze_M_integer 38 = .ok (.iconst 1, 1) := by decide +kernel
theorem zd_M_integer_39 : decode ze_M_integer 39 = .ok (.isub, 1) := by decide +kernel
theorem zd_M_integer_40 : decode ze_M_integer 40 = .ok (.istore 4, 2) := by decide +kernel
theorem zd_M_integer_42 : decode ze_M_integer 42 = .ok (.iload 4, 2) := by decide +kernel
theorem zd_M_integer_44 : decode ze_M_integer 44 = .ok (.ifCond .lt 25, 3) := by decide +kernel
theorem zd_M_integer_47 : decode ze_M_integer 47 = .ok (.aload_n 0, 1) := by decide +kernel
theorem zd_M_integer_48 : decode ze_M_integer 48 = .ok (.lload_n 1, 1) := by decide +kernel
theorem zd_M_integer_49 : decode ze_M_integer 49 = .ok (.bipush 8, 2) := by decide +kernel
theorem zd_M_integer_51 : decode ze_M_integer 51 = .ok (.iload 4, 2) := by decide +kernel
theorem zd_M_integer_53 : decode ze_M_integer 53 = .ok (.imul, 1) := by decide +kernel
theorem zd_M_integer_54 : decode ze_M_integer 54 = .ok (.lshr, 1) := by decide +kernel
theorem zd_M_integer_55 : decode ze_M_integer 55 = .ok (.ldc2_w 139, 3) := by decide +kernel
theorem zd_M_integer_58 : decode ze_M_integer 58 = .ok (.land, 1) := by decide +kernel
theorem zd_M_integer_59 : decode ze_M_integer 59 = .ok (.l2i, 1) := by decide +kernel
theorem zd_M_integer_60 : decode ze_M_integer 60 = .ok (.invokevirtual 156, 3) := by decide +kernel
theorem zd_M_integer_63 : decode ze_M_integer 63 = .ok (.iinc 4 (-1), 3) := by decide +kernel
theorem zd_M_integer_66 : decode ze_M_integer 66 = .ok (.goto (-24), 3) := by decide +kernel
theorem zd_M_integer_69 : decode ze_M_integer 69 = .ok (.return_, 1) := by decide +kernel
theorem zd_M_wrap_0 : decode ze_M_wrap 0 = .ok (.aload_n 0, 1) := by decide +kernel
theorem zd_M_wrap_1 : decode ze_M_wrap 1 = .ok (.getfield 141, 3) := by decide +kernel
theorem zd_M_wrap_4 : decode ze_M_wrap 4 = .ok (.iload_n 1, 1) := by decide +kernel
theorem zd_M_wrap_5 : decode ze_M_wrap 5 = .ok (.isub, 1) := by decide +kernel
theorem zd_M_wrap_6 : decode ze_M_wrap 6 = .ok (.istore_n 3, 1) := by decide +kernel
theorem zd_M_wrap_7 : decode ze_M_wrap 7 = .ok (.iload_n 3, 1) := by decide +kernel
theorem zd_M_wrap_8 : decode ze_M_wrap 8 = .ok (.sipush 128, 3) := by decide +kernel
theorem zd_M_wrap_11 : decode ze_M_wrap 11 = .ok (.if_icmp .ge 7, 3) := by decide +kernel
theorem zd_M_wrap_14 : decode ze_M_wrap 14 = .ok (.iconst 2, 1) := by decide +kernel
theorem zd_M_wrap_15 : decode ze_M_wrap 15 = .ok (.goto 4, 3) := by decide +kernel
theorem zd_M_wrap_18 : decode ze_M_wrap 18 = .ok (.iconst 3, 1) := by decide +kernel
theorem zd_M_wrap_19 : decode ze_M_wrap 19 = .ok (.istore 4, 2) := by decide +kernel
theorem zd_M_wrap_21 : decode ze_M_wrap 21 = .ok (.aload_n 0, 1) := by decide +kernel
theorem zd_M_wrap_22 : decode ze_M_wrap 22 = .ok (.getfield 141, 3) := by decide +kernel
theorem zd_M_wrap_25 : decode ze_M_wrap 25 = .ok (.iconst 1, 1) := by decide +kernel
theorem zd_M_wrap_26 : decode ze_M_wrap 26 = .ok (.isub, 1) := by decide +kernel
theorem zd_M_wrap_27 : decode ze_M_wrap 27 = .ok (.istore 5, 2) := by decide +kernel
theorem zd_M_wrap_29 : decode ze_M_wrap 29 = .ok (.iload 5, 2) := by decide +kernel
theorem zd_M_wrap_31 : decode ze_M_wrap 31 = .ok (.iload_n 1, 1) := by decide +kernel
theorem zd_M_wrap_32 : decode ze_M_wrap 32 = .ok (.if_icmp .lt 26, 3) := by decide +kernel
theorem zd_M_wrap_35 : decode ze_M_wrap 35 = .ok (.aload_n 0, 1) := by decide +kernel
theorem zd_M_wrap_36 : decode ze_M_wrap 36 = .ok (.getfield 7, 3) := by decide +kernel
theorem zd_M_wrap_39 : decode ze_M_wrap 39 = .ok (.iload 5, 2) := by decide +kernel
theorem zd_M_wrap_41 : decode ze_M_wrap 41 = .ok (.iload 4, 2) := by decide +kernel
theorem zd_M_wrap_43 : decode ze_M_wrap 43 = .ok (.iadd, 1) := by decide +kernel
theorem zd_M_wrap_44 : decode ze_M_wrap 44 = .ok (.aload_n 0, 1) := by decide +kernel
theorem zd_M_wrap_45 : decode ze_M_wrap 45 = .ok (.getfield 7, 3) := by decide +kernel
theorem zd_M_wrap_48 : decode ze_M_wrap 48 = .ok (.iload 5, 2) := by decide +kernel
theorem zd_M_wrap_50 : decode ze_M_wrap 50 = .ok (.iaload, 1) := by decide +kernel
theorem zd_M_wrap_51 : decode ze_M_wrap 51 = .ok (.iastore, 1) := by decide +kernel
theorem zd_M_wrap_52 : decode ze_M_wrap 52 = .ok (.iinc 5 (-1), 3) := by decide +kernel
theorem zd_M_wrap_55 : decode ze_M_wrap 55 = .ok (.goto (-26), 3) := by decide +kernel
theorem zd_M_wrap_58 : decode ze_M_wrap 58 = .ok (.aload_n 0, 1) := by decide +kernel
theorem zd_M_wrap_59 : decode ze_M_wrap 59 = .ok (.getfield 7, 3) := by decide +kernel
theorem zd_M_wrap_62 : decode ze_M_wrap 62 = .ok (.iload_n 1, 1) := by decide +kernel
theorem zd_M_wrap_63 : decode ze_M_wrap 63 = .ok (.iload_n 2, 1) := by decide +kernel
theorem zd_M_wrap_64 : decode ze_M_wrap 64 = .ok (.iastore, 1) := by decide +kernel
theorem zd_M_wrap_65 : decode ze_M_wrap 65 = .ok (.aload_n 0, 1) := by decide +kernel
theorem zd_M_wrap_66 : decode ze_M_wrap 66 = .ok (.getfield 7, 3) := by decide +kernel
theorem zd_M_wrap_69 : decode ze_M_wrap 69 = .ok (.iload_n 1, 1) := by decide +kernel
theorem zd_M_wrap_70 : decode ze_M_wrap 70 = .ok (.iconst 1, 1) := by decide +kernel
theorem zd_M_wrap_71 : decode ze_M_wrap 71 = .ok (.iadd, 1) := by decide +kernel
theorem zd_M_wrap_72 : decode ze_M_wrap 72 = .ok (.iload_n 3, 1) := by decide +kernel
theorem zd_M_wrap_73 : decode ze_M_wrap 73 = .ok (.sipush 128, 3) := by decide +kernel
theorem zd_M_wrap_76 : decode ze_M_wrap 76 = .ok (.if_icmp .ge 7, 3) := by decide +kernel
theorem zd_M_wrap_79 : decode ze_M_wrap 79 = .ok (.iload_n 3, 1) := by decide +kernel
theorem zd_M_wrap_80 : decode ze_M_wrap 80 = .ok (.goto 6, 3) := by decide +kernel
theorem zd_M_wrap_83 : decode ze_M_wrap 83 = .ok (.sipush 129, 3) := by decide +kernel
theorem zd_M_wrap_86 : decode ze_M_wrap 86 = .ok (.iastore, 1) := by decide +kernel
theorem zd_M_wrap_87 : decode ze_M_wrap 87 = .ok (.iload_n 3, 1) := by decide +kernel
theorem zd_M_wrap_88 : decode ze_M_wrap 88 = .ok (.sipush 128, 3) := by decide +kernel
theorem zd_M_wrap_91 : decode ze_M_wrap 91 = .ok (.if_icmp .lt 12, 3) := by decide +kernel
theorem zd_M_wrap_94 : decode ze_M_wrap 94 = .ok (.aload_n 0, 1) := by decide +kernel
theorem zd_M_wrap_95 : decode ze_M_wrap 95 = .ok (.getfield 7, 3) := by decide +kernel
theorem zd_M_wrap_98 : decode ze_M_wrap 98 = .ok (.iload_n 1, 1) := by decide +kernel
theorem zd_M_wrap_99 : decode ze_M_wrap 99 = .ok (.iconst 2, 1) := by decide +kernel
theorem zd_M_wrap_100 : decode ze_M_wrap 100 = .ok (.iadd, 1) := by decide +kernel
theorem zd_M_wrap_101 : decode ze_M_wrap 101 = .ok (.iload_n 3, 1) := by decide +kernel
theorem zd_M_wrap_102 : decode ze_M_wrap 102 = .ok (.iastore, 1) := by decide +kernel
theorem zd_M_wrap_103 : decode ze_M_wrap 103 = .ok (.aload_n 0, 1) := by decide +kernel
theorem zd_M_wrap_104 : decode ze_M_wrap 104 = .ok (.dup, 1) := by decide +kernel
theorem zd_M_wrap_105 : decode ze_M_wrap 105 = .ok (.getfield 141, 3) := by decide +kernel
theorem zd_M_wrap_108 : decode ze_M_wrap 108 = .ok (.iload 4, 2) := by decide +kernel
theorem zd_M_wrap_110 : decode ze_M_wrap 110 = .ok (.iadd, 1) := by decide +kernel
theorem zd_M_wrap_111 : decode ze_M_wrap 111 = .ok (.putfield 141, 3) := by decide +kernel
theorem zd_M_wrap_114 : decode ze_M_wrap 114 = .ok (.return_, 1) := by decide +kernel
theorem zd_M_signed_0 : decode ze_M_signed 0 = .ok (.aload_n 0, 1) := by decide +kernel
theorem zd_M_signed_1 : decode ze_M_signed 1 = .ok (.iconst 0, 1) := by decide +kernel
theorem zd_M_signed_2 : decode ze_M_signed 2 = .ok (.bipush 48, 2) := by decide +kernel
theorem zd_M_signed_4 : decode ze_M_signed 4 = .ok (.invokevirtual 160, 3) := by decide +kernel
theorem zd_M_signed_7 : decode ze_M_signed 7 = .ok (.aload_n 0, 1) := by decide +kernel
theorem zd_M_signed_8 : decode ze_M_signed 8 = .ok (.iconst 0, 1) := by decide +kernel
theorem zd_M_signed_9 : decode ze_M_signed 9 = .ok (.aload_n 0, 1) := by decide +kernel
theorem zd_M_signed_10 : decode ze_M_signed 10 = .ok (.getfield 141, 3) := by decide +kernel
