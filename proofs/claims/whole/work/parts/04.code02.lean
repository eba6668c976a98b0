theorem zd_M_validate_37 : decode ze_M_validate 37 = .ok (.aload_n 0, 1) := by decide +kernel
theorem zd_M_validate_38 : decode ze_M_validate 38 = .ok (.iconst 0, 1) := by decide +kernel
theorem zd_M_validate_39 : decode ze_M_validate 39 = .ok (.putfield 292, 3) := by decide +kernel
theorem zd_M_validate_42 : decode ze_M_validate 42 = .ok (.aload_n 0, 1) := by decide +kernel
theorem zd_M_validate_43 : decode ze_M_validate 43 = .ok (.getfield 89, 3) := by decide +kernel
theorem zd_M_validate_46 : decode ze_M_validate 46 = .ok (.iconst 0, 1) := by decide +kernel
theorem zd_M_validate_47 : decode ze_M_validate 47 = .ok (.iload_n 1, 1) := by decide +kernel
theorem zd_M_validate_48 : decode ze_M_validate 48 = .ok (.iastore, 1) := by decide +kernel
theorem zd_M_validate_49 : decode ze_M_validate 49 = .ok (.aload_n 0, 1) := by decide +kernel
theorem zd_M_validate_50 : decode ze_M_validate 50 = .ok (.aload_n 0, 1) := by decide +kernel
theorem zd_M_validate_51 : decode ze_M_validate 51 = .ok (.lload_n 2, 1) := by decide +kernel
theorem zd_M_validate_52 : decode ze_M_validate 52 = .ok (.iload 4, 2) := by decide +kernel
theorem zd_M_validate_54 : decode ze_M_validate 54 = .ok (.iload 5, 2) := by decide +kernel
theorem zd_M_validate_56 : decode ze_M_validate 56 = .ok (.invokevirtual 309, 3) := by decide +kernel
theorem zd_M_validate_59 : decode ze_M_validate 59 = .ok (.putfield 313, 3) := by decide +kernel
theorem zd_M_validate_62 : decode ze_M_validate 62 = .ok (.iconst 0, 1) := by decide +kernel
theorem zd_M_validate_63 : decode ze_M_validate 63 = .ok (.istore 6, 2) := by decide +kernel
theorem zd_M_validate_65 : decode ze_M_validate 65 = .ok (.iload 6, 2) := by decide +kernel
theorem zd_M_validate_67 : decode ze_M_validate 67 = .ok (.aload_n 0, 1) := by decide +kernel
theorem zd_M_validate_68 : decode ze_M_validate 68 = .ok (.getfield 313, 3) := by decide +kernel
theorem zd_M_validate_71 : decode ze_M_validate 71 = .ok (.if_icmp .ge 30, 3) := by decide +kernel
theorem zd_M_validate_74 : decode ze_M_validate 74 = .ok (.aload_n 0, 1) := by decide +kernel
theorem zd_M_validate_75 : decode ze_M_validate 75 = .ok (.getfield 95, 3) := by decide +kernel
theorem zd_M_validate_78 : decode ze_M_validate 78 = .ok (.iload 6, 2) := by decide +kernel
theorem zd_M_validate_80 : decode ze_M_validate 80 = .ok (.aload_n 0, 1) := by decide +kernel
theorem zd_M_validate_81 : decode ze_M_validate 81 = .ok (.getfield 89, 3) := by decide +kernel
theorem zd_M_validate_84 : decode ze_M_validate 84 = .ok (.aload_n 0, 1) := by decide +kernel
theorem zd_M_validate_85 : decode ze_M_validate 85 = .ok (.getfield 313, 3) := by decide +kernel
theorem zd_M_validate_88 : decode ze_M_validate 88 = .ok (.iconst 1, 1) := by decide +kernel
theorem zd_M_validate_89 : decode ze_M_validate 89 = .ok (.isub, 1) := by decide +kernel
theorem zd_M_validate_90 : decode ze_M_validate 90 = .ok (.iload 6, 2) := by decide +kernel
theorem zd_M_validate_92 : decode ze_M_validate 92 = .ok (.isub, 1) := by decide +kernel
theorem zd_M_validate_93 : decode ze_M_validate 93 = .ok (.iaload, 1) := by decide +kernel
theorem zd_M_validate_94 : decode ze_M_validate 94 = .ok (.iastore, 1) := by decide +kernel
theorem zd_M_validate_95 : decode ze_M_validate 95 = .ok (.iinc 6 1, 3) := by decide +kernel
theorem zd_M_validate_98 : decode ze_M_validate 98 = .ok (.goto (-33), 3) := by decide +kernel
theorem zd_M_validate_101 : decode ze_M_validate 101 = .ok (.aload_n 0, 1) := by decide +kernel
theorem zd_M_validate_102 : decode ze_M_validate 102 = .ok (.getfield 313, 3) := by decide +kernel
theorem zd_M_validate_105 : decode ze_M_validate 105 = .ok (.ifCond .le 10, 3) := by decide +kernel
theorem zd_M_validate_108 : decode ze_M_validate 108 = .ok (.aload_n 0, 1) := by decide +kernel
theorem zd_M_validate_109 : decode ze_M_validate 109 = .ok (.getfield 313, 3) := by decide +kernel
theorem zd_M_validate_112 : decode ze_M_validate 112 = .ok (.goto 21, 3) := by decide +kernel
theorem zd_M_validate_115 : decode ze_M_validate 115 = .ok (.aload_n 0, 1) := by decide +kernel
theorem zd_M_validate_116 : decode ze_M_validate 116 = .ok (.getfield 299, 3) := by decide +kernel
theorem zd_M_validate_119 : decode ze_M_validate 119 = .ok (.ifCond .ne 7, 3) := by decide +kernel
theorem zd_M_validate_122 : decode ze_M_validate 122 = .ok (.iconst 0, 1) := by decide +kernel
theorem zd_M_validate_123 : decode ze_M_validate 123 = .ok (.goto 10, 3) := by decide +kernel
theorem zd_M_validate_126 : decode ze_M_validate 126 = .ok (.bipush (-10), 2) := by decide +kernel
theorem zd_M_validate_128 : decode ze_M_validate 128 = .ok (.aload_n 0, 1) := by decide +kernel
theorem zd_M_validate_129 : decode ze_M_validate 129 = .ok (.getfield 292, 3) := by decide +kernel
theorem zd_M_validate_132 : decode ze_M_validate 132 = .ok (.isub, 1) := by decide +kernel
theorem zd_M_validate_133 : decode ze_M_validate 133 = .ok (.ireturn, 1) := by decide +kernel
theorem zd_RevokedList_tell_0 : decode ze_RevokedList_tell 0 = .ok (.iload_n 1, 1) := by decide +kernel
theorem zd_RevokedList_tell_1 : decode ze_RevokedList_tell 1 = .ok (.tableswitch 71 0 5 #[39, 44, 49, 54, 60, 65], 39) := by decide +kernel
theorem zd_RevokedList_tell_40 : decode ze_RevokedList_tell 40 = .ok (.aload_n 0, 1) := by decide +kernel
theorem zd_RevokedList_tell_41 : decode ze_RevokedList_tell 41 = .ok (.getfield 22, 3) := by decide +kernel
theorem zd_RevokedList_tell_44 : decode ze_RevokedList_tell 44 = .ok (.lreturn, 1) := by decide +kernel
theorem zd_RevokedList_tell_45 : decode ze_RevokedList_tell 45 = .ok (.aload_n 0, 1) := by decide +kernel
theorem zd_RevokedList_tell_46 : decode ze_RevokedList_tell 46 = .ok (.getfield 26, 3) := by decide +kernel
theorem zd_RevokedList_tell_49 : decode ze_RevokedList_tell 49 = .ok (.lreturn, 1) := by decide +kernel
theorem zd_RevokedList_tell_50 : decode ze_RevokedList_tell 50 = .ok (.aload_n 0, 1) := by decide +kernel
theorem zd_RevokedList_tell_51 : decode ze_RevokedList_tell 51 = .ok (.getfield 29, 3) := by decide +kernel
theorem zd_RevokedList_tell_54 : decode ze_RevokedList_tell 54 = .ok (.lreturn, 1) := by decide +kernel
theorem zd_RevokedList_tell_55 : decode ze_RevokedList_tell 55 = .ok (.aload_n 0, 1) := by decide +kernel
theorem zd_RevokedList_tell_56 : decode ze_RevokedList_tell 56 = .ok (.getfield 18, 3) := by decide +kernel
theorem zd_RevokedList_tell_59 : decode ze_RevokedList_tell 59 = .ok (.i2l, 1) := by decide +kernel
theorem zd_RevokedList_tell_60 : decode ze_RevokedList_tell 60 = .ok (.lreturn, 1) := by decide +kernel
theorem zd_RevokedList_tell_61 : decode ze_RevokedList_tell 61 = .ok (.aload_n 0, 1) := by decide +kernel
theorem zd_RevokedList_tell_62 : decode ze_RevokedList_tell 62 = .ok (.getfield 32, 3) := by decide +kernel
theorem zd_RevokedList_tell_65 : decode ze_RevokedList_tell 65 = .ok (.lreturn, 1) := by decide +kernel
theorem zd_RevokedList_tell_66 : decode ze_RevokedList_tell 66 = .ok (.aload_n 0, 1) := by decide +kernel
theorem zd_RevokedList_tell_67 : decode ze_RevokedList_tell 67 = .ok (.getfield 35, 3) := by decide +kernel
theorem zd_RevokedList_tell_70 : decode ze_RevokedList_tell 70 = .ok (.i2l, 1) := by decide +kernel
theorem zd_RevokedList_tell_71 : decode ze_RevokedList_tell 71 = .ok (.lreturn, 1) := by decide +kernel
theorem zd_RevokedList_tell_72 : decode ze_RevokedList_tell 72 = .ok (.ldc2_w 38, 3) := by decide +kernel
theorem zd_RevokedList_tell_75 : decode ze_RevokedList_tell 75 = .ok (.lreturn, 1) := by decide +kernel
theorem zd_V_list_0 : decode ze_V_list 0 = .ok (.iload_n 1, 1) := by decide +kernel
theorem zd_V_list_1 : decode ze_V_list 1 = .ok (.ifCond .lt 30, 3) := by decide +kernel
theorem zd_V_list_4 : decode ze_V_list 4 = .ok (.iload_n 1, 1) := by decide +kernel
theorem zd_V_list_5 : decode ze_V_list 5 = .ok (.aload_n 0, 1) := by decide +kernel
theorem zd_V_list_6 : decode ze_V_list 6 = .ok (.getfield 26, 3) := by decide +kernel
theorem zd_V_list_9 : decode ze_V_list 9 = .ok (.getfield 95, 3) := by decide +kernel
theorem zd_V_list_12 : decode ze_V_list 12 = .ok (.if_icmp .ge 19, 3) := by decide +kernel
theorem zd_V_list_15 : decode ze_V_list 15 = .ok (.aload_n 0, 1) := by decide +kernel
theorem zd_V_list_16 : decode ze_V_list 16 = .ok (.getfield 26, 3) := by decide +kernel
theorem zd_V_list_19 : decode ze_V_list 19 = .ok (.getfield 124, 3) := by decide +kernel
theorem zd_V_list_22 : decode ze_V_list 22 = .ok (.iload_n 1, 1) := by decide +kernel
theorem zd_V_list_23 : decode ze_V_list 23 = .ok (.aaload, 1) := by decide +kernel
theorem zd_V_list_24 : decode ze_V_list 24 = .ok (.iload_n 2, 1) := by decide +kernel
theorem zd_V_list_25 : decode ze_V_list 25 = .ok (.invokevirtual 128, 3) := by decide +kernel
theorem zd_V_list_28 : decode ze_V_list 28 = .ok (.goto 6, 3) := by decide +kernel
theorem zd_V_list_31 : decode ze_V_list 31 = .ok (.ldc2_w 122, 3) := by decide +kernel
theorem zd_V_list_34 : decode ze_V_list 34 = .ok (.lreturn, 1) := by decide +kernel
theorem zd_M_list_0 : decode ze_M_list 0 = .ok (.iload_n 1, 1) := by decide +kernel
theorem zd_M_list_1 : decode ze_M_list 1 = .ok (.ifCond .lt 20, 3) := by decide +kernel
theorem zd_M_list_4 : decode ze_M_list 4 = .ok (.iload_n 1, 1) := by decide +kernel
theorem zd_M_list_5 : decode ze_M_list 5 = .ok (.aload_n 0, 1) := by decide +kernel
theorem zd_M_list_6 : decode ze_M_list 6 = .ok (.getfield 245, 3) := by decide +kernel
theorem zd_M_list_9 : decode ze_M_list 9 = .ok (.if_icmp .ge 12, 3) := by decide +kernel
theorem zd_M_list_12 : decode ze_M_list 12 = .ok (.iload_n 2, 1) := by decide +kernel
theorem zd_M_list_13 : decode ze_M_list 13 = .ok (.ifCond .lt 8, 3) := by decide +kernel
theorem zd_M_list_16 : decode ze_M_list 16 = .ok (.iload_n 2, 1) := by decide +kernel
theorem zd_M_list_17 : decode ze_M_list 17 = .ok (.iconst 5, 1) := by decide +kernel
theorem zd_M_list_18 : decode ze_M_list 18 = .ok (.if_icmp .le 9, 3) := by decide +kernel
theorem zd_M_list_21 : decode ze_M_list 21 = .ok (.ldc2_w 100, 3) := by decide +kernel
theorem zd_M_list_24 : decode ze_M_list 24 = .ok (.goto 14, 3) := by decide +kernel
theorem zd_M_list_27 : decode ze_M_list 27 = .ok (.aload_n 0, 1) := by decide +kernel
theorem zd_M_list_28 : decode ze_M_list 28 = .ok (.getfield 80, 3) := by decide +kernel
theorem zd_M_list_31 : decode ze_M_list 31 = .ok (.bipush 6, 2) := by decide +kernel
theorem zd_M_list_33 : decode ze_M_list 33 = .ok (.iload_n 1, 1) := by decide +kernel
theorem zd_M_list_34 : decode ze_M_list 34 = .ok (.imul, 1) := by decide +kernel
theorem zd_M_list_35 : decode ze_M_list 35 = .ok (.iload_n 2, 1) := by decide +kernel
theorem zd_M_list_36 : decode ze_M_list 36 = .ok (.iadd, 1) := by decide +kernel
theorem zd_M_list_37 : decode ze_M_list 37 = .ok (.laload, 1) := by decide +kernel
theorem zd_M_list_38 : decode ze_M_list 38 = .ok (.lreturn, 1) := by decide +kernel
theorem zd_Certificate_tell_0 : decode ze_Certificate_tell 0 = .ok (.iload_n 1, 1) := by decide +kernel
theorem zd_Certificate_tell_1 : decode ze_Certificate_tell 1 = .ok (.tableswitch 187 0 14 #[75, 80, 85, 90, 95, 100, 105, 110, 115, 121, 126, 131, 136, 141, 147], 75) := by decide +kernel
theorem zd_Certificate_tell_76 : decode ze_Certificate_tell 76 = .ok (.aload_n 0, 1) := by decide +kernel
theorem zd_Certificate_tell_77 : decode ze_Certificate_tell 77 = .ok (.getfield 46, 3) := by decide +kernel
theorem zd_Certificate_tell_80 : decode ze_Certificate_tell 80 = .ok (.lreturn, 1) := by decide +kernel
theorem zd_Certificate_tell_81 : decode ze_Certificate_tell 81 = .ok (.aload_n 0, 1) := by decide +kernel
theorem zd_Certificate_tell_82 : decode ze_Certificate_tell 82 = .ok (.getfield 40, 3) := by decide +kernel
theorem zd_Certificate_tell_85 : decode ze_Certificate_tell 85 = .ok (.lreturn, 1) := by decide +kernel
theorem zd_Certificate_tell_86 : decode ze_Certificate_tell 86 = .ok (.aload_n 0, 1) := by decide +kernel
theorem zd_Certificate_tell_87 : decode ze_Certificate_tell 87 = .ok (.getfield 49, 3) := by decide +kernel
theorem zd_Certificate_tell_90 : decode ze_Certificate_tell 90 = .ok (.lreturn, 1) := by decide +kernel
theorem zd_Certificate_tell_91 : decode ze_Certificate_tell 91 = .ok (.aload_n 0, 1) := by decide +kernel
theorem zd_Certificate_tell_92 : decode ze_Certificate_tell 92 = .ok (.getfield 52, 3) := by decide +kernel
theorem zd_Certificate_tell_95 : decode ze_Certificate_tell 95 = .ok (.lreturn, 1) := by decide +kernel
theorem zd_Certificate_tell_96 : decode ze_Certificate_tell 96 = .ok (.aload_n 0, 1) := by decide +kernel
theorem zd_Certificate_tell_97 : decode ze_Certificate_tell 97 = .ok (.getfield 43, 3) := by decide +kernel
theorem zd_Certificate_tell_100 : decode ze_Certificate_tell 100 = .ok (.lreturn, 1) := by decide +kernel
theorem zd_Certificate_tell_101 : decode ze_Certificate_tell 101 = .ok (.aload_n 0, 1) := by decide +kernel
theorem zd_Certificate_tell_102 : decode ze_Certificate_tell 102 = .ok (.getfield 55, 3) := by decide +kernel
theorem zd_Certificate_tell_105 : decode ze_Certificate_tell 105 = .ok (.lreturn, 1) := by decide +kernel
theorem zd_Certificate_tell_106 : decode ze_Certificate_tell 106 = .ok (.aload_n 0, 1) := by decide +kernel
theorem zd_Certificate_tell_107 : decode ze_Certificate_tell 107 = .ok (.getfield 58, 3) := by decide +kernel
theorem zd_Certificate_tell_110 : decode ze_Certificate_tell 110 = .ok (.lreturn, 1) := by decide +kernel
theorem zd_Certificate_tell_111 : decode ze_Certificate_tell 111 = .ok (.aload_n 0, 1) := by decide +kernel
theorem zd_Certificate_tell_112 : decode ze_Certificate_tell 112 = .ok (.getfield 61, 3) := by decide +kernel
theorem zd_Certificate_tell_115 : decode ze_Certificate_tell 115 = .ok (.lreturn, 1) := by decide +kernel
theorem zd_Certificate_tell_116 : decode ze_Certificate_tell 116 = .ok (.aload_n 0, 1) := by decide +kernel
theorem zd_Certificate_tell_117 : decode ze_Certificate_tell 117 = .ok (.getfield 64, 3) := by decide +kernel
theorem zd_Certificate_tell_120 : decode ze_Certificate_tell 120 = .ok (.i2l, 1) := by decide +kernel
theorem zd_Certificate_tell_121 : decode ze_Certificate_tell 121 = .ok (.lreturn, 1) := by decide +kernel
theorem zd_Certificate_tell_122 : decode ze_Certificate_tell 122 = .ok (.aload_n 0, 1) := by decide +kernel
theorem zd_Certificate_tell_123 : decode ze_Certificate_tell 123 = .ok (.getfield 11, 3) := by decide +kernel
theorem zd_Certificate_tell_126 : decode ze_Certificate_tell 126 = .ok (.lreturn, 1) := by decide +kernel
theorem zd_Certificate_tell_127 : decode ze_Certificate_tell 127 = .ok (.aload_n 0, 1) := by decide +kernel
theorem zd_Certificate_tell_128 : decode ze_Certificate_tell 128 = .ok (.getfield 17, 3) := by decide +kernel
theorem zd_Certificate_tell_131 : decode ze_Certificate_tell 131 = .ok (.lreturn, 1) := by decide +kernel
theorem zd_Certificate_tell_132 : decode ze_Certificate_tell 132 = .ok (.aload_n 0, 1) := by decide +kernel
theorem zd_Certificate_tell_133 : decode ze_Certificate_tell 133 = .ok (.getfield 20, 3) := by decide +kernel
theorem zd_Certificate_tell_136 : decode ze_Certificate_tell 136 = .ok (.lreturn, 1) := by decide +kernel
theorem zd_Certificate_tell_137 : decode ze_Certificate_tell 137 = .ok (.aload_n 0, 1) := by decide +kernel
theorem zd_Certificate_tell_138 : decode ze_Certificate_tell 138 = .ok (.getfield 23, 3) := by decide +kernel
theorem zd_Certificate_tell_141 : decode ze_Certificate_tell 141 = .ok (.lreturn, 1) := by decide +kernel
theorem zd_Certificate_tell_142 : decode ze_Certificate_tell 142 = .ok (.aload_n 0, 1) := by decide +kernel
theorem zd_Certificate_tell_143 : decode ze_Certificate_tell 143 = .ok (.getfield 26, 3) := by decide +kernel
theorem zd_Certificate_tell_146 : decode ze_Certificate_tell 146 = .ok (.i2l, 1) := by decide +kernel
theorem zd_Certificate_tell_147 : decode ze_Certificate_tell 147 = .ok (.lreturn, 1) := by decide +kernel
theorem zd_Certificate_tell_148 : decode ze_Certificate_tell 148 = .ok (.aload_n 0, 1) := by decide +kernel
theorem zd_Certificate_tell_149 : decode ze_Certificate_tell 149 = .ok (.getfield 67, 3) := by decide +kernel
theorem zd_Certificate_tell_152 : decode ze_Certificate_tell 152 = .ok (.ifCond .eq 7, 3) := by decide +kernel
theorem zd_Certificate_tell_155 : decode ze_Certificate_tell 155 = .ok (.iconst 1, 1) := by decide +kernel
theorem zd_Certificate_tell_156 : decode ze_Certificate_tell 156 = .ok (.goto 4, 3) := by decide +kernel
theorem zd_Certificate_tell_159 : decode ze_Certificate_tell 159 = .ok (.iconst 0, 1) := by decide +kernel
theorem zd_Certificate_tell_160 : decode ze_Certificate_tell 160 = .ok (.aload_n 0, 1) := by decide +kernel
theorem zd_Certificate_tell_161 : decode ze_Certificate_tell 161 = .ok (.getfield 30, 3) := by decide +kernel
theorem zd_Certificate_tell_164 : decode ze_Certificate_tell 164 = .ok (.ifCond .eq 7, 3) := by decide +kernel
theorem zd_Certificate_tell_167 : decode ze_Certificate_tell 167 = .ok (.iconst 2, 1) := by decide +kernel
theorem zd_Certificate_tell_168 : decode ze_Certificate_tell 168 = .ok (.goto 4, 3) := by decide +kernel
theorem zd_Certificate_tell_171 : decode ze_Certificate_tell 171 = .ok (.iconst 0, 1) := by decide +kernel
theorem zd_Certificate_tell_172 : decode ze_Certificate_tell 172 = .ok (.iadd, 1) := by decide +kernel
theorem zd_Certificate_tell_173 : decode ze_Certificate_tell 173 = .ok (.aload_n 0, 1) := by decide +kernel
theorem zd_Certificate_tell_174 : decode ze_Certificate_tell 174 = .ok (.getfield 34, 3) := by decide +kernel
theorem zd_Certificate_tell_177 : decode ze_Certificate_tell 177 = .ok (.ifCond .eq 7, 3) := by decide +kernel
theorem zd_Certificate_tell_180 : decode ze_Certificate_tell 180 = .ok (.iconst 4, 1) := by decide +kernel
theorem zd_Certificate_tell_181 : decode ze_Certificate_tell 181 = .ok (.goto 4, 3) := by decide +kernel
theorem zd_Certificate_tell_184 : decode ze_Certificate_tell 184 = .ok (.iconst 0, 1) := by decide +kernel
theorem zd_Certificate_tell_185 : decode ze_Certificate_tell 185 = .ok (.iadd, 1) := by decide +kernel
theorem zd_Certificate_tell_186 : decode ze_Certificate_tell 186 = .ok (.i2l, 1) := by decide +kernel
theorem zd_Certificate_tell_187 : decode ze_Certificate_tell 187 = .ok (.lreturn, 1) := by decide +kernel
theorem zd_Certificate_tell_188 : decode ze_Certificate_tell 188 = .ok (.ldc2_w 9, 3) := by decide +kernel
theorem zd_Certificate_tell_191 : decode ze_Certificate_tell 191 = .ok (.lreturn, 1) := by decide +kernel
theorem zd_V_certificate_0 : decode ze_V_certificate 0 = .ok (.aload_n 0, 1) := by decide +kernel
theorem zd_V_certificate_1 : decode ze_V_certificate 1 = .ok (.getfield 26, 3) := by decide +kernel
theorem zd_V_certificate_4 : decode ze_V_certificate 4 = .ok (.iload_n 1, 1) := by decide +kernel
theorem zd_V_certificate_5 : decode ze_V_certificate 5 = .ok (.invokevirtual 109, 3) := by decide +kernel
theorem zd_V_certificate_8 : decode ze_V_certificate 8 = .ok (.ifCond .eq 19, 3) := by decide +kernel
theorem zd_V_certificate_11 : decode ze_V_certificate 11 = .ok (.aload_n 0, 1) := by decide +kernel
theorem zd_V_certificate_12 : decode ze_V_certificate 12 = .ok (.getfield 26, 3) := by decide +kernel
theorem zd_V_certificate_15 : decode ze_V_certificate 15 = .ok (.getfield 112, 3) := by decide +kernel
theorem zd_V_certificate_18 : decode ze_V_certificate 18 = .ok (.iload_n 1, 1) := by decide +kernel
theorem zd_V_certificate_19 : decode ze_V_certificate 19 = .ok (.aaload, 1) := by decide +kernel
theorem zd_V_certificate_20 : decode ze_V_certificate 20 = .ok (.iload_n 2, 1) := by decide +kernel
theorem zd_V_certificate_21 : decode ze_V_certificate 21 = .ok (.invokevirtual 116, 3) := by decide +kernel
theorem zd_V_certificate_24 : decode ze_V_certificate 24 = .ok (.goto 6, 3) := by decide +kernel
theorem zd_V_certificate_27 : decode ze_V_certificate 27 = .ok (.ldc2_w 122, 3) := by decide +kernel
theorem zd_V_certificate_30 : decode ze_V_certificate 30 = .ok (.lreturn, 1) := by decide +kernel
theorem zd_M_certificate_0 : decode ze_M_certificate 0 = .ok (.iload_n 1, 1) := by decide +kernel
theorem zd_M_certificate_1 : decode ze_M_certificate 1 = .ok (.ifCond .lt 21, 3) := by decide +kernel
theorem zd_M_certificate_4 : decode ze_M_certificate 4 = .ok (.iload_n 1, 1) := by decide +kernel
theorem zd_M_certificate_5 : decode ze_M_certificate 5 = .ok (.aload_n 0, 1) := by decide +kernel
theorem zd_M_certificate_6 : decode ze_M_certificate 6 = .ok (.getfield 248, 3) := by decide +kernel
theorem zd_M_certificate_9 : decode ze_M_certificate 9 = .ok (.if_icmp .ge 13, 3) := by decide +kernel
theorem zd_M_certificate_12 : decode ze_M_certificate 12 = .ok (.iload_n 2, 1) := by decide +kernel
theorem zd_M_certificate_13 : decode ze_M_certificate 13 = .ok (.ifCond .lt 9, 3) := by decide +kernel
theorem zd_M_certificate_16 : decode ze_M_certificate 16 = .ok (.iload_n 2, 1) := by decide +kernel
theorem zd_M_certificate_17 : decode ze_M_certificate 17 = .ok (.bipush 14, 2) := by decide +kernel
theorem zd_M_certificate_19 : decode ze_M_certificate 19 = .ok (.if_icmp .le 7, 3) := by decide +kernel
theorem zd_M_certificate_22 : decode ze_M_certificate 22 = .ok (.ldc2_w 100, 3) := by decide +kernel
theorem zd_M_certificate_25 : decode ze_M_certificate 25 = .ok (.lreturn, 1) := by decide +kernel
theorem zd_M_certificate_26 : decode ze_M_certificate 26 = .ok (.aload_n 0, 1) := by decide +kernel
theorem zd_M_certificate_27 : decode ze_M_certificate 27 = .ok (.iload_n 1, 1) := by decide +kernel
theorem zd_M_certificate_28 : decode ze_M_certificate 28 = .ok (.iload_n 2, 1) := by decide +kernel
theorem zd_M_certificate_29 : decode ze_M_certificate 29 = .ok (.invokevirtual 258, 3) := by decide +kernel
theorem zd_M_certificate_32 : decode ze_M_certificate 32 = .ok (.lstore_n 3, 1) := by decide +kernel
theorem zd_M_certificate_33 : decode ze_M_certificate 33 = .ok (.iload_n 2, 1) := by decide +kernel
theorem zd_M_certificate_34 : decode ze_M_certificate 34 = .ok (.bipush 14, 2) := by decide +kernel
theorem zd_M_certificate_36 : decode ze_M_certificate 36 = .ok (.if_icmp .ne 11, 3) := by decide +kernel
theorem zd_M_certificate_39 : decode ze_M_certificate 39 = .ok (.lload_n 3, 1) := by decide +kernel
theorem zd_M_certificate_40 : decode ze_M_certificate 40 = .ok (.ldc2_w 151, 3) := by decide +kernel
theorem zd_M_certificate_43 : decode ze_M_certificate 43 = .ok (.land, 1) := by decide +kernel
theorem zd_M_certificate_44 : decode ze_M_certificate 44 = .ok (.goto 4, 3) := by decide +kernel
theorem zd_M_certificate_47 : decode ze_M_certificate 47 = .ok (.lload_n 3, 1) := by decide +kernel
theorem zd_M_certificate_48 : decode ze_M_certificate 48 = .ok (.lreturn, 1) := by decide +kernel
theorem zd_Reader_init_0 : decode ze_Reader_init 0 = .ok (.aload_n 0, 1) := by decide +kernel
theorem zd_Reader_init_1 : decode ze_Reader_init 1 = .ok (.invokespecial 3, 3) := by decide +kernel
theorem zd_Reader_init_4 : decode ze_Reader_init 4 = .ok (.aload_n 0, 1) := by decide +kernel
theorem zd_Reader_init_5 : decode ze_Reader_init 5 = .ok (.iconst 0, 1) := by decide +kernel
theorem zd_Reader_init_6 : decode ze_Reader_init 6 = .ok (.putfield 9, 3) := by decide +kernel
theorem zd_Reader_init_9 : decode ze_Reader_init 9 = .ok (.aload_n 0, 1) := by decide +kernel
theorem zd_Reader_init_10 : decode ze_Reader_init 10 = .ok (.iconst 0, 1) := by decide +kernel
theorem zd_Reader_init_11 : decode ze_Reader_init 11 = .ok (.putfield 15, 3) := by decide +kernel
theorem zd_Reader_init_14 : decode ze_Reader_init 14 = .ok (.aload_n 0, 1) := by decide +kernel
theorem zd_Reader_init_15 : decode ze_Reader_init 15 = .ok (.aload_n 1, 1) := by decide +kernel
theorem zd_Reader_init_16 : decode ze_Reader_init 16 = .ok (.putfield 18, 3) := by decide +kernel
theorem zd_Reader_init_19 : decode ze_Reader_init 19 = .ok (.return_, 1) := by decide +kernel
theorem zd_Shelf_nextCertificate_0 : decode ze_Shelf_nextCertificate 0 = .ok (.aload_n 0, 1) := by decide +kernel
theorem zd_Shelf_nextCertificate_1 : decode ze_Shelf_nextCertificate 1 = .ok (.getfield 11, 3) := by decide +kernel
theorem zd_Shelf_nextCertificate_4 : decode ze_Shelf_nextCertificate 4 = .ok (.aload_n 0, 1) := by decide +kernel
theorem zd_Shelf_nextCertificate_5 : decode ze_Shelf_nextCertificate 5 = .ok (.getfield 23, 3) := by decide +kernel
theorem zd_Shelf_nextCertificate_8 : decode ze_Shelf_nextCertificate 8 = .ok (.aaload, 1) := by decide +kernel
theorem zd_Shelf_nextCertificate_9 : decode ze_Shelf_nextCertificate 9 = .ok (.areturn, 1) := by decide +kernel
theorem zd_Certificate_forget_0 : decode ze_Certificate_forget 0 = .ok (.aload_n 0, 1) := by decide +kernel
theorem zd_Certificate_forget_1 : decode ze_Certificate_forget 1 = .ok (.ldc2_w 9, 3) := by decide +kernel
theorem zd_Certificate_forget_4 : decode ze_Certificate_forget 4 = .ok (.putfield 11, 3) := by decide +kernel
theorem zd_Certificate_forget_7 : decode ze_Certificate_forget 7 = .ok (.aload_n 0, 1) := by decide +kernel
theorem zd_Certificate_forget_8 : decode ze_Certificate_forget 8 = .ok (.lconst 0, 1) := by decide +kernel
theorem zd_Certificate_forget_9 : decode ze_Certificate_forget 9 = .ok (.putfield 17, 3) := by decide +kernel
theorem zd_Certificate_forget_12 : decode ze_Certificate_forget 12 = .ok (.aload_n 0, 1) := by decide +kernel
theorem zd_Certificate_forget_13 : decode ze_Certificate_forget 13 = .ok (.lconst 0, 1) := by decide +kernel
theorem zd_Certificate_forget_14 : decode ze_Certificate_forget 14 = .ok (.putfield 20, 3) := by decide +kernel
theorem zd_Certificate_forget_17 : decode ze_Certificate_forget 17 = .ok (.aload_n 0, 1) := by decide +kernel
theorem zd_Certificate_forget_18 : decode ze_Certificate_forget 18 = .ok (.lconst 0, 1) := by decide +kernel
theorem zd_Certificate_forget_19 : decode ze_Certificate_forget 19 = .ok (.putfield 23, 3) := by decide +kernel
theorem zd_Certificate_forget_22 : decode ze_Certificate_forget 22 = .ok (.aload_n 0, 1) := by decide +kernel
theorem zd_Certificate_forget_23 : decode ze_Certificate_forget 23 = .ok (.iconst 0, 1) := by decide +kernel
theorem zd_Certificate_forget_24 : decode ze_Certificate_forget 24 = .ok (.putfield 26, 3) := by decide +kernel
theorem zd_Certificate_forget_27 : decode ze_Certificate_forget 27 = .ok (.aload_n 0, 1) := by decide +kernel
theorem zd_Certificate_forget_28 : decode ze_Certificate_forget 28 = .ok (.iconst 0, 1) := by decide +kernel
theorem zd_Certificate_forget_29 : decode ze_Certificate_forget 29 = .ok (.putfield 30, 3) := by decide +kernel
theorem zd_Certificate_forget_32 : decode ze_Certificate_forget 32 = .ok (.aload_n 0, 1) := by decide +kernel
theorem zd_Certificate_forget_33 : decode ze_Certificate_forget 33 = .ok (.iconst 0, 1) := by decide +kernel
theorem zd_Certificate_forget_34 : decode ze_Certificate_forget 34 = .ok (.putfield 34, 3) := by decide +kernel
theorem zd_Certificate_forget_37 : decode ze_Certificate_forget 37 = .ok (.aload_n 0, 1) := by decide +kernel
theorem zd_Certificate_forget_38 : decode ze_Certificate_forget 38 = .ok (.iconst 0, 1) := by decide +kernel
theorem zd_Certificate_forget_39 : decode ze_Certificate_forget 39 = .ok (.putfield 37, 3) := by decide +kernel
theorem zd_Certificate_forget_42 : decode ze_Certificate_forget 42 = .ok (.return_, 1) := by decide +kernel
theorem zd_Reader_fail_0 : decode ze_Reader_fail 0 = .ok (.aload_n 0, 1) := by decide +kernel
theorem zd_Reader_fail_1 : decode ze_Reader_fail 1 = .ok (.getfield 15, 3) := by decide +kernel
theorem zd_Reader_fail_4 : decode ze_Reader_fail 4 = .ok (.ifCond .ne 13, 3) := by decide +kernel
theorem zd_Reader_fail_7 : decode ze_Reader_fail 7 = .ok (.aload_n 0, 1) := by decide +kernel
theorem zd_Reader_fail_8 : decode ze_Reader_fail 8 = .ok (.iload_n 1, 1) := by decide +kernel
theorem zd_Reader_fail_9 : decode ze_Reader_fail 9 = .ok (.bipush 16, 2) := by decide +kernel
theorem zd_Reader_fail_11 : decode ze_Reader_fail 11 = .ok (.iload_n 2, 1) := by decide +kernel
theorem zd_Reader_fail_12 : decode ze_Reader_fail 12 = .ok (.imul, 1) := by decide +kernel
theorem zd_Reader_fail_13 : decode ze_Reader_fail 13 = .ok (.iadd, 1) := by decide +kernel
theorem zd_Reader_fail_14 : decode ze_Reader_fail 14 = .ok (.putfield 15, 3) := by decide +kernel
theorem zd_Reader_fail_17 : decode ze_Reader_fail 17 = .ok (.iload_n 2, 1) := by decide +kernel
theorem zd_Reader_fail_18 : decode ze_Reader_fail 18 = .ok (.ireturn, 1) := by decide +kernel
theorem zd_Reader_open_0 : decode ze_Reader_open 0 = .ok (.aload_n 0, 1) := by decide +kernel
theorem zd_Reader_open_1 : decode ze_Reader_open 1 = .ok (.getfield 9, 3) := by decide +kernel
theorem zd_Reader_open_4 : decode ze_Reader_open 4 = .ok (.istore_n 3, 1) := by decide +kernel
theorem zd_Reader_open_5 : decode ze_Reader_open 5 = .ok (.aload_n 0, 1) := by decide +kernel
theorem zd_Reader_open_6 : decode ze_Reader_open 6 = .ok (.getfield 15, 3) := by decide +kernel
theorem zd_Reader_open_9 : decode ze_Reader_open 9 = .ok (.ifCond .eq 5, 3) := by decide +kernel
theorem zd_Reader_open_12 : decode ze_Reader_open 12 = .ok (.iload_n 3, 1) := by decide +kernel
theorem zd_Reader_open_13 : decode ze_Reader_open 13 = .ok (.ireturn, 1) := by decide +kernel
theorem zd_Reader_open_14 : decode ze_Reader_open 14 = .ok (.aload_n 0, 1) := by decide +kernel
theorem zd_Reader_open_15 : decode ze_Reader_open 15 = .ok (.getfield 9, 3) := by decide +kernel
theorem zd_Reader_open_18 : decode ze_Reader_open 18 = .ok (.iload_n 2, 1) := by decide +kernel
theorem zd_Reader_open_19 : decode ze_Reader_open 19 = .ok (.if_icmp .lt 10, 3) := by decide +kernel
theorem zd_Reader_open_22 : decode ze_Reader_open 22 = .ok (.aload_n 0, 1) := by decide +kernel
theorem zd_Reader_open_23 : decode ze_Reader_open 23 = .ok (.iconst 1, 1) := by decide +kernel
theorem zd_Reader_open_24 : decode ze_Reader_open 24 = .ok (.iload_n 3, 1) := by decide +kernel
theorem zd_Reader_open_25 : decode ze_Reader_open 25 = .ok (.invokevirtual 113, 3) := by decide +kernel
theorem zd_Reader_open_28 : decode ze_Reader_open 28 = .ok (.ireturn, 1) := by decide +kernel
theorem zd_Reader_open_29 : decode ze_Reader_open 29 = .ok (.aload_n 0, 1) := by decide +kernel
theorem zd_Reader_open_30 : decode ze_Reader_open 30 = .ok (.getfield 18, 3) := by decide +kernel
theorem zd_Reader_open_33 : decode ze_Reader_open 33 = .ok (.getfield 166, 3) := by decide +kernel
theorem zd_Reader_open_36 : decode ze_Reader_open 36 = .ok (.aload_n 0, 1) := by decide +kernel
theorem zd_Reader_open_37 : decode ze_Reader_open 37 = .ok (.getfield 9, 3) := by decide +kernel
theorem zd_Reader_open_40 : decode ze_Reader_open 40 = .ok (.iaload, 1) := by decide +kernel
theorem zd_Reader_open_41 : decode ze_Reader_open 41 = .ok (.iload_n 1, 1) := by decide +kernel
theorem zd_Reader_open_42 : decode ze_Reader_open 42 = .ok (.if_icmp .eq 10, 3) := by decide +kernel
theorem zd_Reader_open_45 : decode ze_Reader_open 45 = .ok (.aload_n 0, 1) := by decide +kernel
theorem zd_Reader_open_46 : decode ze_Reader_open 46 = .ok (.iconst 2, 1) := by decide +kernel
theorem zd_Reader_open_47 : decode ze_Reader_open 47 = .ok (.iload_n 3, 1) := by decide +kernel
theorem zd_Reader_open_48 : decode ze_Reader_open 48 = .ok (.invokevirtual 113, 3) := by decide +kernel
theorem zd_Reader_open_51 : decode ze_Reader_open 51 = .ok (.ireturn, 1) := by decide +kernel
theorem zd_Reader_open_52 : decode ze_Reader_open 52 = .ok (.aload_n 0, 1) := by decide +kernel
theorem zd_Reader_open_53 : decode ze_Reader_open 53 = .ok (.dup, 1) := by decide +kernel
theorem zd_Reader_open_54 : decode ze_Reader_open 54 = .ok (.getfield 9, 3) := by decide +kernel
theorem zd_Reader_open_57 : decode ze_Reader_open 57 = .ok (.iconst 1, 1) := by decide +kernel
theorem zd_Reader_open_58 : decode ze_Reader_open 58 = .ok (.iadd, 1) := by decide +kernel
theorem zd_Reader_open_59 : decode ze_Reader_open 59 = .ok (.putfield 9, 3) := by decide +kernel
theorem zd_Reader_open_62 : decode ze_Reader_open 62 = .ok (.aload_n 0, 1) := by decide +kernel
theorem zd_Reader_open_63 : decode ze_Reader_open 63 = .ok (.getfield 9, 3) := by decide +kernel
theorem zd_Reader_open_66 : decode ze_Reader_open 66 = .ok (.iload_n 2, 1) := by decide +kernel
theorem zd_Reader_open_67 : decode ze_Reader_open 67 = .ok (.if_icmp .lt 10, 3) := by decide +kernel
theorem zd_Reader_open_70 : decode ze_Reader_open 70 = .ok (.aload_n 0, 1) := by decide +kernel
theorem zd_Reader_open_71 : decode ze_Reader_open 71 = .ok (.iconst 1, 1) := by decide +kernel
theorem zd_Reader_open_72 : decode ze_Reader_open 72 = .ok (.iload_n 3, 1) := by decide +kernel
theorem zd_Reader_open_73 : decode ze_Reader_open 73 = .ok (.invokevirtual 113, 3) := by decide +kernel
theorem zd_Reader_open_76 : decode ze_Reader_open 76 = .ok (.ireturn, 1) := by decide +kernel
theorem zd_Reader_open_77 : decode ze_Reader_open 77 = .ok (.aload_n 0, 1) := by decide +kernel
theorem zd_Reader_open_78 : decode ze_Reader_open 78 = .ok (.getfield 18, 3) := by decide +kernel
theorem zd_Reader_open_81 : decode ze_Reader_open 81 = .ok (.getfield 166, 3) := by decide +kernel
theorem zd_Reader_open_84 : decode ze_Reader_open 84 = .ok (.aload_n 0, 1) := by decide +kernel
theorem zd_Reader_open_85 : decode ze_Reader_open 85 = .ok (.getfield 9, 3) := by decide +kernel
theorem zd_Reader_open_88 : decode ze_Reader_open 88 = .ok (.iaload, 1) := by decide +kernel
theorem zd_Reader_open_89 : decode ze_Reader_open 89 = .ok (.istore 4, 2) := by decide +kernel
theorem zd_Reader_open_91 : decode ze_Reader_open 91 = .ok (.aload_n 0, 1) := by decide +kernel
theorem zd_Reader_open_92 : decode ze_Reader_open 92 = .ok (.dup, 1) := by decide +kernel
theorem zd_Reader_open_93 : decode ze_Reader_open 93 = .ok (.getfield 9, 3) := by decide +kernel
theorem zd_Reader_open_96 : decode ze_Reader_open 96 = .ok (.iconst 1, 1) := by decide +kernel
theorem zd_Reader_open_97 : decode ze_Reader_open 97 = .ok (.iadd, 1) := by decide +kernel
theorem zd_Reader_open_98 : decode ze_Reader_open 98 = .ok (.putfield 9, 3) := by decide +kernel
theorem zd_Reader_open_101 : decode ze_Reader_open 101 = .ok (.iload 4, 2) := by decide +kernel
theorem zd_Reader_open_103 : decode ze_Reader_open 103 = .ok (.bipush 127, 2) := by decide +kernel
theorem zd_Reader_open_105 : decode ze_Reader_open 105 = .ok (.if_icmp .le 71, 3) := by decide +kernel
theorem zd_Reader_open_108 : decode ze_Reader_open 108 = .ok (.iload 4, 2) := by decide +kernel
theorem zd_Reader_open_110 : decode ze_Reader_open 110 = .ok (.sipush 129, 3) := by decide +kernel
theorem zd_Reader_open_113 : decode ze_Reader_open 113 = .ok (.if_icmp .eq 10, 3) := by decide +kernel
theorem zd_Reader_open_116 : decode ze_Reader_open 116 = .ok (.aload_n 0, 1) := by decide +kernel
theorem zd_Reader_open_117 : decode ze_Reader_open 117 = .ok (.iconst 3, 1) := by decide +kernel
theorem zd_Reader_open_118 : decode ze_Reader_open 118 = .ok (.iload_n 3, 1) := by decide +kernel
theorem zd_Reader_open_119 : decode ze_Reader_open 119 = .ok (.invokevirtual 113, 3) := by decide +kernel
theorem zd_Reader_open_122 : decode ze_Reader_open 122 = .ok (.ireturn, 1) := by decide +kernel
theorem zd_Reader_open_123 : decode ze_Reader_open 123 = .ok (.aload_n 0, 1) := by decide +kernel
theorem zd_Reader_open_124 : decode ze_Reader_open 124 = .ok (.getfield 9, 3) := by decide +kernel
theorem zd_Reader_open_127 : decode ze_Reader_open 127 = .ok (.iload_n 2, 1) := by decide +kernel
theorem zd_Reader_open_128 : decode ze_Reader_open 128 = .ok (.if_icmp .lt 10, 3) := by decide +kernel
theorem zd_Reader_open_131 : decode ze_Reader_open 131 = .ok (.aload_n 0, 1) := by decide +kernel
theorem zd_Reader_open_132 : decode ze_Reader_open 132 = .ok (.iconst 1, 1) := by decide +kernel
theorem zd_Reader_open_133 : decode ze_Reader_open 133 = .ok (.iload_n 3, 1) := by decide +kernel
theorem zd_Reader_open_134 : decode ze_Reader_open 134 = .ok (.invokevirtual 113, 3) := by decide +kernel
theorem zd_Reader_open_137 : decode ze_Reader_open 137 = .ok (.ireturn, 1) := by decide +kernel
theorem zd_Reader_open_138 : decode ze_Reader_open 138 = .ok (.aload_n 0, 1) := by decide +kernel
theorem zd_Reader_open_139 : decode ze_Reader_open 139 = .ok (.getfield 18, 3) := by decide +kernel
theorem zd_Reader_open_142 : decode ze_Reader_open 142 = .ok (.getfield 166, 3) := by decide +kernel
theorem zd_Reader_open_145 : decode ze_Reader_open 145 = .ok (.aload_n 0, 1) := by decide +kernel
theorem zd_Reader_open_146 : decode ze_Reader_open 146 = .ok (.getfield 9, 3) := by decide +kernel
theorem zd_Reader_open_149 : decode ze_Reader_open 149 = .ok (.iaload, 1) := by decide +kernel
theorem zd_Reader_open_150 : decode ze_Reader_open 150 = .ok (.istore 4, 2) := by decide +kernel
theorem zd_Reader_open_152 : decode ze_Reader_open 152 = .ok (.aload_n 0, 1) := by decide +kernel
theorem zd_Reader_open_153 : decode ze_Reader_open 153 = .ok (.dup, 1) := by decide +kernel
theorem zd_Reader_open_154 : decode ze_Reader_open 154 = .ok (.getfield 9, 3) := by decide +kernel
theorem zd_Reader_open_157 : decode ze_Reader_open 157 = .ok (.iconst 1, 1) := by decide +kernel
theorem zd_Reader_open_158 : decode ze_Reader_open 158 = .ok (.iadd, 1) := by decide +kernel
theorem zd_Reader_open_159 : decode ze_Reader_open 159 = .ok (.putfield 9, 3) := by decide +kernel
theorem zd_Reader_open_162 : decode ze_Reader_open 162 = .ok (.iload 4, 2) := by decide +kernel
theorem zd_Reader_open_164 : decode ze_Reader_open 164 = .ok (.bipush 127, 2) := by decide +kernel
theorem zd_Reader_open_166 : decode ze_Reader_open 166 = .ok (.if_icmp .gt 10, 3) := by decide +kernel
theorem zd_Reader_open_169 : decode ze_Reader_open 169 = .ok (.aload_n 0, 1) := by decide +kernel
theorem zd_Reader_open_170 : decode ze_Reader_open 170 = .ok (.iconst 3, 1) := by decide +kernel
theorem zd_Reader_open_171 : decode ze_Reader_open 171 = .ok (.iload_n 3, 1) := by decide +kernel
theorem zd_Reader_open_172 : decode ze_Reader_open 172 = .ok (.invokevirtual 113, 3) := by decide +kernel
theorem zd_Reader_open_175 : decode ze_Reader_open 175 = .ok (.ireturn, 1) := by decide +kernel
theorem zd_Reader_open_176 : decode ze_Reader_open 176 = .ok (.iload 4, 2) := by decide +kernel
theorem zd_Reader_open_178 : decode ze_Reader_open 178 = .ok (.iload_n 2, 1) := by decide +kernel
theorem zd_Reader_open_179 : decode ze_Reader_open 179 = .ok (.aload_n 0, 1) := by decide +kernel
theorem zd_Reader_open_180 : decode ze_Reader_open 180 = .ok (.getfield 9, 3) := by decide +kernel
theorem zd_Reader_open_183 : decode ze_Reader_open 183 = .ok (.isub, 1) := by decide +kernel
theorem zd_Reader_open_184 : decode ze_Reader_open 184 = .ok (.if_icmp .le 12, 3) := by decide +kernel
theorem zd_Reader_open_187 : decode ze_Reader_open 187 = .ok (.aload_n 0, 1) := by decide +kernel
theorem zd_Reader_open_188 : decode ze_Reader_open 188 = .ok (.iconst 1, 1) := by decide +kernel
theorem zd_Reader_open_189 : decode ze_Reader_open 189 = .ok (.iload_n 3, 1) := by decide +kernel
theorem zd_Reader_open_190 : decode ze_Reader_open 190 = .ok (.invokevirtual 113, 3) := by decide +kernel
theorem zd_Reader_open_193 : decode ze_Reader_open 193 = .ok (.goto 10, 3) := by decide +kernel
theorem zd_Reader_open_196 : decode ze_Reader_open 196 = .ok (.aload_n 0, 1) := by decide +kernel
theorem zd_Reader_open_197 : decode ze_Reader_open 197 = .ok (.getfield 9, 3) := by decide +kernel
theorem zd_Reader_open_200 : decode ze_Reader_open 200 = .ok (.iload 4, 2) := by decide +kernel
theorem zd_Reader_open_202 : decode ze_Reader_open 202 = .ok (.iadd, 1) := by decide +kernel
theorem zd_Reader_open_203 : decode ze_Reader_open 203 = .ok (.ireturn, 1) := by decide +kernel
theorem zd_Reader_isInteger_0 : decode ze_Reader_isInteger 0 = .ok (.iload_n 1, 1) := by decide +kernel
theorem zd_Reader_isInteger_1 : decode ze_Reader_isInteger 1 = .ok (.aload_n 0, 1) := by decide +kernel
theorem zd_Reader_isInteger_2 : decode ze_Reader_isInteger 2 = .ok (.getfield 9, 3) := by decide +kernel
theorem zd_Reader_isInteger_5 : decode ze_Reader_isInteger 5 = .ok (.isub, 1) := by decide +kernel
theorem zd_Reader_isInteger_6 : decode ze_Reader_isInteger 6 = .ok (.istore_n 2, 1) := by decide +kernel
theorem zd_Reader_isInteger_7 : decode ze_Reader_isInteger 7 = .ok (.iload_n 2, 1) := by decide +kernel
theorem zd_Reader_isInteger_8 : decode ze_Reader_isInteger 8 = .ok (.iconst 1, 1) := by decide +kernel
theorem zd_Reader_isInteger_9 : decode ze_Reader_isInteger 9 = .ok (.if_icmp .lt 9, 3) := by decide +kernel
theorem zd_Reader_isInteger_12 : decode ze_Reader_isInteger 12 = .ok (.iload_n 2, 1) := by decide +kernel
theorem zd_Reader_isInteger_13 : decode ze_Reader_isInteger 13 = .ok (.bipush 8, 2) := by decide +kernel
theorem zd_Reader_isInteger_15 : decode ze_Reader_isInteger 15 = .ok (.if_icmp .le 5, 3) := by decide +kernel
theorem zd_Reader_isInteger_18 : decode ze_Reader_isInteger 18 = .ok (.iconst 0, 1) := by decide +kernel
theorem zd_Reader_isInteger_19 : decode ze_Reader_isInteger 19 = .ok (.ireturn, 1) := by decide +kernel
theorem zd_Reader_isInteger_20 : decode ze_Reader_isInteger 20 = .ok (.aload_n 0, 1) := by decide +kernel
theorem zd_Reader_isInteger_21 : decode ze_Reader_isInteger 21 = .ok (.getfield 18, 3) := by decide +kernel
theorem zd_Reader_isInteger_24 : decode ze_Reader_isInteger 24 = .ok (.getfield 166, 3) := by decide +kernel
theorem zd_Reader_isInteger_27 : decode ze_Reader_isInteger 27 = .ok (.aload_n 0, 1) := by decide +kernel
theorem zd_Reader_isInteger_28 : decode ze_Reader_isInteger 28 = .ok (.getfield 9, 3) := by decide +kernel
theorem zd_Reader_isInteger_31 : decode ze_Reader_isInteger 31 = .ok (.iaload, 1) := by decide +kernel
theorem zd_Reader_isInteger_32 : decode ze_Reader_isInteger 32 = .ok (.istore_n 3, 1) := by decide +kernel
theorem zd_Reader_isInteger_33 : decode ze_Reader_isInteger 33 = .ok (.iload_n 3, 1) := by decide +kernel
theorem zd_Reader_isInteger_34 : decode ze_Reader_isInteger 34 = .ok (.sipush 128, 3) := by decide +kernel
theorem zd_Reader_isInteger_37 : decode ze_Reader_isInteger 37 = .ok (.if_icmp .ge 36, 3) := by decide +kernel
theorem zd_Reader_isInteger_40 : decode ze_Reader_isInteger 40 = .ok (.iload_n 3, 1) := by decide +kernel
theorem zd_Reader_isInteger_41 : decode ze_Reader_isInteger 41 = .ok (.ifCond .gt 28, 3) := by decide +kernel
theorem zd_Reader_isInteger_44 : decode ze_Reader_isInteger 44 = .ok (.iload_n 2, 1) := by decide +kernel
theorem zd_Reader_isInteger_45 : decode ze_Reader_isInteger 45 = .ok (.iconst 1, 1) := by decide +kernel
theorem zd_Reader_isInteger_46 : decode ze_Reader_isInteger 46 = .ok (.if_icmp .eq 23, 3) := by decide +kernel
theorem zd_Reader_isInteger_49 : decode ze_Reader_isInteger 49 = .ok (.aload_n 0, 1) := by decide +kernel
theorem zd_Reader_isInteger_50 : decode ze_Reader_isInteger 50 = .ok (.getfield 18, 3) := by decide +kernel
theorem zd_Reader_isInteger_53 : decode ze_Reader_isInteger 53 = .ok (.getfield 166, 3) := by decide +kernel
theorem zd_Reader_isInteger_56 : decode ze_Reader_isInteger 56 = .ok (.aload_n 0, 1) := by decide +kernel
theorem zd_Reader_isInteger_57 : decode ze_Reader_isInteger 57 = .ok (.getfield 9, 3) := by decide +kernel
theorem zd_Reader_isInteger_60 : decode ze_Reader_isInteger 60 = .ok (.iconst 1, 1) := by decide +kernel
theorem zd_Reader_isInteger_61 : decode ze_Reader_isInteger 61 = .ok (.iadd, 1) := by decide +kernel
theorem zd_Reader_isInteger_62 : decode ze_Reader_isInteger 62 = .ok (.iaload, 1) := by decide +kernel
theorem zd_Reader_isInteger_63 : decode ze_Reader_isInteger 63 = .ok (.sipush 128, 3) := by decide +kernel
theorem zd_Reader_isInteger_66 : decode ze_Reader_isInteger 66 = .ok (.if_icmp .lt 7, 3) := by decide +kernel
theorem zd_Reader_isInteger_69 : decode ze_Reader_isInteger 69 = .ok (.iconst 1, 1) := by decide +kernel
theorem zd_Reader_isInteger_70 : decode ze_Reader_isInteger 70 = .ok (.goto 4, 3) := by decide +kernel
theorem zd_Reader_isInteger_73 : decode ze_Reader_isInteger 73 = .ok (.iconst 0, 1) := by decide +kernel
theorem zd_Reader_isInteger_74 : decode ze_Reader_isInteger 74 = .ok (.ireturn, 1) := by decide +kernel
theorem zd_Reader_readInteger_0 : decode ze_Reader_readInteger 0 = .ok (.aload_n 0, 1) := by decide +kernel
theorem zd_Reader_readInteger_1 : decode ze_Reader_readInteger 1 = .ok (.getfield 9, 3) := by decide +kernel
theorem zd_Reader_readInteger_4 : decode ze_Reader_readInteger 4 = .ok (.istore_n 2, 1) := by decide +kernel
theorem zd_Reader_readInteger_5 : decode ze_Reader_readInteger 5 = .ok (.aload_n 0, 1) := by decide +kernel
theorem zd_Reader_readInteger_6 : decode ze_Reader_readInteger 6 = .ok (.iconst 2, 1) := by decide +kernel
theorem zd_Reader_readInteger_7 : decode ze_Reader_readInteger 7 = .ok (.iload_n 1, 1) := by decide +kernel
theorem zd_Reader_readInteger_8 : decode ze_Reader_readInteger 8 = .ok (.invokevirtual 32, 3) := by decide +kernel
theorem zd_Reader_readInteger_11 : decode ze_Reader_readInteger 11 = .ok (.istore_n 3, 1) := by decide +kernel
theorem zd_Reader_readInteger_12 : decode ze_Reader_readInteger 12 = .ok (.aload_n 0, 1) := by decide +kernel
theorem zd_Reader_readInteger_13 : decode ze_Reader_readInteger 13 = .ok (.getfield 15, 3) := by decide +kernel
theorem zd_Reader_readInteger_16 : decode ze_Reader_readInteger 16 = .ok (.ifCond .eq 5, 3) := by decide +kernel
theorem zd_Reader_readInteger_19 : decode ze_Reader_readInteger 19 = .ok (.lconst 0, 1) := by decide +kernel
theorem zd_Reader_readInteger_20 : decode ze_Reader_readInteger 20 = .ok (.lreturn, 1) := by decide +kernel
theorem zd_Reader_readInteger_21 : decode ze_Reader_readInteger 21 = .ok (.aload_n 0, 1) := by decide +kernel
theorem zd_Reader_readInteger_22 : decode ze_Reader_readInteger 22 = .ok (.iload_n 3, 1) := by decide +kernel
theorem zd_Reader_readInteger_23 : decode ze_Reader_readInteger 23 = .ok (.invokevirtual 163, 3) := by decide +kernel
theorem zd_Reader_readInteger_26 : decode ze_Reader_readInteger 26 = .ok (.ifCond .ne 12, 3) := by decide +kernel
theorem zd_Reader_readInteger_29 : decode ze_Reader_readInteger 29 = .ok (.aload_n 0, 1) := by decide +kernel
theorem zd_Reader_readInteger_30 : decode ze_Reader_readInteger 30 = .ok (.iconst 4, 1) := by decide +kernel
theorem zd_Reader_readInteger_31 : decode ze_Reader_readInteger 31 = .ok (.iload_n 2, 1) := by decide +kernel
theorem zd_Reader_readInteger_32 : decode ze_Reader_readInteger 32 = .ok (.invokevirtual 113, 3) := by decide +kernel
theorem zd_Reader_readInteger_35 : decode ze_Reader_readInteger 35 = .ok (.pop, 1) := by decide +kernel
theorem zd_Reader_readInteger_36 : decode ze_Reader_readInteger 36 = .ok (.lconst 0, 1) := by decide +kernel
theorem zd_Reader_readInteger_37 : decode ze_Reader_readInteger 37 = .ok (.lreturn, 1) := by decide +kernel
theorem zd_Reader_readInteger_38 : decode ze_Reader_readInteger 38 = .ok (.lconst 0, 1) := by decide +kernel
theorem zd_Reader_readInteger_39 : decode ze_Reader_readInteger 39 = .ok (.lstore 4, 2) := by decide +kernel
theorem zd_Reader_readInteger_41 : decode ze_Reader_readInteger 41 = .ok (.aload_n 0, 1) := by decide +kernel
theorem zd_Reader_readInteger_42 : decode ze_Reader_readInteger 42 = .ok (.getfield 9, 3) := by decide +kernel
theorem zd_Reader_readInteger_45 : decode ze_Reader_readInteger 45 = .ok (.iload_n 3, 1) := by decide +kernel
theorem zd_Reader_readInteger_46 : decode ze_Reader_readInteger 46 = .ok (.if_icmp .ge 37, 3) := by decide +kernel
theorem zd_Reader_readInteger_49 : decode ze_Reader_readInteger 49 = .ok (.lload 4, 2) := by decide +kernel
theorem zd_Reader_readInteger_51 : decode ze_Reader_readInteger 51 = .ok (.bipush 8, 2) := by decide +kernel
theorem zd_Reader_readInteger_53 : decode ze_Reader_readInteger 53 = .ok (.lshl, 1) := by decide +kernel
theorem zd_Reader_readInteger_54 : decode ze_Reader_readInteger 54 = .ok (.aload_n 0, 1) := by decide +kernel
theorem zd_Reader_readInteger_55 : decode ze_Reader_readInteger 55 = .ok (.getfield 18, 3) := by decide +kernel
theorem zd_Reader_readInteger_58 : decode ze_Reader_readInteger 58 = .ok (.getfield 166, 3) := by decide +kernel
theorem zd_Reader_readInteger_61 : decode ze_Reader_readInteger 61 = .ok (.aload_n 0, 1) := by decide +kernel
theorem zd_Reader_readInteger_62 : decode ze_Reader_readInteger 62 = .ok (.getfield 9, 3) := by decide +kernel
theorem zd_Reader_readInteger_65 : decode ze_Reader_readInteger 65 = .ok (.iaload, 1) := by decide +kernel
theorem zd_Reader_readInteger_66 : decode ze_Reader_readInteger 66 = .ok (.i2l, 1) := by decide +kernel
theorem zd_Reader_readInteger_67 : decode ze_Reader_readInteger 67 = .ok (.lor, 1) := by decide +kernel
theorem zd_Reader_readInteger_68 : decode ze_Reader_readInteger 68 = .ok (.lstore 4, 2) := by decide +kernel
theorem zd_Reader_readInteger_70 : decode ze_Reader_readInteger 70 = .ok (.aload_n 0, 1) := by decide +kernel
theorem zd_Reader_readInteger_71 : decode ze_Reader_readInteger 71 = .ok (.dup, 1) := by decide +kernel
theorem zd_Reader_readInteger_72 : decode ze_Reader_readInteger 72 = .ok (.getfield 9, 3) := by decide +kernel
theorem zd_Reader_readInteger_75 : decode ze_Reader_readInteger 75 = .ok (.iconst 1, 1) := by decide +kernel
theorem zd_Reader_readInteger_76 : decode ze_Reader_readInteger 76 = .ok (.iadd, 1) := by decide +kernel
theorem zd_Reader_readInteger_77 : decode ze_Reader_readInteger 77 = .ok (.putfield 9, 3) := by decide +kernel
theorem zd_Reader_readInteger_80 : decode ze_Reader_readInteger 80 = .ok (.goto (-39), 3) := by decide +kernel
theorem zd_Reader_readInteger_83 : decode ze_Reader_readInteger 83 = .ok (.lload 4, 2) := by decide +kernel
theorem zd_Reader_readInteger_85 : decode ze_Reader_readInteger 85 = .ok (.lreturn, 1) := by decide +kernel
theorem zd_Names_isName_0 : decode ze_Names_isName 0 = .ok (.lload_n 0, 1) := by decide +kernel
theorem zd_Names_isName_1 : decode ze_Names_isName 1 = .ok (.lconst 0, 1) := by decide +kernel
theorem zd_Names_isName_2 : decode ze_Names_isName 2 = .ok (.lcmp, 1) := by decide +kernel
theorem zd_Names_isName_3 : decode ze_Names_isName 3 = .ok (.ifCond .le 12, 3) := by decide +kernel
theorem zd_Names_isName_6 : decode ze_Names_isName 6 = .ok (.lload_n 0, 1) := by decide +kernel
theorem zd_Names_isName_7 : decode ze_Names_isName 7 = .ok (.bipush 40, 2) := by decide +kernel
theorem zd_Names_isName_9 : decode ze_Names_isName 9 = .ok (.lushr, 1) := by decide +kernel
theorem zd_Names_isName_10 : decode ze_Names_isName 10 = .ok (.lconst 0, 1) := by decide +kernel
theorem zd_Names_isName_11 : decode ze_Names_isName 11 = .ok (.lcmp, 1) := by decide +kernel
theorem zd_Names_isName_12 : decode ze_Names_isName 12 = .ok (.ifCond .eq 5, 3) := by decide +kernel
theorem zd_Names_isName_15 : decode ze_Names_isName 15 = .ok (.iconst 0, 1) := by decide +kernel
theorem zd_Names_isName_16 : decode ze_Names_isName 16 = .ok (.ireturn, 1) := by decide +kernel
theorem zd_Names_isName_17 : decode ze_Names_isName 17 = .ok (.bipush 27, 2) := by decide +kernel
theorem zd_Names_isName_19 : decode ze_Names_isName 19 = .ok (.istore_n 2, 1) := by decide +kernel
theorem zd_Names_isName_20 : decode ze_Names_isName 20 = .ok (.lload_n 0, 1) := by decide +kernel
theorem zd_Names_isName_21 : decode ze_Names_isName 21 = .ok (.lstore_n 3, 1) := by decide +kernel
theorem zd_Names_isName_22 : decode ze_Names_isName 22 = .ok (.lload_n 3, 1) := by decide +kernel
theorem zd_Names_isName_23 : decode ze_Names_isName 23 = .ok (.lconst 0, 1) := by decide +kernel
theorem zd_Names_isName_24 : decode ze_Names_isName 24 = .ok (.lcmp, 1) := by decide +kernel
theorem zd_Names_isName_25 : decode ze_Names_isName 25 = .ok (.ifCond .eq 47, 3) := by decide +kernel
theorem zd_Names_isName_28 : decode ze_Names_isName 28 = .ok (.lload_n 3, 1) := by decide +kernel
theorem zd_Names_isName_29 : decode ze_Names_isName 29 = .ok (.l2i, 1) := by decide +kernel
theorem zd_Names_isName_30 : decode ze_Names_isName 30 = .ok (.bipush 31, 2) := by decide +kernel
theorem zd_Names_isName_32 : decode ze_Names_isName 32 = .ok (.iand, 1) := by decide +kernel
theorem zd_Names_isName_33 : decode ze_Names_isName 33 = .ok (.istore 5, 2) := by decide +kernel
theorem zd_Names_isName_35 : decode ze_Names_isName 35 = .ok (.iload 5, 2) := by decide +kernel
theorem zd_Names_isName_37 : decode ze_Names_isName 37 = .ok (.ifCond .eq 23, 3) := by decide +kernel
theorem zd_Names_isName_40 : decode ze_Names_isName 40 = .ok (.iload 5, 2) := by decide +kernel
theorem zd_Names_isName_42 : decode ze_Names_isName 42 = .ok (.bipush 27, 2) := by decide +kernel
theorem zd_Names_isName_44 : decode ze_Names_isName 44 = .ok (.if_icmp .gt 16, 3) := by decide +kernel
theorem zd_Names_isName_47 : decode ze_Names_isName 47 = .ok (.iload 5, 2) := by decide +kernel
theorem zd_Names_isName_49 : decode ze_Names_isName 49 = .ok (.bipush 27, 2) := by decide +kernel
theorem zd_Names_isName_51 : decode ze_Names_isName 51 = .ok (.if_icmp .ne 11, 3) := by decide +kernel
theorem zd_Names_isName_54 : decode ze_Names_isName 54 = .ok (.iload_n 2, 1) := by decide +kernel
theorem zd_Names_isName_55 : decode ze_Names_isName 55 = .ok (.bipush 27, 2) := by decide +kernel
theorem zd_Names_isName_57 : decode ze_Names_isName 57 = .ok (.if_icmp .ne 5, 3) := by decide +kernel
theorem zd_Names_isName_60 : decode ze_Names_isName 60 = .ok (.iconst 0, 1) := by decide +kernel
theorem zd_Names_isName_61 : decode ze_Names_isName 61 = .ok (.ireturn, 1) := by decide +kernel
theorem zd_Names_isName_62 : decode ze_Names_isName 62 = .ok (.iload 5, 2) := by decide +kernel
theorem zd_Names_isName_64 : decode ze_Names_isName 64 = .ok (.istore_n 2, 1) := by decide +kernel
theorem zd_Names_isName_65 : decode ze_Names_isName 65 = .ok (.lload_n 3, 1) := by decide +kernel
theorem zd_Names_isName_66 : decode ze_Names_isName 66 = .ok (.iconst 5, 1) := by decide +kernel
theorem zd_Names_isName_67 : decode ze_Names_isName 67 = .ok (.lushr, 1) := by decide +kernel
theorem zd_Names_isName_68 : decode ze_Names_isName 68 = .ok (.lstore_n 3, 1) := by decide +kernel
theorem zd_Names_isName_69 : decode ze_Names_isName 69 = .ok (.goto (-47), 3) := by decide +kernel
theorem zd_Names_isName_72 : decode ze_Names_isName 72 = .ok (.iload_n 2, 1) := by decide +kernel
theorem zd_Names_isName_73 : decode ze_Names_isName 73 = .ok (.bipush 27, 2) := by decide +kernel
theorem zd_Names_isName_75 : decode ze_Names_isName 75 = .ok (.if_icmp .eq 7, 3) := by decide +kernel
theorem zd_Names_isName_78 : decode ze_Names_isName 78 = .ok (.iconst 1, 1) := by decide +kernel
theorem zd_Names_isName_79 : decode ze_Names_isName 79 = .ok (.goto 4, 3) := by decide +kernel
theorem zd_Names_isName_82 : decode ze_Names_isName 82 = .ok (.iconst 0, 1) := by decide +kernel
theorem zd_Names_isName_83 : decode ze_Names_isName 83 = .ok (.ireturn, 1) := by decide +kernel
theorem zd_Names_fromAscii_0 : decode ze_Names_fromAscii 0 = .ok (.iload_n 0, 1) := by decide +kernel
theorem zd_Names_fromAscii_1 : decode ze_Names_fromAscii 1 = .ok (.bipush 46, 2) := by decide +kernel
theorem zd_Names_fromAscii_3 : decode ze_Names_fromAscii 3 = .ok (.if_icmp .ne 6, 3) := by decide +kernel
theorem zd_Names_fromAscii_6 : decode ze_Names_fromAscii 6 = .ok (.bipush 27, 2) := by decide +kernel
theorem zd_Names_fromAscii_8 : decode ze_Names_fromAscii 8 = .ok (.ireturn, 1) := by decide +kernel
theorem zd_Names_fromAscii_9 : decode ze_Names_fromAscii 9 = .ok (.iload_n 0, 1) := by decide +kernel
theorem zd_Names_fromAscii_10 : decode ze_Names_fromAscii 10 = .ok (.bipush 97, 2) := by decide +kernel
theorem zd_Names_fromAscii_12 : decode ze_Names_fromAscii 12 = .ok (.if_icmp .lt 18, 3) := by decide +kernel
theorem zd_Names_fromAscii_15 : decode ze_Names_fromAscii 15 = .ok (.iload_n 0, 1) := by decide +kernel
theorem zd_Names_fromAscii_16 : decode ze_Names_fromAscii 16 = .ok (.bipush 122, 2) := by decide +kernel
theorem zd_Names_fromAscii_18 : decode ze_Names_fromAscii 18 = .ok (.if_icmp .gt 12, 3) := by decide +kernel
theorem zd_Names_fromAscii_21 : decode ze_Names_fromAscii 21 = .ok (.iload_n 0, 1) := by decide +kernel
theorem zd_Names_fromAscii_22 : decode ze_Names_fromAscii 22 = .ok (.bipush 97, 2) := by decide +kernel
theorem zd_Names_fromAscii_24 : decode ze_Names_fromAscii 24 = .ok (.isub, 1) := by decide +kernel
theorem zd_Names_fromAscii_25 : decode ze_Names_fromAscii 25 = .ok (.iconst 1, 1) := by decide +kernel
theorem zd_Names_fromAscii_26 : decode ze_Names_fromAscii 26 = .ok (.iadd, 1) := by decide +kernel
theorem zd_Names_fromAscii_27 : decode ze_Names_fromAscii 27 = .ok (.goto 5, 3) := by decide +kernel
theorem zd_Names_fromAscii_30 : decode ze_Names_fromAscii 30 = .ok (.bipush 31, 2) := by decide +kernel
theorem zd_Names_fromAscii_32 : decode ze_Names_fromAscii 32 = .ok (.ireturn, 1) := by decide +kernel
theorem zd_Reader_readName_0 : decode ze_Reader_readName 0 = .ok (.aload_n 0, 1) := by decide +kernel
theorem zd_Reader_readName_1 : decode ze_Reader_readName 1 = .ok (.getfield 9, 3) := by decide +kernel
theorem zd_Reader_readName_4 : decode ze_Reader_readName 4 = .ok (.istore_n 3, 1) := by decide +kernel
theorem zd_Reader_readName_5 : decode ze_Reader_readName 5 = .ok (.aload_n 0, 1) := by decide +kernel
theorem zd_Reader_readName_6 : decode ze_Reader_readName 6 = .ok (.iload_n 1, 1) := by decide +kernel
theorem zd_Reader_readName_7 : decode ze_Reader_readName 7 = .ok (.iload_n 2, 1) := by decide +kernel
theorem zd_Reader_readName_8 : decode ze_Reader_readName 8 = .ok (.invokevirtual 32, 3) := by decide +kernel
theorem zd_Reader_readName_11 : decode ze_Reader_readName 11 = .ok (.istore 4, 2) := by decide +kernel
theorem zd_Reader_readName_13 : decode ze_Reader_readName 13 = .ok (.aload_n 0, 1) := by decide +kernel
theorem zd_Reader_readName_14 : decode ze_Reader_readName 14 = .ok (.getfield 15, 3) := by decide +kernel
theorem zd_Reader_readName_17 : decode ze_Reader_readName 17 = .ok (.ifCond .eq 5, 3) := by decide +kernel
theorem zd_Reader_readName_20 : decode ze_Reader_readName 20 = .ok (.lconst 0, 1) := by decide +kernel
theorem zd_Reader_readName_21 : decode ze_Reader_readName 21 = .ok (.lreturn, 1) := by decide +kernel
theorem zd_Reader_readName_22 : decode ze_Reader_readName 22 = .ok (.lconst 0, 1) := by decide +kernel
theorem zd_Reader_readName_23 : decode ze_Reader_readName 23 = .ok (.lstore 5, 2) := by decide +kernel
theorem zd_Reader_readName_25 : decode ze_Reader_readName 25 = .ok (.iload 4, 2) := by decide +kernel
theorem zd_Reader_readName_27 : decode ze_Reader_readName 27 = .ok (.aload_n 0, 1) := by decide +kernel
theorem zd_Reader_readName_28 : decode ze_Reader_readName 28 = .ok (.getfield 9, 3) := by decide +kernel
theorem zd_Reader_readName_31 : decode ze_Reader_readName 31 = .ok (.isub, 1) := by decide +kernel
theorem zd_Reader_readName_32 : decode ze_Reader_readName 32 = .ok (.bipush 8, 2) := by decide +kernel
theorem zd_Reader_readName_34 : decode ze_Reader_readName 34 = .ok (.if_icmp .gt 45, 3) := by decide +kernel
theorem zd_Reader_readName_37 : decode ze_Reader_readName 37 = .ok (.iload 4, 2) := by decide +kernel
theorem zd_Reader_readName_39 : decode ze_Reader_readName 39 = .ok (.iconst 1, 1) := by decide +kernel
theorem zd_Reader_readName_40 : decode ze_Reader_readName 40 = .ok (.isub, 1) := by decide +kernel
theorem zd_Reader_readName_41 : decode ze_Reader_readName 41 = .ok (.istore 7, 2) := by decide +kernel
theorem zd_Reader_readName_43 : decode ze_Reader_readName 43 = .ok (.iload 7, 2) := by decide +kernel
theorem zd_Reader_readName_45 : decode ze_Reader_readName 45 = .ok (.aload_n 0, 1) := by decide +kernel
theorem zd_Reader_readName_46 : decode ze_Reader_readName 46 = .ok (.getfield 9, 3) := by decide +kernel
theorem zd_Reader_readName_49 : decode ze_Reader_readName 49 = .ok (.if_icmp .lt 30, 3) := by decide +kernel
theorem zd_Reader_readName_52 : decode ze_Reader_readName 52 = .ok (.lload 5, 2) := by decide +kernel
theorem zd_Reader_readName_54 : decode ze_Reader_readName 54 = .ok (.iconst 5, 1) := by decide +kernel
theorem zd_Reader_readName_55 : decode ze_Reader_readName 55 = .ok (.lshl, 1) := by decide +kernel
theorem zd_Reader_readName_56 : decode ze_Reader_readName 56 = .ok (.aload_n 0, 1) := by decide +kernel
theorem zd_Reader_readName_57 : decode ze_Reader_readName 57 = .ok (.getfield 18, 3) := by decide +kernel
theorem zd_Reader_readName_60 : decode ze_Reader_readName 60 = .ok (.getfield 166, 3) := by decide +kernel
theorem zd_Reader_readName_63 : decode ze_Reader_readName 63 = .ok (.iload 7, 2) := by decide +kernel
theorem zd_Reader_readName_65 : decode ze_Reader_readName 65 = .ok (.iaload, 1) := by decide +kernel
theorem zd_Reader_readName_66 : decode ze_Reader_readName 66 = .ok (.invokestatic 172, 3) := by decide +kernel
theorem zd_Reader_readName_69 : decode ze_Reader_readName 69 = .ok (.i2l, 1) := by decide +kernel
theorem zd_Reader_readName_70 : decode ze_Reader_readName 70 = .ok (.lor, 1) := by decide +kernel
theorem zd_Reader_readName_71 : decode ze_Reader_readName 71 = .ok (.lstore 5, 2) := by decide +kernel
theorem zd_Reader_readName_73 : decode ze_Reader_readName 73 = .ok (.iinc 7 (-1), 3) := by decide +kernel
theorem zd_Reader_readName_76 : decode ze_Reader_readName 76 = .ok (.goto (-33), 3) := by decide +kernel
theorem zd_Reader_readName_79 : decode ze_Reader_readName 79 = .ok (.lload 5, 2) := by decide +kernel
theorem zd_Reader_readName_81 : decode ze_Reader_readName 81 = .ok (.invokestatic 176, 3) := by decide +kernel
theorem zd_Reader_readName_84 : decode ze_Reader_readName 84 = .ok (.ifCond .ne 10, 3) := by decide +kernel
theorem zd_Reader_readName_87 : decode ze_Reader_readName 87 = .ok (.aload_n 0, 1) := by decide +kernel
theorem zd_Reader_readName_88 : decode ze_Reader_readName 88 = .ok (.iconst 4, 1) := by decide +kernel
theorem zd_Reader_readName_89 : decode ze_Reader_readName 89 = .ok (.iload_n 3, 1) := by decide +kernel
theorem zd_Reader_readName_90 : decode ze_Reader_readName 90 = .ok (.invokevirtual 113, 3) := by decide +kernel
theorem zd_Reader_readName_93 : decode ze_Reader_readName 93 = .ok (.pop, 1) := by decide +kernel
theorem zd_Reader_readName_94 : decode ze_Reader_readName 94 = .ok (.aload_n 0, 1) := by decide +kernel
theorem zd_Reader_readName_95 : decode ze_Reader_readName 95 = .ok (.iload 4, 2) := by decide +kernel
theorem zd_Reader_readName_97 : decode ze_Reader_readName 97 = .ok (.putfield 9, 3) := by decide +kernel
theorem zd_Reader_readName_100 : decode ze_Reader_readName 100 = .ok (.lload 5, 2) := by decide +kernel
theorem zd_Reader_readName_102 : decode ze_Reader_readName 102 = .ok (.lreturn, 1) := by decide +kernel
theorem zd_Reader_isNext_0 : decode ze_Reader_isNext 0 = .ok (.aload_n 0, 1) := by decide +kernel
theorem zd_Reader_isNext_1 : decode ze_Reader_isNext 1 = .ok (.getfield 15, 3) := by decide +kernel
theorem zd_Reader_isNext_4 : decode ze_Reader_isNext 4 = .ok (.ifCond .ne 31, 3) := by decide +kernel
theorem zd_Reader_isNext_7 : decode ze_Reader_isNext 7 = .ok (.aload_n 0, 1) := by decide +kernel
theorem zd_Reader_isNext_8 : decode ze_Reader_isNext 8 = .ok (.getfield 9, 3) := by decide +kernel
theorem zd_Reader_isNext_11 : decode ze_Reader_isNext 11 = .ok (.iload_n 2, 1) := by decide +kernel
theorem zd_Reader_isNext_12 : decode ze_Reader_isNext 12 = .ok (.if_icmp .ge 23, 3) := by decide +kernel
theorem zd_Reader_isNext_15 : decode ze_Reader_isNext 15 = .ok (.aload_n 0, 1) := by decide +kernel
theorem zd_Reader_isNext_16 : decode ze_Reader_isNext 16 = .ok (.getfield 18, 3) := by decide +kernel
theorem zd_Reader_isNext_19 : decode ze_Reader_isNext 19 = .ok (.getfield 166, 3) := by decide +kernel
theorem zd_Reader_isNext_22 : decode ze_Reader_isNext 22 = .ok (.aload_n 0, 1) := by decide +kernel
theorem zd_Reader_isNext_23 : decode ze_Reader_isNext 23 = .ok (.getfield 9, 3) := by decide +kernel
theorem zd_Reader_isNext_26 : decode ze_Reader_isNext 26 = .ok (.iaload, 1) := by decide +kernel
theorem zd_Reader_isNext_27 : decode ze_Reader_isNext 27 = .ok (.iload_n 1, 1) := by decide +kernel
theorem zd_Reader_isNext_28 : decode ze_Reader_isNext 28 = .ok (.if_icmp .ne 7, 3) := by decide +kernel
theorem zd_Reader_isNext_31 : decode ze_Reader_isNext 31 = .ok (.iconst 1, 1) := by decide +kernel
theorem zd_Reader_isNext_32 : decode ze_Reader_isNext 32 = .ok (.goto 4, 3) := by decide +kernel
theorem zd_Reader_isNext_35 : decode ze_Reader_isNext 35 = .ok (.iconst 0, 1) := by decide +kernel
theorem zd_Reader_isNext_36 : decode ze_Reader_isNext 36 = .ok (.ireturn, 1) := by decide +kernel
theorem zd_Reader_close_0 : decode ze_Reader_close 0 = .ok (.aload_n 0, 1) := by decide +kernel
theorem zd_Reader_close_1 : decode ze_Reader_close 1 = .ok (.getfield 9, 3) := by decide +kernel
theorem zd_Reader_close_4 : decode ze_Reader_close 4 = .ok (.iload_n 1, 1) := by decide +kernel
theorem zd_Reader_close_5 : decode ze_Reader_close 5 = .ok (.if_icmp .ge 13, 3) := by decide +kernel
theorem zd_Reader_close_8 : decode ze_Reader_close 8 = .ok (.aload_n 0, 1) := by decide +kernel
theorem zd_Reader_close_9 : decode ze_Reader_close 9 = .ok (.iconst 5, 1) := by decide +kernel
theorem zd_Reader_close_10 : decode ze_Reader_close 10 = .ok (.aload_n 0, 1) := by decide +kernel
theorem zd_Reader_close_11 : decode ze_Reader_close 11 = .ok (.getfield 9, 3) := by decide +kernel
theorem zd_Reader_close_14 : decode ze_Reader_close 14 = .ok (.invokevirtual 113, 3) := by decide +kernel
theorem zd_Reader_close_17 : decode ze_Reader_close 17 = .ok (.pop, 1) := by decide +kernel
theorem zd_Reader_close_18 : decode ze_Reader_close 18 = .ok (.return_, 1) := by decide +kernel
theorem zd_Draft_hash_0 : decode ze_Draft_hash 0 = .ok (.ldc 45, 2) := by decide +kernel
theorem zd_Draft_hash_2 : decode ze_Draft_hash 2 = .ok (.istore_n 3, 1) := by decide +kernel
theorem zd_Draft_hash_3 : decode ze_Draft_hash 3 = .ok (.iload_n 1, 1) := by decide +kernel
theorem zd_Draft_hash_4 : decode ze_Draft_hash 4 = .ok (.istore 4, 2) := by decide +kernel
theorem zd_Draft_hash_6 : decode ze_Draft_hash 6 = .ok (.iload 4, 2) := by decide +kernel
theorem zd_Draft_hash_8 : decode ze_Draft_hash 8 = .ok (.iload_n 2, 1) := by decide +kernel
theorem zd_Draft_hash_9 : decode ze_Draft_hash 9 = .ok (.if_icmp .ge 22, 3) := by decide +kernel
theorem zd_Draft_hash_12 : decode ze_Draft_hash 12 = .ok (.iload_n 3, 1) := by decide +kernel
theorem zd_Draft_hash_13 : decode ze_Draft_hash 13 = .ok (.aload_n 0, 1) := by decide +kernel
theorem zd_Draft_hash_14 : decode ze_Draft_hash 14 = .ok (.getfield 11, 3) := by decide +kernel
theorem zd_Draft_hash_17 : decode ze_Draft_hash 17 = .ok (.iload 4, 2) := by decide +kernel
theorem zd_Draft_hash_19 : decode ze_Draft_hash 19 = .ok (.iaload, 1) := by decide +kernel
theorem zd_Draft_hash_20 : decode ze_Draft_hash 20 = .ok (.ixor, 1) := by decide +kernel
theorem zd_Draft_hash_21 : decode ze_Draft_hash 21 = .ok (.ldc 46, 2) := by decide +kernel
theorem zd_Draft_hash_23 : decode ze_Draft_hash 23 = .ok (.imul, 1) := by decide +kernel
theorem zd_Draft_hash_24 : decode ze_Draft_hash 24 = .ok (.istore_n 3, 1) := by decide +kernel
theorem zd_Draft_hash_25 : decode ze_Draft_hash 25 = .ok (.iinc 4 1, 3) := by decide +kernel
theorem zd_Draft_hash_28 : decode ze_Draft_hash 28 = .ok (.goto (-22), 3) := by decide +kernel
theorem zd_Draft_hash_31 : decode ze_Draft_hash 31 = .ok (.iload_n 3, 1) := by decide +kernel
theorem zd_Draft_hash_32 : decode ze_Draft_hash 32 = .ok (.iload_n 3, 1) := by decide +kernel
theorem zd_Draft_hash_33 : decode ze_Draft_hash 33 = .ok (.bipush 15, 2) := by decide +kernel
theorem zd_Draft_hash_35 : decode ze_Draft_hash 35 = .ok (.iushr, 1) := by decide +kernel
theorem zd_Draft_hash_36 : decode ze_Draft_hash 36 = .ok (.ixor, 1) := by decide +kernel
theorem zd_Draft_hash_37 : decode ze_Draft_hash 37 = .ok (.ireturn, 1) := by decide +kernel
theorem zd_Reader_readSignature_0 : decode ze_Reader_readSignature 0 = .ok (.aload_n 0, 1) := by decide +kernel
theorem zd_Reader_readSignature_1 : decode ze_Reader_readSignature 1 = .ok (.getfield 15, 3) := by decide +kernel
theorem zd_Reader_readSignature_4 : decode ze_Reader_readSignature 4 = .ok (.ifCond .eq 4, 3) := by decide +kernel
theorem zd_Reader_readSignature_7 : decode ze_Reader_readSignature 7 = .ok (.return_, 1) := by decide +kernel
theorem zd_Reader_readSignature_8 : decode ze_Reader_readSignature 8 = .ok (.aload_n 1, 1) := by decide +kernel
theorem zd_Reader_readSignature_9 : decode ze_Reader_readSignature 9 = .ok (.aload_n 0, 1) := by decide +kernel
theorem zd_Reader_readSignature_10 : decode ze_Reader_readSignature 10 = .ok (.getfield 18, 3) := by decide +kernel
theorem zd_Reader_readSignature_13 : decode ze_Reader_readSignature 13 = .ok (.iload_n 2, 1) := by decide +kernel
theorem zd_Reader_readSignature_14 : decode ze_Reader_readSignature 14 = .ok (.aload_n 0, 1) := by decide +kernel
theorem zd_Reader_readSignature_15 : decode ze_Reader_readSignature 15 = .ok (.getfield 9, 3) := by decide +kernel
theorem zd_Reader_readSignature_18 : decode ze_Reader_readSignature 18 = .ok (.invokevirtual 97, 3) := by decide +kernel
theorem zd_Reader_readSignature_21 : decode ze_Reader_readSignature 21 = .ok (.putfield 100, 3) := by decide +kernel
theorem zd_Reader_readSignature_24 : decode ze_Reader_readSignature 24 = .ok (.aload_n 1, 1) := by decide +kernel
theorem zd_Reader_readSignature_25 : decode ze_Reader_readSignature 25 = .ok (.aload_n 0, 1) := by decide +kernel
theorem zd_Reader_readSignature_26 : decode ze_Reader_readSignature 26 = .ok (.iload_n 3, 1) := by decide +kernel
theorem zd_Reader_readSignature_27 : decode ze_Reader_readSignature 27 = .ok (.invokevirtual 36, 3) := by decide +kernel
theorem zd_Reader_readSignature_30 : decode ze_Reader_readSignature 30 = .ok (.putfield 104, 3) := by decide +kernel
theorem zd_Reader_readSignature_33 : decode ze_Reader_readSignature 33 = .ok (.aload_n 0, 1) := by decide +kernel
theorem zd_Reader_readSignature_34 : decode ze_Reader_readSignature 34 = .ok (.iload_n 3, 1) := by decide +kernel
theorem zd_Reader_readSignature_35 : decode ze_Reader_readSignature 35 = .ok (.invokevirtual 74, 3) := by decide +kernel
theorem zd_Reader_readSignature_38 : decode ze_Reader_readSignature 38 = .ok (.aload_n 0, 1) := by decide +kernel
theorem zd_Reader_readSignature_39 : decode ze_Reader_readSignature 39 = .ok (.aload_n 0, 1) := by decide +kernel
theorem zd_Reader_readSignature_40 : decode ze_Reader_readSignature 40 = .ok (.getfield 18, 3) := by decide +kernel
theorem zd_Reader_readSignature_43 : decode ze_Reader_readSignature 43 = .ok (.getfield 27, 3) := by decide +kernel
theorem zd_Reader_readSignature_46 : decode ze_Reader_readSignature 46 = .ok (.invokevirtual 74, 3) := by decide +kernel
theorem zd_Reader_readSignature_49 : decode ze_Reader_readSignature 49 = .ok (.return_, 1) := by decide +kernel
theorem zd_Reader_readFlag_0 : decode ze_Reader_readFlag 0 = .ok (.aload_n 0, 1) := by decide +kernel
theorem zd_Reader_readFlag_1 : decode ze_Reader_readFlag 1 = .ok (.iconst 1, 1) := by decide +kernel
theorem zd_Reader_readFlag_2 : decode ze_Reader_readFlag 2 = .ok (.iload_n 1, 1) := by decide +kernel
theorem zd_Reader_readFlag_3 : decode ze_Reader_readFlag 3 = .ok (.invokevirtual 66, 3) := by decide +kernel
theorem zd_Reader_readFlag_6 : decode ze_Reader_readFlag 6 = .ok (.ifCond .ne 5, 3) := by decide +kernel
theorem zd_Reader_readFlag_9 : decode ze_Reader_readFlag 9 = .ok (.iconst 0, 1) := by decide +kernel
theorem zd_Reader_readFlag_10 : decode ze_Reader_readFlag 10 = .ok (.ireturn, 1) := by decide +kernel
theorem zd_Reader_readFlag_11 : decode ze_Reader_readFlag 11 = .ok (.aload_n 0, 1) := by decide +kernel
theorem zd_Reader_readFlag_12 : decode ze_Reader_readFlag 12 = .ok (.getfield 9, 3) := by decide +kernel
theorem zd_Reader_readFlag_15 : decode ze_Reader_readFlag 15 = .ok (.istore_n 2, 1) := by decide +kernel
theorem zd_Reader_readFlag_16 : decode ze_Reader_readFlag 16 = .ok (.aload_n 0, 1) := by decide +kernel
theorem zd_Reader_readFlag_17 : decode ze_Reader_readFlag 17 = .ok (.iconst 1, 1) := by decide +kernel
theorem zd_Reader_readFlag_18 : decode ze_Reader_readFlag 18 = .ok (.iload_n 1, 1) := by decide +kernel
theorem zd_Reader_readFlag_19 : decode ze_Reader_readFlag 19 = .ok (.invokevirtual 32, 3) := by decide +kernel
theorem zd_Reader_readFlag_22 : decode ze_Reader_readFlag 22 = .ok (.istore_n 3, 1) := by decide +kernel
theorem zd_Reader_readFlag_23 : decode ze_Reader_readFlag 23 = .ok (.aload_n 0, 1) := by decide +kernel
theorem zd_Reader_readFlag_24 : decode ze_Reader_readFlag 24 = .ok (.getfield 15, 3) := by decide +kernel
theorem zd_Reader_readFlag_27 : decode ze_Reader_readFlag 27 = .ok (.ifCond .eq 5, 3) := by decide +kernel
theorem zd_Reader_readFlag_30 : decode ze_Reader_readFlag 30 = .ok (.iconst 0, 1) := by decide +kernel
theorem zd_Reader_readFlag_31 : decode ze_Reader_readFlag 31 = .ok (.ireturn, 1) := by decide +kernel
theorem zd_Reader_readFlag_32 : decode ze_Reader_readFlag 32 = .ok (.iload_n 3, 1) := by decide +kernel
theorem zd_Reader_readFlag_33 : decode ze_Reader_readFlag 33 = .ok (.aload_n 0, 1) := by decide +kernel
theorem zd_Reader_readFlag_34 : decode ze_Reader_readFlag 34 = .ok (.getfield 9, 3) := by decide +kernel
theorem zd_Reader_readFlag_37 : decode ze_Reader_readFlag 37 = .ok (.isub, 1) := by decide +kernel
theorem zd_Reader_readFlag_38 : decode ze_Reader_readFlag 38 = .ok (.iconst 1, 1) := by decide +kernel
theorem zd_Reader_readFlag_39 : decode ze_Reader_readFlag 39 = .ok (.if_icmp .ne 21, 3) := by decide +kernel
theorem zd_Reader_readFlag_42 : decode ze_Reader_readFlag 42 = .ok (.aload_n 0, 1) := by decide +kernel
theorem zd_Reader_readFlag_43 : decode ze_Reader_readFlag 43 = .ok (.getfield 18, 3) := by decide +kernel
theorem zd_Reader_readFlag_46 : decode ze_Reader_readFlag 46 = .ok (.getfield 166, 3) := by decide +kernel
theorem zd_Reader_readFlag_49 : decode ze_Reader_readFlag 49 = .ok (.aload_n 0, 1) := by decide +kernel
theorem zd_Reader_readFlag_50 : decode ze_Reader_readFlag 50 = .ok (.getfield 9, 3) := by decide +kernel
theorem zd_Reader_readFlag_53 : decode ze_Reader_readFlag 53 = .ok (.iaload, 1) := by decide +kernel
theorem zd_Reader_readFlag_54 : decode ze_Reader_readFlag 54 = .ok (.sipush 255, 3) := by decide +kernel
theorem zd_Reader_readFlag_57 : decode ze_Reader_readFlag 57 = .ok (.if_icmp .eq 10, 3) := by decide +kernel
theorem zd_Reader_readFlag_60 : decode ze_Reader_readFlag 60 = .ok (.aload_n 0, 1) := by decide +kernel
theorem zd_Reader_readFlag_61 : decode ze_Reader_readFlag 61 = .ok (.iconst 4, 1) := by decide +kernel
theorem zd_Reader_readFlag_62 : decode ze_Reader_readFlag 62 = .ok (.iload_n 2, 1) := by decide +kernel
theorem zd_Reader_readFlag_63 : decode ze_Reader_readFlag 63 = .ok (.invokevirtual 113, 3) := by decide +kernel
theorem zd_Reader_readFlag_66 : decode ze_Reader_readFlag 66 = .ok (.pop, 1) := by decide +kernel
theorem zd_Reader_readFlag_67 : decode ze_Reader_readFlag 67 = .ok (.aload_n 0, 1) := by decide +kernel
theorem zd_Reader_readFlag_68 : decode ze_Reader_readFlag 68 = .ok (.iload_n 3, 1) := by decide +kernel
theorem zd_Reader_readFlag_69 : decode ze_Reader_readFlag 69 = .ok (.putfield 9, 3) := by decide +kernel
theorem zd_Reader_readFlag_72 : decode ze_Reader_readFlag 72 = .ok (.iconst 1, 1) := by decide +kernel
theorem zd_Reader_readFlag_73 : decode ze_Reader_readFlag 73 = .ok (.ireturn, 1) := by decide +kernel
theorem zd_Reader_skipOpaque_0 : decode ze_Reader_skipOpaque 0 = .ok (.aload_n 0, 1) := by decide +kernel
theorem zd_Reader_skipOpaque_1 : decode ze_Reader_skipOpaque 1 = .ok (.iconst 4, 1) := by decide +kernel
theorem zd_Reader_skipOpaque_2 : decode ze_Reader_skipOpaque 2 = .ok (.iload_n 1, 1) := by decide +kernel
theorem zd_Reader_skipOpaque_3 : decode ze_Reader_skipOpaque 3 = .ok (.invokevirtual 32, 3) := by decide +kernel
theorem zd_Reader_skipOpaque_6 : decode ze_Reader_skipOpaque 6 = .ok (.istore_n 2, 1) := by decide +kernel
theorem zd_Reader_skipOpaque_7 : decode ze_Reader_skipOpaque 7 = .ok (.aload_n 0, 1) := by decide +kernel
theorem zd_Reader_skipOpaque_8 : decode ze_Reader_skipOpaque 8 = .ok (.getfield 15, 3) := by decide +kernel
theorem zd_Reader_skipOpaque_11 : decode ze_Reader_skipOpaque 11 = .ok (.ifCond .ne 8, 3) := by decide +kernel
theorem zd_Reader_skipOpaque_14 : decode ze_Reader_skipOpaque 14 = .ok (.aload_n 0, 1) := by decide +kernel
theorem zd_Reader_skipOpaque_15 : decode ze_Reader_skipOpaque 15 = .ok (.iload_n 2, 1) := by decide +kernel
theorem zd_Reader_skipOpaque_16 : decode ze_Reader_skipOpaque 16 = .ok (.putfield 9, 3) := by decide +kernel
theorem zd_Reader_skipOpaque_19 : decode ze_Reader_skipOpaque 19 = .ok (.return_, 1) := by decide +kernel
theorem zd_Reader_readRealm_0 : decode ze_Reader_readRealm 0 = .ok (.aload_n 0, 1) := by decide +kernel
theorem zd_Reader_readRealm_1 : decode ze_Reader_readRealm 1 = .ok (.getfield 9, 3) := by decide +kernel
theorem zd_Reader_readRealm_4 : decode ze_Reader_readRealm 4 = .ok (.istore_n 3, 1) := by decide +kernel
theorem zd_Reader_readRealm_5 : decode ze_Reader_readRealm 5 = .ok (.aload_n 0, 1) := by decide +kernel
theorem zd_Reader_readRealm_6 : decode ze_Reader_readRealm 6 = .ok (.bipush 48, 2) := by decide +kernel
theorem zd_Reader_readRealm_8 : decode ze_Reader_readRealm 8 = .ok (.iload_n 2, 1) := by decide +kernel
theorem zd_Reader_readRealm_9 : decode ze_Reader_readRealm 9 = .ok (.invokevirtual 32, 3) := by decide +kernel
theorem zd_Reader_readRealm_12 : decode ze_Reader_readRealm 12 = .ok (.istore 4, 2) := by decide +kernel
theorem zd_Reader_readRealm_14 : decode ze_Reader_readRealm 14 = .ok (.aload_n 0, 1) := by decide +kernel
theorem zd_Reader_readRealm_15 : decode ze_Reader_readRealm 15 = .ok (.getfield 9, 3) := by decide +kernel
theorem zd_Reader_readRealm_18 : decode ze_Reader_readRealm 18 = .ok (.iload 4, 2) := by decide +kernel
theorem zd_Reader_readRealm_20 : decode ze_Reader_readRealm 20 = .ok (.if_icmp .ne 10, 3) := by decide +kernel
theorem zd_Reader_readRealm_23 : decode ze_Reader_readRealm 23 = .ok (.aload_n 0, 1) := by decide +kernel
theorem zd_Reader_readRealm_24 : decode ze_Reader_readRealm 24 = .ok (.iconst 4, 1) := by decide +kernel
theorem zd_Reader_readRealm_25 : decode ze_Reader_readRealm 25 = .ok (.iload_n 3, 1) := by decide +kernel
theorem zd_Reader_readRealm_26 : decode ze_Reader_readRealm 26 = .ok (.invokevirtual 113, 3) := by decide +kernel
theorem zd_Reader_readRealm_29 : decode ze_Reader_readRealm 29 = .ok (.pop, 1) := by decide +kernel
theorem zd_Reader_readRealm_30 : decode ze_Reader_readRealm 30 = .ok (.aload_n 0, 1) := by decide +kernel
theorem zd_Reader_readRealm_31 : decode ze_Reader_readRealm 31 = .ok (.sipush 128, 3) := by decide +kernel
theorem zd_Reader_readRealm_34 : decode ze_Reader_readRealm 34 = .ok (.iload 4, 2) := by decide +kernel
theorem zd_Reader_readRealm_36 : decode ze_Reader_readRealm 36 = .ok (.invokevirtual 66, 3) := by decide +kernel
theorem zd_Reader_readRealm_39 : decode ze_Reader_readRealm 39 = .ok (.ifCond .eq 16, 3) := by decide +kernel
theorem zd_Reader_readRealm_42 : decode ze_Reader_readRealm 42 = .ok (.aload_n 1, 1) := by decide +kernel
theorem zd_Reader_readRealm_43 : decode ze_Reader_readRealm 43 = .ok (.aload_n 0, 1) := by decide +kernel
theorem zd_Reader_readRealm_44 : decode ze_Reader_readRealm 44 = .ok (.sipush 128, 3) := by decide +kernel
theorem zd_Reader_readRealm_47 : decode ze_Reader_readRealm 47 = .ok (.iload 4, 2) := by decide +kernel
theorem zd_Reader_readRealm_49 : decode ze_Reader_readRealm 49 = .ok (.invokevirtual 44, 3) := by decide +kernel
theorem zd_Reader_readRealm_52 : decode ze_Reader_readRealm 52 = .ok (.putfield 157, 3) := by decide +kernel
theorem zd_Reader_readRealm_55 : decode ze_Reader_readRealm 55 = .ok (.aload_n 0, 1) := by decide +kernel
theorem zd_Reader_readRealm_56 : decode ze_Reader_readRealm 56 = .ok (.sipush 129, 3) := by decide +kernel
theorem zd_Reader_readRealm_59 : decode ze_Reader_readRealm 59 = .ok (.iload 4, 2) := by decide +kernel
theorem zd_Reader_readRealm_61 : decode ze_Reader_readRealm 61 = .ok (.invokevirtual 66, 3) := by decide +kernel
theorem zd_Reader_readRealm_64 : decode ze_Reader_readRealm 64 = .ok (.ifCond .eq 16, 3) := by decide +kernel
theorem zd_Reader_readRealm_67 : decode ze_Reader_readRealm 67 = .ok (.aload_n 1, 1) := by decide +kernel
theorem zd_Reader_readRealm_68 : decode ze_Reader_readRealm 68 = .ok (.aload_n 0, 1) := by decide +kernel
theorem zd_Reader_readRealm_69 : decode ze_Reader_readRealm 69 = .ok (.sipush 129, 3) := by decide +kernel
theorem zd_Reader_readRealm_72 : decode ze_Reader_readRealm 72 = .ok (.iload 4, 2) := by decide +kernel
theorem zd_Reader_readRealm_74 : decode ze_Reader_readRealm 74 = .ok (.invokevirtual 44, 3) := by decide +kernel
theorem zd_Reader_readRealm_77 : decode ze_Reader_readRealm 77 = .ok (.putfield 160, 3) := by decide +kernel
theorem zd_Reader_readRealm_80 : decode ze_Reader_readRealm 80 = .ok (.aload_n 0, 1) := by decide +kernel
theorem zd_Reader_readRealm_81 : decode ze_Reader_readRealm 81 = .ok (.iload 4, 2) := by decide +kernel
theorem zd_Reader_readRealm_83 : decode ze_Reader_readRealm 83 = .ok (.invokevirtual 74, 3) := by decide +kernel
theorem zd_Reader_readRealm_86 : decode ze_Reader_readRealm 86 = .ok (.return_, 1) := by decide +kernel
theorem zd_Reader_readUsage_0 : decode ze_Reader_readUsage 0 = .ok (.aload_n 0, 1) := by decide +kernel
theorem zd_Reader_readUsage_1 : decode ze_Reader_readUsage 1 = .ok (.getfield 9, 3) := by decide +kernel
theorem zd_Reader_readUsage_4 : decode ze_Reader_readUsage 4 = .ok (.istore_n 3, 1) := by decide +kernel
theorem zd_Reader_readUsage_5 : decode ze_Reader_readUsage 5 = .ok (.aload_n 0, 1) := by decide +kernel
theorem zd_Reader_readUsage_6 : decode ze_Reader_readUsage 6 = .ok (.iload_n 2, 1) := by decide +kernel
theorem zd_Reader_readUsage_7 : decode ze_Reader_readUsage 7 = .ok (.invokevirtual 36, 3) := by decide +kernel
theorem zd_Reader_readUsage_10 : decode ze_Reader_readUsage 10 = .ok (.lstore 4, 2) := by decide +kernel
theorem zd_Reader_readUsage_12 : decode ze_Reader_readUsage 12 = .ok (.lload 4, 2) := by decide +kernel
theorem zd_Reader_readUsage_14 : decode ze_Reader_readUsage 14 = .ok (.lconst 1, 1) := by decide +kernel
theorem zd_Reader_readUsage_15 : decode ze_Reader_readUsage 15 = .ok (.lcmp, 1) := by decide +kernel
theorem zd_Reader_readUsage_16 : decode ze_Reader_readUsage 16 = .ok (.ifCond .lt 12, 3) := by decide +kernel
theorem zd_Reader_readUsage_19 : decode ze_Reader_readUsage 19 = .ok (.lload 4, 2) := by decide +kernel
theorem zd_Reader_readUsage_21 : decode ze_Reader_readUsage 21 = .ok (.ldc2_w 152, 3) := by decide +kernel
theorem zd_Reader_readUsage_24 : decode ze_Reader_readUsage 24 = .ok (.lcmp, 1) := by decide +kernel
theorem zd_Reader_readUsage_25 : decode ze_Reader_readUsage 25 = .ok (.ifCond .le 10, 3) := by decide +kernel
theorem zd_Reader_readUsage_28 : decode ze_Reader_readUsage 28 = .ok (.aload_n 0, 1) := by decide +kernel
theorem zd_Reader_readUsage_29 : decode ze_Reader_readUsage 29 = .ok (.iconst 4, 1) := by decide +kernel
theorem zd_Reader_readUsage_30 : decode ze_Reader_readUsage 30 = .ok (.iload_n 3, 1) := by decide +kernel
theorem zd_Reader_readUsage_31 : decode ze_Reader_readUsage 31 = .ok (.invokevirtual 113, 3) := by decide +kernel
theorem zd_Reader_readUsage_34 : decode ze_Reader_readUsage 34 = .ok (.pop, 1) := by decide +kernel
theorem zd_Reader_readUsage_35 : decode ze_Reader_readUsage 35 = .ok (.aload_n 1, 1) := by decide +kernel
theorem zd_Reader_readUsage_36 : decode ze_Reader_readUsage 36 = .ok (.lload 4, 2) := by decide +kernel
theorem zd_Reader_readUsage_38 : decode ze_Reader_readUsage 38 = .ok (.putfield 154, 3) := by decide +kernel
theorem zd_Reader_readUsage_41 : decode ze_Reader_readUsage 41 = .ok (.return_, 1) := by decide +kernel
theorem zd_Reader_readBasic_0 : decode ze_Reader_readBasic 0 = .ok (.aload_n 0, 1) := by decide +kernel
theorem zd_Reader_readBasic_1 : decode ze_Reader_readBasic 1 = .ok (.bipush 48, 2) := by decide +kernel
theorem zd_Reader_readBasic_3 : decode ze_Reader_readBasic 3 = .ok (.iload_n 2, 1) := by decide +kernel
theorem zd_Reader_readBasic_4 : decode ze_Reader_readBasic 4 = .ok (.invokevirtual 32, 3) := by decide +kernel
theorem zd_Reader_readBasic_7 : decode ze_Reader_readBasic 7 = .ok (.istore_n 3, 1) := by decide +kernel
theorem zd_Reader_readBasic_8 : decode ze_Reader_readBasic 8 = .ok (.aload_n 1, 1) := by decide +kernel
theorem zd_Reader_readBasic_9 : decode ze_Reader_readBasic 9 = .ok (.iconst 1, 1) := by decide +kernel
theorem zd_Reader_readBasic_10 : decode ze_Reader_readBasic 10 = .ok (.putfield 143, 3) := by decide +kernel
theorem zd_Reader_readBasic_13 : decode ze_Reader_readBasic 13 = .ok (.aload_n 1, 1) := by decide +kernel
theorem zd_Reader_readBasic_14 : decode ze_Reader_readBasic 14 = .ok (.aload_n 0, 1) := by decide +kernel
theorem zd_Reader_readBasic_15 : decode ze_Reader_readBasic 15 = .ok (.iload_n 3, 1) := by decide +kernel
theorem zd_Reader_readBasic_16 : decode ze_Reader_readBasic 16 = .ok (.invokevirtual 116, 3) := by decide +kernel
theorem zd_Reader_readBasic_19 : decode ze_Reader_readBasic 19 = .ok (.putfield 146, 3) := by decide +kernel
theorem zd_Reader_readBasic_22 : decode ze_Reader_readBasic 22 = .ok (.aload_n 1, 1) := by decide +kernel
theorem zd_Reader_readBasic_23 : decode ze_Reader_readBasic 23 = .ok (.getfield 146, 3) := by decide +kernel
theorem zd_Reader_readBasic_26 : decode ze_Reader_readBasic 26 = .ok (.ifCond .eq 21, 3) := by decide +kernel
theorem zd_Reader_readBasic_29 : decode ze_Reader_readBasic 29 = .ok (.aload_n 0, 1) := by decide +kernel
theorem zd_Reader_readBasic_30 : decode ze_Reader_readBasic 30 = .ok (.iconst 2, 1) := by decide +kernel
theorem zd_Reader_readBasic_31 : decode ze_Reader_readBasic 31 = .ok (.iload_n 3, 1) := by decide +kernel
theorem zd_Reader_readBasic_32 : decode ze_Reader_readBasic 32 = .ok (.invokevirtual 66, 3) := by decide +kernel
theorem zd_Reader_readBasic_35 : decode ze_Reader_readBasic 35 = .ok (.ifCond .eq 12, 3) := by decide +kernel
theorem zd_Reader_readBasic_38 : decode ze_Reader_readBasic 38 = .ok (.aload_n 1, 1) := by decide +kernel
theorem zd_Reader_readBasic_39 : decode ze_Reader_readBasic 39 = .ok (.aload_n 0, 1) := by decide +kernel
theorem zd_Reader_readBasic_40 : decode ze_Reader_readBasic 40 = .ok (.iload_n 3, 1) := by decide +kernel
theorem zd_Reader_readBasic_41 : decode ze_Reader_readBasic 41 = .ok (.invokevirtual 36, 3) := by decide +kernel
theorem zd_Reader_readBasic_44 : decode ze_Reader_readBasic 44 = .ok (.putfield 149, 3) := by decide +kernel
theorem zd_Reader_readBasic_47 : decode ze_Reader_readBasic 47 = .ok (.aload_n 0, 1) := by decide +kernel
theorem zd_Reader_readBasic_48 : decode ze_Reader_readBasic 48 = .ok (.iload_n 3, 1) := by decide +kernel
theorem zd_Reader_readBasic_49 : decode ze_Reader_readBasic 49 = .ok (.invokevirtual 74, 3) := by decide +kernel
theorem zd_Reader_readBasic_52 : decode ze_Reader_readBasic 52 = .ok (.return_, 1) := by decide +kernel
theorem zd_Reader_readExtension_0 : decode ze_Reader_readExtension 0 = .ok (.aload_n 0, 1) := by decide +kernel
theorem zd_Reader_readExtension_1 : decode ze_Reader_readExtension 1 = .ok (.bipush 48, 2) := by decide +kernel
theorem zd_Reader_readExtension_3 : decode ze_Reader_readExtension 3 = .ok (.iload 4, 2) := by decide +kernel
theorem zd_Reader_readExtension_5 : decode ze_Reader_readExtension 5 = .ok (.invokevirtual 32, 3) := by decide +kernel
theorem zd_Reader_readExtension_8 : decode ze_Reader_readExtension 8 = .ok (.istore 5, 2) := by decide +kernel
theorem zd_Reader_readExtension_10 : decode ze_Reader_readExtension 10 = .ok (.aload_n 0, 1) := by decide +kernel
theorem zd_Reader_readExtension_11 : decode ze_Reader_readExtension 11 = .ok (.getfield 9, 3) := by decide +kernel
theorem zd_Reader_readExtension_14 : decode ze_Reader_readExtension 14 = .ok (.istore 6, 2) := by decide +kernel
theorem zd_Reader_readExtension_16 : decode ze_Reader_readExtension 16 = .ok (.aload_n 0, 1) := by decide +kernel
theorem zd_Reader_readExtension_17 : decode ze_Reader_readExtension 17 = .ok (.iload 5, 2) := by decide +kernel
theorem zd_Reader_readExtension_19 : decode ze_Reader_readExtension 19 = .ok (.invokevirtual 36, 3) := by decide +kernel
theorem zd_Reader_readExtension_22 : decode ze_Reader_readExtension 22 = .ok (.lstore 7, 2) := by decide +kernel
theorem zd_Reader_readExtension_24 : decode ze_Reader_readExtension 24 = .ok (.lload 7, 2) := by decide +kernel
theorem zd_Reader_readExtension_26 : decode ze_Reader_readExtension 26 = .ok (.lload_n 2, 1) := by decide +kernel
theorem zd_Reader_readExtension_27 : decode ze_Reader_readExtension 27 = .ok (.lcmp, 1) := by decide +kernel
theorem zd_Reader_readExtension_28 : decode ze_Reader_readExtension 28 = .ok (.ifCond .gt 11, 3) := by decide +kernel
theorem zd_Reader_readExtension_31 : decode ze_Reader_readExtension 31 = .ok (.aload_n 0, 1) := by decide +kernel
theorem zd_Reader_readExtension_32 : decode ze_Reader_readExtension 32 = .ok (.iconst 4, 1) := by decide +kernel
theorem zd_Reader_readExtension_33 : decode ze_Reader_readExtension 33 = .ok (.iload 6, 2) := by decide +kernel
theorem zd_Reader_readExtension_35 : decode ze_Reader_readExtension 35 = .ok (.invokevirtual 113, 3) := by decide +kernel
theorem zd_Reader_readExtension_38 : decode ze_Reader_readExtension 38 = .ok (.pop, 1) := by decide +kernel
theorem zd_Reader_readExtension_39 : decode ze_Reader_readExtension 39 = .ok (.aload_n 0, 1) := by decide +kernel
theorem zd_Reader_readExtension_40 : decode ze_Reader_readExtension 40 = .ok (.iload 5, 2) := by decide +kernel
theorem zd_Reader_readExtension_42 : decode ze_Reader_readExtension 42 = .ok (.invokevirtual 116, 3) := by decide +kernel
theorem zd_Reader_readExtension_45 : decode ze_Reader_readExtension 45 = .ok (.istore 9, 2) := by decide +kernel
theorem zd_Reader_readExtension_47 : decode ze_Reader_readExtension 47 = .ok (.lload 7, 2) := by decide +kernel
theorem zd_Reader_readExtension_49 : decode ze_Reader_readExtension 49 = .ok (.lconst 1, 1) := by decide +kernel
theorem zd_Reader_readExtension_50 : decode ze_Reader_readExtension 50 = .ok (.lcmp, 1) := by decide +kernel
theorem zd_Reader_readExtension_51 : decode ze_Reader_readExtension 51 = .ok (.ifCond .ne 13, 3) := by decide +kernel
theorem zd_Reader_readExtension_54 : decode ze_Reader_readExtension 54 = .ok (.aload_n 0, 1) := by decide +kernel
theorem zd_Reader_readExtension_55 : decode ze_Reader_readExtension 55 = .ok (.aload_n 1, 1) := by decide +kernel
theorem zd_Reader_readExtension_56 : decode ze_Reader_readExtension 56 = .ok (.iload 5, 2) := by decide +kernel
theorem zd_Reader_readExtension_58 : decode ze_Reader_readExtension 58 = .ok (.invokevirtual 120, 3) := by decide +kernel
theorem zd_Reader_readExtension_61 : decode ze_Reader_readExtension 61 = .ok (.goto 68, 3) := by decide +kernel
theorem zd_Reader_readExtension_64 : decode ze_Reader_readExtension 64 = .ok (.lload 7, 2) := by decide +kernel
theorem zd_Reader_readExtension_66 : decode ze_Reader_readExtension 66 = .ok (.ldc2_w 123, 3) := by decide +kernel
theorem zd_Reader_readExtension_69 : decode ze_Reader_readExtension 69 = .ok (.lcmp, 1) := by decide +kernel
theorem zd_Reader_readExtension_70 : decode ze_Reader_readExtension 70 = .ok (.ifCond .ne 13, 3) := by decide +kernel
theorem zd_Reader_readExtension_73 : decode ze_Reader_readExtension 73 = .ok (.aload_n 0, 1) := by decide +kernel
theorem zd_Reader_readExtension_74 : decode ze_Reader_readExtension 74 = .ok (.aload_n 1, 1) := by decide +kernel
theorem zd_Reader_readExtension_75 : decode ze_Reader_readExtension 75 = .ok (.iload 5, 2) := by decide +kernel
theorem zd_Reader_readExtension_77 : decode ze_Reader_readExtension 77 = .ok (.invokevirtual 125, 3) := by decide +kernel
theorem zd_Reader_readExtension_80 : decode ze_Reader_readExtension 80 = .ok (.goto 49, 3) := by decide +kernel
theorem zd_Reader_readExtension_83 : decode ze_Reader_readExtension 83 = .ok (.lload 7, 2) := by decide +kernel
theorem zd_Reader_readExtension_85 : decode ze_Reader_readExtension 85 = .ok (.ldc2_w 128, 3) := by decide +kernel
theorem zd_Reader_readExtension_88 : decode ze_Reader_readExtension 88 = .ok (.lcmp, 1) := by decide +kernel
theorem zd_Reader_readExtension_89 : decode ze_Reader_readExtension 89 = .ok (.ifCond .ne 13, 3) := by decide +kernel
theorem zd_Reader_readExtension_92 : decode ze_Reader_readExtension 92 = .ok (.aload_n 0, 1) := by decide +kernel
theorem zd_Reader_readExtension_93 : decode ze_Reader_readExtension 93 = .ok (.aload_n 1, 1) := by decide +kernel
theorem zd_Reader_readExtension_94 : decode ze_Reader_readExtension 94 = .ok (.iload 5, 2) := by decide +kernel
theorem zd_Reader_readExtension_96 : decode ze_Reader_readExtension 96 = .ok (.invokevirtual 130, 3) := by decide +kernel
theorem zd_Reader_readExtension_99 : decode ze_Reader_readExtension 99 = .ok (.goto 30, 3) := by decide +kernel
theorem zd_Reader_readExtension_102 : decode ze_Reader_readExtension 102 = .ok (.aload_n 0, 1) := by decide +kernel
theorem zd_Reader_readExtension_103 : decode ze_Reader_readExtension 103 = .ok (.iload 5, 2) := by decide +kernel
theorem zd_Reader_readExtension_105 : decode ze_Reader_readExtension 105 = .ok (.invokevirtual 133, 3) := by decide +kernel
theorem zd_Reader_readExtension_108 : decode ze_Reader_readExtension 108 = .ok (.aload_n 1, 1) := by decide +kernel
theorem zd_Reader_readExtension_109 : decode ze_Reader_readExtension 109 = .ok (.aload_n 1, 1) := by decide +kernel
theorem zd_Reader_readExtension_110 : decode ze_Reader_readExtension 110 = .ok (.getfield 136, 3) := by decide +kernel
theorem zd_Reader_readExtension_113 : decode ze_Reader_readExtension 113 = .ok (.ifCond .ne 8, 3) := by decide +kernel
theorem zd_Reader_readExtension_116 : decode ze_Reader_readExtension 116 = .ok (.iload 9, 2) := by decide +kernel
theorem zd_Reader_readExtension_118 : decode ze_Reader_readExtension 118 = .ok (.ifCond .eq 7, 3) := by decide +kernel
theorem zd_Reader_readExtension_121 : decode ze_Reader_readExtension 121 = .ok (.iconst 1, 1) := by decide +kernel
theorem zd_Reader_readExtension_122 : decode ze_Reader_readExtension 122 = .ok (.goto 4, 3) := by decide +kernel
theorem zd_Reader_readExtension_125 : decode ze_Reader_readExtension 125 = .ok (.iconst 0, 1) := by decide +kernel
theorem zd_Reader_readExtension_126 : decode ze_Reader_readExtension 126 = .ok (.putfield 136, 3) := by decide +kernel
theorem zd_Reader_readExtension_129 : decode ze_Reader_readExtension 129 = .ok (.aload_n 1, 1) := by decide +kernel
theorem zd_Reader_readExtension_130 : decode ze_Reader_readExtension 130 = .ok (.dup, 1) := by decide +kernel
theorem zd_Reader_readExtension_131 : decode ze_Reader_readExtension 131 = .ok (.getfield 140, 3) := by decide +kernel
theorem zd_Reader_readExtension_134 : decode ze_Reader_readExtension 134 = .ok (.iconst 1, 1) := by decide +kernel
theorem zd_Reader_readExtension_135 : decode ze_Reader_readExtension 135 = .ok (.iadd, 1) := by decide +kernel
theorem zd_Reader_readExtension_136 : decode ze_Reader_readExtension 136 = .ok (.putfield 140, 3) := by decide +kernel
theorem zd_Reader_readExtension_139 : decode ze_Reader_readExtension 139 = .ok (.aload_n 0, 1) := by decide +kernel
theorem zd_Reader_readExtension_140 : decode ze_Reader_readExtension 140 = .ok (.iload 5, 2) := by decide +kernel
theorem zd_Reader_readExtension_142 : decode ze_Reader_readExtension 142 = .ok (.invokevirtual 74, 3) := by decide +kernel
theorem zd_Reader_readExtension_145 : decode ze_Reader_readExtension 145 = .ok (.lload 7, 2) := by decide +kernel
theorem zd_Reader_readExtension_147 : decode ze_Reader_readExtension 147 = .ok (.lreturn, 1) := by decide +kernel
theorem zd_Reader_readExtensions_0 : decode ze_Reader_readExtensions 0 = .ok (.aload_n 0, 1) := by decide +kernel
theorem zd_Reader_readExtensions_1 : decode ze_Reader_readExtensions 1 = .ok (.bipush 48, 2) := by decide +kernel
theorem zd_Reader_readExtensions_3 : decode ze_Reader_readExtensions 3 = .ok (.iload_n 2, 1) := by decide +kernel
theorem zd_Reader_readExtensions_4 : decode ze_Reader_readExtensions 4 = .ok (.invokevirtual 32, 3) := by decide +kernel
theorem zd_Reader_readExtensions_7 : decode ze_Reader_readExtensions 7 = .ok (.istore_n 3, 1) := by decide +kernel
theorem zd_Reader_readExtensions_8 : decode ze_Reader_readExtensions 8 = .ok (.ldc2_w 107, 3) := by decide +kernel
theorem zd_Reader_readExtensions_11 : decode ze_Reader_readExtensions 11 = .ok (.lstore 4, 2) := by decide +kernel
theorem zd_Reader_readExtensions_13 : decode ze_Reader_readExtensions 13 = .ok (.iconst 0, 1) := by decide +kernel
theorem zd_Reader_readExtensions_14 : decode ze_Reader_readExtensions 14 = .ok (.istore 6, 2) := by decide +kernel
theorem zd_Reader_readExtensions_16 : decode ze_Reader_readExtensions 16 = .ok (.iload 6, 2) := by decide +kernel
theorem zd_Reader_readExtensions_18 : decode ze_Reader_readExtensions 18 = .ok (.sipush 200, 3) := by decide +kernel
theorem zd_Reader_readExtensions_21 : decode ze_Reader_readExtensions 21 = .ok (.if_icmp .ge 34, 3) := by decide +kernel
theorem zd_Reader_readExtensions_24 : decode ze_Reader_readExtensions 24 = .ok (.iload 6, 2) := by decide +kernel
theorem zd_Reader_readExtensions_26 : decode ze_Reader_readExtensions 26 = .ok (.ifCond .eq 13, 3) := by decide +kernel
theorem zd_Reader_readExtensions_29 : decode ze_Reader_readExtensions 29 = .ok (.aload_n 0, 1) := by decide +kernel
theorem zd_Reader_readExtensions_30 : decode ze_Reader_readExtensions 30 = .ok (.bipush 48, 2) := by decide +kernel
theorem zd_Reader_readExtensions_32 : decode ze_Reader_readExtensions 32 = .ok (.iload_n 3, 1) := by decide +kernel
theorem zd_Reader_readExtensions_33 : decode ze_Reader_readExtensions 33 = .ok (.invokevirtual 66, 3) := by decide +kernel
theorem zd_Reader_readExtensions_36 : decode ze_Reader_readExtensions 36 = .ok (.ifCond .eq 19, 3) := by decide +kernel
theorem zd_Reader_readExtensions_39 : decode ze_Reader_readExtensions 39 = .ok (.aload_n 0, 1) := by decide +kernel
theorem zd_Reader_readExtensions_40 : decode ze_Reader_readExtensions 40 = .ok (.aload_n 1, 1) := by decide +kernel
theorem zd_Reader_readExtensions_41 : decode ze_Reader_readExtensions 41 = .ok (.lload 4, 2) := by decide +kernel
theorem zd_Reader_readExtensions_43 : decode ze_Reader_readExtensions 43 = .ok (.iload_n 3, 1) := by decide +kernel
theorem zd_Reader_readExtensions_44 : decode ze_Reader_readExtensions 44 = .ok (.invokevirtual 109, 3) := by decide +kernel
theorem zd_Reader_readExtensions_47 : decode ze_Reader_readExtensions 47 = .ok (.lstore 4, 2) := by decide +kernel
theorem zd_Reader_readExtensions_49 : decode ze_Reader_readExtensions 49 = .ok (.iinc 6 1, 3) := by decide +kernel
theorem zd_Reader_readExtensions_52 : decode ze_Reader_readExtensions 52 = .ok (.goto (-36), 3) := by decide +kernel
theorem zd_Reader_readExtensions_55 : decode ze_Reader_readExtensions 55 = .ok (.aload_n 0, 1) := by decide +kernel
theorem zd_Reader_readExtensions_56 : decode ze_Reader_readExtensions 56 = .ok (.iload_n 3, 1) := by decide +kernel
theorem zd_Reader_readExtensions_57 : decode ze_Reader_readExtensions 57 = .ok (.invokevirtual 74, 3) := by decide +kernel
theorem zd_Reader_readExtensions_60 : decode ze_Reader_readExtensions 60 = .ok (.return_, 1) := by decide +kernel
theorem zd_Reader_readCertificate_0 : decode ze_Reader_readCertificate 0 = .ok (.aload_n 1, 1) := by decide +kernel
theorem zd_Reader_readCertificate_1 : decode ze_Reader_readCertificate 1 = .ok (.invokevirtual 22, 3) := by decide +kernel
theorem zd_Reader_readCertificate_4 : decode ze_Reader_readCertificate 4 = .ok (.aload_n 0, 1) := by decide +kernel
theorem zd_Reader_readCertificate_5 : decode ze_Reader_readCertificate 5 = .ok (.bipush 48, 2) := by decide +kernel
theorem zd_Reader_readCertificate_7 : decode ze_Reader_readCertificate 7 = .ok (.aload_n 0, 1) := by decide +kernel
theorem zd_Reader_readCertificate_8 : decode ze_Reader_readCertificate 8 = .ok (.getfield 18, 3) := by decide +kernel
theorem zd_Reader_readCertificate_11 : decode ze_Reader_readCertificate 11 = .ok (.getfield 27, 3) := by decide +kernel
theorem zd_Reader_readCertificate_14 : decode ze_Reader_readCertificate 14 = .ok (.invokevirtual 32, 3) := by decide +kernel
theorem zd_Reader_readCertificate_17 : decode ze_Reader_readCertificate 17 = .ok (.istore_n 2, 1) := by decide +kernel
theorem zd_Reader_readCertificate_18 : decode ze_Reader_readCertificate 18 = .ok (.aload_n 0, 1) := by decide +kernel
theorem zd_Reader_readCertificate_19 : decode ze_Reader_readCertificate 19 = .ok (.getfield 9, 3) := by decide +kernel
theorem zd_Reader_readCertificate_22 : decode ze_Reader_readCertificate 22 = .ok (.istore_n 3, 1) := by decide +kernel
theorem zd_Reader_readCertificate_23 : decode ze_Reader_readCertificate 23 = .ok (.aload_n 0, 1) := by decide +kernel
theorem zd_Reader_readCertificate_24 : decode ze_Reader_readCertificate 24 = .ok (.bipush 48, 2) := by decide +kernel
theorem zd_Reader_readCertificate_26 : decode ze_Reader_readCertificate 26 = .ok (.iload_n 2, 1) := by decide +kernel
theorem zd_Reader_readCertificate_27 : decode ze_Reader_readCertificate 27 = .ok (.invokevirtual 32, 3) := by decide +kernel
theorem zd_Reader_readCertificate_30 : decode ze_Reader_readCertificate 30 = .ok (.istore 4, 2) := by decide +kernel
theorem zd_Reader_readCertificate_32 : decode ze_Reader_readCertificate 32 = .ok (.aload_n 1, 1) := by decide +kernel
theorem zd_Reader_readCertificate_33 : decode ze_Reader_readCertificate 33 = .ok (.aload_n 0, 1) := by decide +kernel
theorem zd_Reader_readCertificate_34 : decode ze_Reader_readCertificate 34 = .ok (.iload 4, 2) := by decide +kernel
theorem zd_Reader_readCertificate_36 : decode ze_Reader_readCertificate 36 = .ok (.invokevirtual 36, 3) := by decide +kernel
theorem zd_Reader_readCertificate_39 : decode ze_Reader_readCertificate 39 = .ok (.putfield 40, 3) := by decide +kernel
theorem zd_Reader_readCertificate_42 : decode ze_Reader_readCertificate 42 = .ok (.aload_n 1, 1) := by decide +kernel
theorem zd_Reader_readCertificate_43 : decode ze_Reader_readCertificate 43 = .ok (.aload_n 0, 1) := by decide +kernel
theorem zd_Reader_readCertificate_44 : decode ze_Reader_readCertificate 44 = .ok (.bipush 19, 2) := by decide +kernel
theorem zd_Reader_readCertificate_46 : decode ze_Reader_readCertificate 46 = .ok (.iload 4, 2) := by decide +kernel
theorem zd_Reader_readCertificate_48 : decode ze_Reader_readCertificate 48 = .ok (.invokevirtual 44, 3) := by decide +kernel
theorem zd_Reader_readCertificate_51 : decode ze_Reader_readCertificate 51 = .ok (.putfield 48, 3) := by decide +kernel
theorem zd_Reader_readCertificate_54 : decode ze_Reader_readCertificate 54 = .ok (.aload_n 1, 1) := by decide +kernel
theorem zd_Reader_readCertificate_55 : decode ze_Reader_readCertificate 55 = .ok (.aload_n 0, 1) := by decide +kernel
theorem zd_Reader_readCertificate_56 : decode ze_Reader_readCertificate 56 = .ok (.iload 4, 2) := by decide +kernel
theorem zd_Reader_readCertificate_58 : decode ze_Reader_readCertificate 58 = .ok (.invokevirtual 36, 3) := by decide +kernel
theorem zd_Reader_readCertificate_61 : decode ze_Reader_readCertificate 61 = .ok (.putfield 51, 3) := by decide +kernel
theorem zd_Reader_readCertificate_64 : decode ze_Reader_readCertificate 64 = .ok (.aload_n 1, 1) := by decide +kernel
theorem zd_Reader_readCertificate_65 : decode ze_Reader_readCertificate 65 = .ok (.aload_n 0, 1) := by decide +kernel
theorem zd_Reader_readCertificate_66 : decode ze_Reader_readCertificate 66 = .ok (.iload 4, 2) := by decide +kernel
theorem zd_Reader_readCertificate_68 : decode ze_Reader_readCertificate 68 = .ok (.invokevirtual 36, 3) := by decide +kernel
theorem zd_Reader_readCertificate_71 : decode ze_Reader_readCertificate 71 = .ok (.putfield 54, 3) := by decide +kernel
theorem zd_Reader_readCertificate_74 : decode ze_Reader_readCertificate 74 = .ok (.aload_n 1, 1) := by decide +kernel
theorem zd_Reader_readCertificate_75 : decode ze_Reader_readCertificate 75 = .ok (.aload_n 0, 1) := by decide +kernel
theorem zd_Reader_readCertificate_76 : decode ze_Reader_readCertificate 76 = .ok (.bipush 19, 2) := by decide +kernel
theorem zd_Reader_readCertificate_78 : decode ze_Reader_readCertificate 78 = .ok (.iload 4, 2) := by decide +kernel
theorem zd_Reader_readCertificate_80 : decode ze_Reader_readCertificate 80 = .ok (.invokevirtual 44, 3) := by decide +kernel
