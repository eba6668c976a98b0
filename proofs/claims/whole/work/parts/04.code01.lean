theorem zd_Search_isInRealms_10 : decode ze_Search_isInRealms 10 = .ok (.iconst 1, 1) := by decide +kernel
theorem zd_Search_isInRealms_11 : decode ze_Search_isInRealms 11 = .ok (.iadd, 1) := by decide +kernel
theorem zd_Search_isInRealms_12 : decode ze_Search_isInRealms 12 = .ok (.istore 5, 2) := by decide +kernel
theorem zd_Search_isInRealms_14 : decode ze_Search_isInRealms 14 = .ok (.iload 5, 2) := by decide +kernel
theorem zd_Search_isInRealms_16 : decode ze_Search_isInRealms 16 = .ok (.iload_n 2, 1) := by decide +kernel
theorem zd_Search_isInRealms_17 : decode ze_Search_isInRealms 17 = .ok (.iconst 1, 1) := by decide +kernel
theorem zd_Search_isInRealms_18 : decode ze_Search_isInRealms 18 = .ok (.isub, 1) := by decide +kernel
theorem zd_Search_isInRealms_19 : decode ze_Search_isInRealms 19 = .ok (.if_icmp .ge 65, 3) := by decide +kernel
theorem zd_Search_isInRealms_22 : decode ze_Search_isInRealms 22 = .ok (.aload_n 0, 1) := by decide +kernel
theorem zd_Search_isInRealms_23 : decode ze_Search_isInRealms 23 = .ok (.iload 5, 2) := by decide +kernel
theorem zd_Search_isInRealms_25 : decode ze_Search_isInRealms 25 = .ok (.invokevirtual 44, 3) := by decide +kernel
theorem zd_Search_isInRealms_28 : decode ze_Search_isInRealms 28 = .ok (.astore 6, 2) := by decide +kernel
theorem zd_Search_isInRealms_30 : decode ze_Search_isInRealms 30 = .ok (.aload 6, 2) := by decide +kernel
theorem zd_Search_isInRealms_32 : decode ze_Search_isInRealms 32 = .ok (.getfield 137, 3) := by decide +kernel
theorem zd_Search_isInRealms_35 : decode ze_Search_isInRealms 35 = .ok (.lconst 0, 1) := by decide +kernel
theorem zd_Search_isInRealms_36 : decode ze_Search_isInRealms 36 = .ok (.lcmp, 1) := by decide +kernel
theorem zd_Search_isInRealms_37 : decode ze_Search_isInRealms 37 = .ok (.ifCond .eq 17, 3) := by decide +kernel
theorem zd_Search_isInRealms_40 : decode ze_Search_isInRealms 40 = .ok (.lload_n 3, 1) := by decide +kernel
theorem zd_Search_isInRealms_41 : decode ze_Search_isInRealms 41 = .ok (.aload 6, 2) := by decide +kernel
theorem zd_Search_isInRealms_43 : decode ze_Search_isInRealms 43 = .ok (.getfield 137, 3) := by decide +kernel
theorem zd_Search_isInRealms_46 : decode ze_Search_isInRealms 46 = .ok (.invokestatic 140, 3) := by decide +kernel
theorem zd_Search_isInRealms_49 : decode ze_Search_isInRealms 49 = .ok (.ifCond .ne 5, 3) := by decide +kernel
theorem zd_Search_isInRealms_52 : decode ze_Search_isInRealms 52 = .ok (.iconst 0, 1) := by decide +kernel
theorem zd_Search_isInRealms_53 : decode ze_Search_isInRealms 53 = .ok (.ireturn, 1) := by decide +kernel
theorem zd_Search_isInRealms_54 : decode ze_Search_isInRealms 54 = .ok (.aload 6, 2) := by decide +kernel
theorem zd_Search_isInRealms_56 : decode ze_Search_isInRealms 56 = .ok (.getfield 145, 3) := by decide +kernel
theorem zd_Search_isInRealms_59 : decode ze_Search_isInRealms 59 = .ok (.lconst 0, 1) := by decide +kernel
theorem zd_Search_isInRealms_60 : decode ze_Search_isInRealms 60 = .ok (.lcmp, 1) := by decide +kernel
theorem zd_Search_isInRealms_61 : decode ze_Search_isInRealms 61 = .ok (.ifCond .eq 17, 3) := by decide +kernel
theorem zd_Search_isInRealms_64 : decode ze_Search_isInRealms 64 = .ok (.lload_n 3, 1) := by decide +kernel
theorem zd_Search_isInRealms_65 : decode ze_Search_isInRealms 65 = .ok (.aload 6, 2) := by decide +kernel
theorem zd_Search_isInRealms_67 : decode ze_Search_isInRealms 67 = .ok (.getfield 145, 3) := by decide +kernel
theorem zd_Search_isInRealms_70 : decode ze_Search_isInRealms 70 = .ok (.invokestatic 140, 3) := by decide +kernel
theorem zd_Search_isInRealms_73 : decode ze_Search_isInRealms 73 = .ok (.ifCond .eq 5, 3) := by decide +kernel
theorem zd_Search_isInRealms_76 : decode ze_Search_isInRealms 76 = .ok (.iconst 0, 1) := by decide +kernel
theorem zd_Search_isInRealms_77 : decode ze_Search_isInRealms 77 = .ok (.ireturn, 1) := by decide +kernel
theorem zd_Search_isInRealms_78 : decode ze_Search_isInRealms 78 = .ok (.iinc 5 1, 3) := by decide +kernel
theorem zd_Search_isInRealms_81 : decode ze_Search_isInRealms 81 = .ok (.goto (-67), 3) := by decide +kernel
theorem zd_Search_isInRealms_84 : decode ze_Search_isInRealms 84 = .ok (.iconst 1, 1) := by decide +kernel
theorem zd_Search_isInRealms_85 : decode ze_Search_isInRealms 85 = .ok (.ireturn, 1) := by decide +kernel
theorem zd_Certificate_isSelfIssued_0 : decode ze_Certificate_isSelfIssued 0 = .ok (.aload_n 0, 1) := by decide +kernel
theorem zd_Certificate_isSelfIssued_1 : decode ze_Certificate_isSelfIssued 1 = .ok (.getfield 40, 3) := by decide +kernel
theorem zd_Certificate_isSelfIssued_4 : decode ze_Certificate_isSelfIssued 4 = .ok (.aload_n 0, 1) := by decide +kernel
theorem zd_Certificate_isSelfIssued_5 : decode ze_Certificate_isSelfIssued 5 = .ok (.getfield 43, 3) := by decide +kernel
theorem zd_Certificate_isSelfIssued_8 : decode ze_Certificate_isSelfIssued 8 = .ok (.lcmp, 1) := by decide +kernel
theorem zd_Certificate_isSelfIssued_9 : decode ze_Certificate_isSelfIssued 9 = .ok (.ifCond .ne 7, 3) := by decide +kernel
theorem zd_Certificate_isSelfIssued_12 : decode ze_Certificate_isSelfIssued 12 = .ok (.iconst 1, 1) := by decide +kernel
theorem zd_Certificate_isSelfIssued_13 : decode ze_Certificate_isSelfIssued 13 = .ok (.goto 4, 3) := by decide +kernel
theorem zd_Certificate_isSelfIssued_16 : decode ze_Certificate_isSelfIssued 16 = .ok (.iconst 0, 1) := by decide +kernel
theorem zd_Certificate_isSelfIssued_17 : decode ze_Certificate_isSelfIssued 17 = .ok (.ireturn, 1) := by decide +kernel
theorem zd_Search_countBefore_0 : decode ze_Search_countBefore 0 = .ok (.iconst 0, 1) := by decide +kernel
theorem zd_Search_countBefore_1 : decode ze_Search_countBefore 1 = .ok (.istore_n 2, 1) := by decide +kernel
theorem zd_Search_countBefore_2 : decode ze_Search_countBefore 2 = .ok (.iconst 1, 1) := by decide +kernel
theorem zd_Search_countBefore_3 : decode ze_Search_countBefore 3 = .ok (.istore_n 3, 1) := by decide +kernel
theorem zd_Search_countBefore_4 : decode ze_Search_countBefore 4 = .ok (.iload_n 3, 1) := by decide +kernel
theorem zd_Search_countBefore_5 : decode ze_Search_countBefore 5 = .ok (.iload_n 1, 1) := by decide +kernel
theorem zd_Search_countBefore_6 : decode ze_Search_countBefore 6 = .ok (.if_icmp .ge 23, 3) := by decide +kernel
theorem zd_Search_countBefore_9 : decode ze_Search_countBefore 9 = .ok (.aload_n 0, 1) := by decide +kernel
theorem zd_Search_countBefore_10 : decode ze_Search_countBefore 10 = .ok (.iload_n 3, 1) := by decide +kernel
theorem zd_Search_countBefore_11 : decode ze_Search_countBefore 11 = .ok (.invokevirtual 44, 3) := by decide +kernel
theorem zd_Search_countBefore_14 : decode ze_Search_countBefore 14 = .ok (.invokevirtual 148, 3) := by decide +kernel
theorem zd_Search_countBefore_17 : decode ze_Search_countBefore 17 = .ok (.ifCond .ne 6, 3) := by decide +kernel
theorem zd_Search_countBefore_20 : decode ze_Search_countBefore 20 = .ok (.iinc 2 1, 3) := by decide +kernel
theorem zd_Search_countBefore_23 : decode ze_Search_countBefore 23 = .ok (.iinc 3 1, 3) := by decide +kernel
theorem zd_Search_countBefore_26 : decode ze_Search_countBefore 26 = .ok (.goto (-22), 3) := by decide +kernel
theorem zd_Search_countBefore_29 : decode ze_Search_countBefore 29 = .ok (.iload_n 2, 1) := by decide +kernel
theorem zd_Search_countBefore_30 : decode ze_Search_countBefore 30 = .ok (.ireturn, 1) := by decide +kernel
theorem zd_RevokedList_revokes_0 : decode ze_RevokedList_revokes 0 = .ok (.iconst 0, 1) := by decide +kernel
theorem zd_RevokedList_revokes_1 : decode ze_RevokedList_revokes 1 = .ok (.istore 5, 2) := by decide +kernel
theorem zd_RevokedList_revokes_3 : decode ze_RevokedList_revokes 3 = .ok (.iload 5, 2) := by decide +kernel
theorem zd_RevokedList_revokes_5 : decode ze_RevokedList_revokes 5 = .ok (.aload_n 0, 1) := by decide +kernel
theorem zd_RevokedList_revokes_6 : decode ze_RevokedList_revokes 6 = .ok (.getfield 18, 3) := by decide +kernel
theorem zd_RevokedList_revokes_9 : decode ze_RevokedList_revokes 9 = .ok (.if_icmp .ge 35, 3) := by decide +kernel
theorem zd_RevokedList_revokes_12 : decode ze_RevokedList_revokes 12 = .ok (.aload_n 0, 1) := by decide +kernel
theorem zd_RevokedList_revokes_13 : decode ze_RevokedList_revokes 13 = .ok (.getfield 9, 3) := by decide +kernel
theorem zd_RevokedList_revokes_16 : decode ze_RevokedList_revokes 16 = .ok (.iload 5, 2) := by decide +kernel
theorem zd_RevokedList_revokes_18 : decode ze_RevokedList_revokes 18 = .ok (.laload, 1) := by decide +kernel
theorem zd_RevokedList_revokes_19 : decode ze_RevokedList_revokes 19 = .ok (.lload_n 1, 1) := by decide +kernel
theorem zd_RevokedList_revokes_20 : decode ze_RevokedList_revokes 20 = .ok (.lcmp, 1) := by decide +kernel
theorem zd_RevokedList_revokes_21 : decode ze_RevokedList_revokes 21 = .ok (.ifCond .ne 17, 3) := by decide +kernel
theorem zd_RevokedList_revokes_24 : decode ze_RevokedList_revokes 24 = .ok (.aload_n 0, 1) := by decide +kernel
theorem zd_RevokedList_revokes_25 : decode ze_RevokedList_revokes 25 = .ok (.getfield 15, 3) := by decide +kernel
theorem zd_RevokedList_revokes_28 : decode ze_RevokedList_revokes 28 = .ok (.iload 5, 2) := by decide +kernel
theorem zd_RevokedList_revokes_30 : decode ze_RevokedList_revokes 30 = .ok (.laload, 1) := by decide +kernel
theorem zd_RevokedList_revokes_31 : decode ze_RevokedList_revokes 31 = .ok (.lload_n 3, 1) := by decide +kernel
theorem zd_RevokedList_revokes_32 : decode ze_RevokedList_revokes 32 = .ok (.lcmp, 1) := by decide +kernel
theorem zd_RevokedList_revokes_33 : decode ze_RevokedList_revokes 33 = .ok (.ifCond .gt 5, 3) := by decide +kernel
theorem zd_RevokedList_revokes_36 : decode ze_RevokedList_revokes 36 = .ok (.iconst 1, 1) := by decide +kernel
theorem zd_RevokedList_revokes_37 : decode ze_RevokedList_revokes 37 = .ok (.ireturn, 1) := by decide +kernel
theorem zd_RevokedList_revokes_38 : decode ze_RevokedList_revokes 38 = .ok (.iinc 5 1, 3) := by decide +kernel
theorem zd_RevokedList_revokes_41 : decode ze_RevokedList_revokes 41 = .ok (.goto (-38), 3) := by decide +kernel
theorem zd_RevokedList_revokes_44 : decode ze_RevokedList_revokes 44 = .ok (.iconst 0, 1) := by decide +kernel
theorem zd_RevokedList_revokes_45 : decode ze_RevokedList_revokes 45 = .ok (.ireturn, 1) := by decide +kernel
theorem zd_Search_reasonAgainst_0 : decode ze_Search_reasonAgainst 0 = .ok (.aload_n 0, 1) := by decide +kernel
theorem zd_Search_reasonAgainst_1 : decode ze_Search_reasonAgainst 1 = .ok (.iload_n 1, 1) := by decide +kernel
theorem zd_Search_reasonAgainst_2 : decode ze_Search_reasonAgainst 2 = .ok (.invokevirtual 44, 3) := by decide +kernel
theorem zd_Search_reasonAgainst_5 : decode ze_Search_reasonAgainst 5 = .ok (.astore_n 3, 1) := by decide +kernel
theorem zd_Search_reasonAgainst_6 : decode ze_Search_reasonAgainst 6 = .ok (.aload_n 3, 1) := by decide +kernel
theorem zd_Search_reasonAgainst_7 : decode ze_Search_reasonAgainst 7 = .ok (.aload_n 0, 1) := by decide +kernel
theorem zd_Search_reasonAgainst_8 : decode ze_Search_reasonAgainst 8 = .ok (.getfield 9, 3) := by decide +kernel
theorem zd_Search_reasonAgainst_11 : decode ze_Search_reasonAgainst 11 = .ok (.iload_n 1, 1) := by decide +kernel
theorem zd_Search_reasonAgainst_12 : decode ze_Search_reasonAgainst 12 = .ok (.iconst 1, 1) := by decide +kernel
theorem zd_Search_reasonAgainst_13 : decode ze_Search_reasonAgainst 13 = .ok (.iadd, 1) := by decide +kernel
theorem zd_Search_reasonAgainst_14 : decode ze_Search_reasonAgainst 14 = .ok (.iaload, 1) := by decide +kernel
theorem zd_Search_reasonAgainst_15 : decode ze_Search_reasonAgainst 15 = .ok (.invokevirtual 83, 3) := by decide +kernel
theorem zd_Search_reasonAgainst_18 : decode ze_Search_reasonAgainst 18 = .ok (.ifCond .ne 5, 3) := by decide +kernel
theorem zd_Search_reasonAgainst_21 : decode ze_Search_reasonAgainst 21 = .ok (.iconst 1, 1) := by decide +kernel
theorem zd_Search_reasonAgainst_22 : decode ze_Search_reasonAgainst 22 = .ok (.ireturn, 1) := by decide +kernel
theorem zd_Search_reasonAgainst_23 : decode ze_Search_reasonAgainst 23 = .ok (.aload_n 3, 1) := by decide +kernel
theorem zd_Search_reasonAgainst_24 : decode ze_Search_reasonAgainst 24 = .ok (.aload_n 0, 1) := by decide +kernel
theorem zd_Search_reasonAgainst_25 : decode ze_Search_reasonAgainst 25 = .ok (.getfield 29, 3) := by decide +kernel
theorem zd_Search_reasonAgainst_28 : decode ze_Search_reasonAgainst 28 = .ok (.invokevirtual 86, 3) := by decide +kernel
theorem zd_Search_reasonAgainst_31 : decode ze_Search_reasonAgainst 31 = .ok (.ifCond .ne 5, 3) := by decide +kernel
theorem zd_Search_reasonAgainst_34 : decode ze_Search_reasonAgainst 34 = .ok (.iconst 2, 1) := by decide +kernel
theorem zd_Search_reasonAgainst_35 : decode ze_Search_reasonAgainst 35 = .ok (.ireturn, 1) := by decide +kernel
theorem zd_Search_reasonAgainst_36 : decode ze_Search_reasonAgainst 36 = .ok (.aload_n 0, 1) := by decide +kernel
theorem zd_Search_reasonAgainst_37 : decode ze_Search_reasonAgainst 37 = .ok (.aload_n 3, 1) := by decide +kernel
theorem zd_Search_reasonAgainst_38 : decode ze_Search_reasonAgainst 38 = .ok (.aload_n 0, 1) := by decide +kernel
theorem zd_Search_reasonAgainst_39 : decode ze_Search_reasonAgainst 39 = .ok (.getfield 9, 3) := by decide +kernel
theorem zd_Search_reasonAgainst_42 : decode ze_Search_reasonAgainst 42 = .ok (.iload_n 1, 1) := by decide +kernel
theorem zd_Search_reasonAgainst_43 : decode ze_Search_reasonAgainst 43 = .ok (.iconst 1, 1) := by decide +kernel
theorem zd_Search_reasonAgainst_44 : decode ze_Search_reasonAgainst 44 = .ok (.iadd, 1) := by decide +kernel
theorem zd_Search_reasonAgainst_45 : decode ze_Search_reasonAgainst 45 = .ok (.iaload, 1) := by decide +kernel
theorem zd_Search_reasonAgainst_46 : decode ze_Search_reasonAgainst 46 = .ok (.invokevirtual 90, 3) := by decide +kernel
theorem zd_Search_reasonAgainst_49 : decode ze_Search_reasonAgainst 49 = .ok (.astore 4, 2) := by decide +kernel
theorem zd_Search_reasonAgainst_51 : decode ze_Search_reasonAgainst 51 = .ok (.aload 4, 2) := by decide +kernel
theorem zd_Search_reasonAgainst_53 : decode ze_Search_reasonAgainst 53 = .ok (.ifnull 21, 3) := by decide +kernel
theorem zd_Search_reasonAgainst_56 : decode ze_Search_reasonAgainst 56 = .ok (.aload 4, 2) := by decide +kernel
theorem zd_Search_reasonAgainst_58 : decode ze_Search_reasonAgainst 58 = .ok (.aload_n 3, 1) := by decide +kernel
theorem zd_Search_reasonAgainst_59 : decode ze_Search_reasonAgainst 59 = .ok (.getfield 94, 3) := by decide +kernel
theorem zd_Search_reasonAgainst_62 : decode ze_Search_reasonAgainst 62 = .ok (.aload_n 0, 1) := by decide +kernel
theorem zd_Search_reasonAgainst_63 : decode ze_Search_reasonAgainst 63 = .ok (.getfield 29, 3) := by decide +kernel
theorem zd_Search_reasonAgainst_66 : decode ze_Search_reasonAgainst 66 = .ok (.invokevirtual 97, 3) := by decide +kernel
theorem zd_Search_reasonAgainst_69 : decode ze_Search_reasonAgainst 69 = .ok (.ifCond .eq 5, 3) := by decide +kernel
theorem zd_Search_reasonAgainst_72 : decode ze_Search_reasonAgainst 72 = .ok (.iconst 3, 1) := by decide +kernel
theorem zd_Search_reasonAgainst_73 : decode ze_Search_reasonAgainst 73 = .ok (.ireturn, 1) := by decide +kernel
theorem zd_Search_reasonAgainst_74 : decode ze_Search_reasonAgainst 74 = .ok (.aload 4, 2) := by decide +kernel
theorem zd_Search_reasonAgainst_76 : decode ze_Search_reasonAgainst 76 = .ok (.ifnonnull 12, 3) := by decide +kernel
theorem zd_Search_reasonAgainst_79 : decode ze_Search_reasonAgainst 79 = .ok (.aload_n 0, 1) := by decide +kernel
theorem zd_Search_reasonAgainst_80 : decode ze_Search_reasonAgainst 80 = .ok (.getfield 36, 3) := by decide +kernel
theorem zd_Search_reasonAgainst_83 : decode ze_Search_reasonAgainst 83 = .ok (.ifCond .eq 5, 3) := by decide +kernel
theorem zd_Search_reasonAgainst_86 : decode ze_Search_reasonAgainst 86 = .ok (.iconst 4, 1) := by decide +kernel
theorem zd_Search_reasonAgainst_87 : decode ze_Search_reasonAgainst 87 = .ok (.ireturn, 1) := by decide +kernel
theorem zd_Search_reasonAgainst_88 : decode ze_Search_reasonAgainst 88 = .ok (.aload_n 0, 1) := by decide +kernel
theorem zd_Search_reasonAgainst_89 : decode ze_Search_reasonAgainst 89 = .ok (.iload_n 1, 1) := by decide +kernel
theorem zd_Search_reasonAgainst_90 : decode ze_Search_reasonAgainst 90 = .ok (.iload_n 2, 1) := by decide +kernel
theorem zd_Search_reasonAgainst_91 : decode ze_Search_reasonAgainst 91 = .ok (.invokevirtual 103, 3) := by decide +kernel
theorem zd_Search_reasonAgainst_94 : decode ze_Search_reasonAgainst 94 = .ok (.ifCond .ne 5, 3) := by decide +kernel
theorem zd_Search_reasonAgainst_97 : decode ze_Search_reasonAgainst 97 = .ok (.iconst 5, 1) := by decide +kernel
theorem zd_Search_reasonAgainst_98 : decode ze_Search_reasonAgainst 98 = .ok (.ireturn, 1) := by decide +kernel
theorem zd_Search_reasonAgainst_99 : decode ze_Search_reasonAgainst 99 = .ok (.aload_n 3, 1) := by decide +kernel
theorem zd_Search_reasonAgainst_100 : decode ze_Search_reasonAgainst 100 = .ok (.getfield 106, 3) := by decide +kernel
theorem zd_Search_reasonAgainst_103 : decode ze_Search_reasonAgainst 103 = .ok (.ifCond .eq 6, 3) := by decide +kernel
theorem zd_Search_reasonAgainst_106 : decode ze_Search_reasonAgainst 106 = .ok (.bipush 6, 2) := by decide +kernel
theorem zd_Search_reasonAgainst_108 : decode ze_Search_reasonAgainst 108 = .ok (.ireturn, 1) := by decide +kernel
theorem zd_Search_reasonAgainst_109 : decode ze_Search_reasonAgainst 109 = .ok (.iload_n 1, 1) := by decide +kernel
theorem zd_Search_reasonAgainst_110 : decode ze_Search_reasonAgainst 110 = .ok (.ifCond .ne 5, 3) := by decide +kernel
theorem zd_Search_reasonAgainst_113 : decode ze_Search_reasonAgainst 113 = .ok (.iconst 0, 1) := by decide +kernel
theorem zd_Search_reasonAgainst_114 : decode ze_Search_reasonAgainst 114 = .ok (.ireturn, 1) := by decide +kernel
theorem zd_Search_reasonAgainst_115 : decode ze_Search_reasonAgainst 115 = .ok (.aload_n 3, 1) := by decide +kernel
theorem zd_Search_reasonAgainst_116 : decode ze_Search_reasonAgainst 116 = .ok (.getfield 109, 3) := by decide +kernel
theorem zd_Search_reasonAgainst_119 : decode ze_Search_reasonAgainst 119 = .ok (.ifCond .ne 6, 3) := by decide +kernel
theorem zd_Search_reasonAgainst_122 : decode ze_Search_reasonAgainst 122 = .ok (.bipush 7, 2) := by decide +kernel
theorem zd_Search_reasonAgainst_124 : decode ze_Search_reasonAgainst 124 = .ok (.ireturn, 1) := by decide +kernel
theorem zd_Search_reasonAgainst_125 : decode ze_Search_reasonAgainst 125 = .ok (.aload_n 3, 1) := by decide +kernel
theorem zd_Search_reasonAgainst_126 : decode ze_Search_reasonAgainst 126 = .ok (.getfield 112, 3) := by decide +kernel
theorem zd_Search_reasonAgainst_129 : decode ze_Search_reasonAgainst 129 = .ok (.ldc2_w 115, 3) := by decide +kernel
theorem zd_Search_reasonAgainst_132 : decode ze_Search_reasonAgainst 132 = .ok (.lcmp, 1) := by decide +kernel
theorem zd_Search_reasonAgainst_133 : decode ze_Search_reasonAgainst 133 = .ok (.ifCond .eq 20, 3) := by decide +kernel
theorem zd_Search_reasonAgainst_136 : decode ze_Search_reasonAgainst 136 = .ok (.aload_n 0, 1) := by decide +kernel
theorem zd_Search_reasonAgainst_137 : decode ze_Search_reasonAgainst 137 = .ok (.iload_n 1, 1) := by decide +kernel
theorem zd_Search_reasonAgainst_138 : decode ze_Search_reasonAgainst 138 = .ok (.invokevirtual 117, 3) := by decide +kernel
theorem zd_Search_reasonAgainst_141 : decode ze_Search_reasonAgainst 141 = .ok (.i2l, 1) := by decide +kernel
theorem zd_Search_reasonAgainst_142 : decode ze_Search_reasonAgainst 142 = .ok (.aload_n 3, 1) := by decide +kernel
theorem zd_Search_reasonAgainst_143 : decode ze_Search_reasonAgainst 143 = .ok (.getfield 112, 3) := by decide +kernel
theorem zd_Search_reasonAgainst_146 : decode ze_Search_reasonAgainst 146 = .ok (.lcmp, 1) := by decide +kernel
theorem zd_Search_reasonAgainst_147 : decode ze_Search_reasonAgainst 147 = .ok (.ifCond .le 6, 3) := by decide +kernel
theorem zd_Search_reasonAgainst_150 : decode ze_Search_reasonAgainst 150 = .ok (.bipush 8, 2) := by decide +kernel
theorem zd_Search_reasonAgainst_152 : decode ze_Search_reasonAgainst 152 = .ok (.ireturn, 1) := by decide +kernel
theorem zd_Search_reasonAgainst_153 : decode ze_Search_reasonAgainst 153 = .ok (.aload_n 3, 1) := by decide +kernel
theorem zd_Search_reasonAgainst_154 : decode ze_Search_reasonAgainst 154 = .ok (.iconst 1, 1) := by decide +kernel
theorem zd_Search_reasonAgainst_155 : decode ze_Search_reasonAgainst 155 = .ok (.invokevirtual 121, 3) := by decide +kernel
theorem zd_Search_reasonAgainst_158 : decode ze_Search_reasonAgainst 158 = .ok (.ifCond .eq 7, 3) := by decide +kernel
theorem zd_Search_reasonAgainst_161 : decode ze_Search_reasonAgainst 161 = .ok (.iconst 0, 1) := by decide +kernel
theorem zd_Search_reasonAgainst_162 : decode ze_Search_reasonAgainst 162 = .ok (.goto 5, 3) := by decide +kernel
theorem zd_Search_reasonAgainst_165 : decode ze_Search_reasonAgainst 165 = .ok (.bipush 9, 2) := by decide +kernel
theorem zd_Search_reasonAgainst_167 : decode ze_Search_reasonAgainst 167 = .ok (.ireturn, 1) := by decide +kernel
theorem zd_Search_tryCandidate_0 : decode ze_Search_tryCandidate 0 = .ok (.aload_n 0, 1) := by decide +kernel
theorem zd_Search_tryCandidate_1 : decode ze_Search_tryCandidate 1 = .ok (.dup, 1) := by decide +kernel
theorem zd_Search_tryCandidate_2 : decode ze_Search_tryCandidate 2 = .ok (.getfield 22, 3) := by decide +kernel
theorem zd_Search_tryCandidate_5 : decode ze_Search_tryCandidate 5 = .ok (.iconst 1, 1) := by decide +kernel
theorem zd_Search_tryCandidate_6 : decode ze_Search_tryCandidate 6 = .ok (.iadd, 1) := by decide +kernel
theorem zd_Search_tryCandidate_7 : decode ze_Search_tryCandidate 7 = .ok (.putfield 22, 3) := by decide +kernel
theorem zd_Search_tryCandidate_10 : decode ze_Search_tryCandidate 10 = .ok (.aload_n 0, 1) := by decide +kernel
theorem zd_Search_tryCandidate_11 : decode ze_Search_tryCandidate 11 = .ok (.iconst 0, 1) := by decide +kernel
theorem zd_Search_tryCandidate_12 : decode ze_Search_tryCandidate 12 = .ok (.putfield 19, 3) := by decide +kernel
theorem zd_Search_tryCandidate_15 : decode ze_Search_tryCandidate 15 = .ok (.iload_n 1, 1) := by decide +kernel
theorem zd_Search_tryCandidate_16 : decode ze_Search_tryCandidate 16 = .ok (.iconst 2, 1) := by decide +kernel
theorem zd_Search_tryCandidate_17 : decode ze_Search_tryCandidate 17 = .ok (.isub, 1) := by decide +kernel
theorem zd_Search_tryCandidate_18 : decode ze_Search_tryCandidate 18 = .ok (.istore_n 2, 1) := by decide +kernel
theorem zd_Search_tryCandidate_19 : decode ze_Search_tryCandidate 19 = .ok (.iload_n 2, 1) := by decide +kernel
theorem zd_Search_tryCandidate_20 : decode ze_Search_tryCandidate 20 = .ok (.ifCond .lt 26, 3) := by decide +kernel
theorem zd_Search_tryCandidate_23 : decode ze_Search_tryCandidate 23 = .ok (.aload_n 0, 1) := by decide +kernel
theorem zd_Search_tryCandidate_24 : decode ze_Search_tryCandidate 24 = .ok (.getfield 19, 3) := by decide +kernel
theorem zd_Search_tryCandidate_27 : decode ze_Search_tryCandidate 27 = .ok (.ifCond .ne 19, 3) := by decide +kernel
theorem zd_Search_tryCandidate_30 : decode ze_Search_tryCandidate 30 = .ok (.aload_n 0, 1) := by decide +kernel
theorem zd_Search_tryCandidate_31 : decode ze_Search_tryCandidate 31 = .ok (.aload_n 0, 1) := by decide +kernel
theorem zd_Search_tryCandidate_32 : decode ze_Search_tryCandidate 32 = .ok (.iload_n 2, 1) := by decide +kernel
theorem zd_Search_tryCandidate_33 : decode ze_Search_tryCandidate 33 = .ok (.iload_n 1, 1) := by decide +kernel
theorem zd_Search_tryCandidate_34 : decode ze_Search_tryCandidate 34 = .ok (.invokevirtual 79, 3) := by decide +kernel
theorem zd_Search_tryCandidate_37 : decode ze_Search_tryCandidate 37 = .ok (.putfield 19, 3) := by decide +kernel
theorem zd_Search_tryCandidate_40 : decode ze_Search_tryCandidate 40 = .ok (.iinc 2 (-1), 3) := by decide +kernel
theorem zd_Search_tryCandidate_43 : decode ze_Search_tryCandidate 43 = .ok (.goto (-24), 3) := by decide +kernel
theorem zd_Search_tryCandidate_46 : decode ze_Search_tryCandidate 46 = .ok (.aload_n 0, 1) := by decide +kernel
theorem zd_Search_tryCandidate_47 : decode ze_Search_tryCandidate 47 = .ok (.getfield 19, 3) := by decide +kernel
theorem zd_Search_tryCandidate_50 : decode ze_Search_tryCandidate 50 = .ok (.ifCond .eq 5, 3) := by decide +kernel
theorem zd_Search_tryCandidate_53 : decode ze_Search_tryCandidate 53 = .ok (.iconst 0, 1) := by decide +kernel
theorem zd_Search_tryCandidate_54 : decode ze_Search_tryCandidate 54 = .ok (.ireturn, 1) := by decide +kernel
theorem zd_Search_tryCandidate_55 : decode ze_Search_tryCandidate 55 = .ok (.aload_n 0, 1) := by decide +kernel
theorem zd_Search_tryCandidate_56 : decode ze_Search_tryCandidate 56 = .ok (.iload_n 1, 1) := by decide +kernel
theorem zd_Search_tryCandidate_57 : decode ze_Search_tryCandidate 57 = .ok (.putfield 15, 3) := by decide +kernel
theorem zd_Search_tryCandidate_60 : decode ze_Search_tryCandidate 60 = .ok (.iconst 1, 1) := by decide +kernel
theorem zd_Search_tryCandidate_61 : decode ze_Search_tryCandidate 61 = .ok (.ireturn, 1) := by decide +kernel
theorem zd_Search_goOn_0 : decode ze_Search_goOn 0 = .ok (.aload_n 0, 1) := by decide +kernel
theorem zd_Search_goOn_1 : decode ze_Search_goOn 1 = .ok (.iload_n 1, 1) := by decide +kernel
theorem zd_Search_goOn_2 : decode ze_Search_goOn 2 = .ok (.iconst 1, 1) := by decide +kernel
theorem zd_Search_goOn_3 : decode ze_Search_goOn 3 = .ok (.isub, 1) := by decide +kernel
theorem zd_Search_goOn_4 : decode ze_Search_goOn 4 = .ok (.invokevirtual 44, 3) := by decide +kernel
theorem zd_Search_goOn_7 : decode ze_Search_goOn 7 = .ok (.getfield 48, 3) := by decide +kernel
theorem zd_Search_goOn_10 : decode ze_Search_goOn 10 = .ok (.ifCond .eq 9, 3) := by decide +kernel
theorem zd_Search_goOn_13 : decode ze_Search_goOn 13 = .ok (.aload_n 0, 1) := by decide +kernel
theorem zd_Search_goOn_14 : decode ze_Search_goOn 14 = .ok (.iload_n 1, 1) := by decide +kernel
theorem zd_Search_goOn_15 : decode ze_Search_goOn 15 = .ok (.invokevirtual 53, 3) := by decide +kernel
theorem zd_Search_goOn_18 : decode ze_Search_goOn 18 = .ok (.ireturn, 1) := by decide +kernel
theorem zd_Search_goOn_19 : decode ze_Search_goOn 19 = .ok (.iload_n 1, 1) := by decide +kernel
theorem zd_Search_goOn_20 : decode ze_Search_goOn 20 = .ok (.aload_n 0, 1) := by decide +kernel
theorem zd_Search_goOn_21 : decode ze_Search_goOn 21 = .ok (.getfield 33, 3) := by decide +kernel
theorem zd_Search_goOn_24 : decode ze_Search_goOn 24 = .ok (.if_icmp .ge 25, 3) := by decide +kernel
theorem zd_Search_goOn_27 : decode ze_Search_goOn 27 = .ok (.aload_n 0, 1) := by decide +kernel
theorem zd_Search_goOn_28 : decode ze_Search_goOn 28 = .ok (.iload_n 1, 1) := by decide +kernel
theorem zd_Search_goOn_29 : decode ze_Search_goOn 29 = .ok (.iconst 1, 1) := by decide +kernel
theorem zd_Search_goOn_30 : decode ze_Search_goOn 30 = .ok (.invokevirtual 56, 3) := by decide +kernel
theorem zd_Search_goOn_33 : decode ze_Search_goOn 33 = .ok (.ifCond .ne 12, 3) := by decide +kernel
theorem zd_Search_goOn_36 : decode ze_Search_goOn 36 = .ok (.aload_n 0, 1) := by decide +kernel
theorem zd_Search_goOn_37 : decode ze_Search_goOn 37 = .ok (.iload_n 1, 1) := by decide +kernel
theorem zd_Search_goOn_38 : decode ze_Search_goOn 38 = .ok (.iconst 0, 1) := by decide +kernel
theorem zd_Search_goOn_39 : decode ze_Search_goOn 39 = .ok (.invokevirtual 56, 3) := by decide +kernel
theorem zd_Search_goOn_42 : decode ze_Search_goOn 42 = .ok (.ifCond .eq 7, 3) := by decide +kernel
theorem zd_Search_goOn_45 : decode ze_Search_goOn 45 = .ok (.iconst 1, 1) := by decide +kernel
theorem zd_Search_goOn_46 : decode ze_Search_goOn 46 = .ok (.goto 4, 3) := by decide +kernel
theorem zd_Search_goOn_49 : decode ze_Search_goOn 49 = .ok (.iconst 0, 1) := by decide +kernel
theorem zd_Search_goOn_50 : decode ze_Search_goOn 50 = .ok (.ireturn, 1) := by decide +kernel
theorem zd_Search_lookFor_0 : decode ze_Search_lookFor 0 = .ok (.aload_n 0, 1) := by decide +kernel
theorem zd_Search_lookFor_1 : decode ze_Search_lookFor 1 = .ok (.getfield 9, 3) := by decide +kernel
theorem zd_Search_lookFor_4 : decode ze_Search_lookFor 4 = .ok (.iconst 0, 1) := by decide +kernel
theorem zd_Search_lookFor_5 : decode ze_Search_lookFor 5 = .ok (.iload_n 1, 1) := by decide +kernel
theorem zd_Search_lookFor_6 : decode ze_Search_lookFor 6 = .ok (.iastore, 1) := by decide +kernel
theorem zd_Search_lookFor_7 : decode ze_Search_lookFor 7 = .ok (.aload_n 0, 1) := by decide +kernel
theorem zd_Search_lookFor_8 : decode ze_Search_lookFor 8 = .ok (.iconst 1, 1) := by decide +kernel
theorem zd_Search_lookFor_9 : decode ze_Search_lookFor 9 = .ok (.invokevirtual 40, 3) := by decide +kernel
theorem zd_Search_lookFor_12 : decode ze_Search_lookFor 12 = .ok (.ifCond .eq 8, 3) := by decide +kernel
theorem zd_Search_lookFor_15 : decode ze_Search_lookFor 15 = .ok (.aload_n 0, 1) := by decide +kernel
theorem zd_Search_lookFor_16 : decode ze_Search_lookFor 16 = .ok (.getfield 15, 3) := by decide +kernel
theorem zd_Search_lookFor_19 : decode ze_Search_lookFor 19 = .ok (.ireturn, 1) := by decide +kernel
theorem zd_Search_lookFor_20 : decode ze_Search_lookFor 20 = .ok (.aload_n 0, 1) := by decide +kernel
theorem zd_Search_lookFor_21 : decode ze_Search_lookFor 21 = .ok (.getfield 22, 3) := by decide +kernel
theorem zd_Search_lookFor_24 : decode ze_Search_lookFor 24 = .ok (.ifCond .ne 7, 3) := by decide +kernel
theorem zd_Search_lookFor_27 : decode ze_Search_lookFor 27 = .ok (.iconst 0, 1) := by decide +kernel
theorem zd_Search_lookFor_28 : decode ze_Search_lookFor 28 = .ok (.goto 10, 3) := by decide +kernel
theorem zd_Search_lookFor_31 : decode ze_Search_lookFor 31 = .ok (.bipush (-10), 2) := by decide +kernel
theorem zd_Search_lookFor_33 : decode ze_Search_lookFor 33 = .ok (.aload_n 0, 1) := by decide +kernel
theorem zd_Search_lookFor_34 : decode ze_Search_lookFor 34 = .ok (.getfield 19, 3) := by decide +kernel
theorem zd_Search_lookFor_37 : decode ze_Search_lookFor 37 = .ok (.isub, 1) := by decide +kernel
theorem zd_Search_lookFor_38 : decode ze_Search_lookFor 38 = .ok (.ireturn, 1) := by decide +kernel
theorem zd_V_validate_0 : decode ze_V_validate 0 = .ok (.aload_n 0, 1) := by decide +kernel
theorem zd_V_validate_1 : decode ze_V_validate 1 = .ok (.getfield 26, 3) := by decide +kernel
theorem zd_V_validate_4 : decode ze_V_validate 4 = .ok (.iload_n 1, 1) := by decide +kernel
theorem zd_V_validate_5 : decode ze_V_validate 5 = .ok (.invokevirtual 109, 3) := by decide +kernel
theorem zd_V_validate_8 : decode ze_V_validate 8 = .ok (.ifCond .eq 21, 3) := by decide +kernel
theorem zd_V_validate_11 : decode ze_V_validate 11 = .ok (.lload_n 2, 1) := by decide +kernel
theorem zd_V_validate_12 : decode ze_V_validate 12 = .ok (.lconst 0, 1) := by decide +kernel
theorem zd_V_validate_13 : decode ze_V_validate 13 = .ok (.lcmp, 1) := by decide +kernel
theorem zd_V_validate_14 : decode ze_V_validate 14 = .ok (.ifCond .lt 15, 3) := by decide +kernel
theorem zd_V_validate_17 : decode ze_V_validate 17 = .ok (.iload 4, 2) := by decide +kernel
theorem zd_V_validate_19 : decode ze_V_validate 19 = .ok (.iconst 1, 1) := by decide +kernel
theorem zd_V_validate_20 : decode ze_V_validate 20 = .ok (.if_icmp .lt 9, 3) := by decide +kernel
theorem zd_V_validate_23 : decode ze_V_validate 23 = .ok (.iload 4, 2) := by decide +kernel
theorem zd_V_validate_25 : decode ze_V_validate 25 = .ok (.iconst 5, 1) := by decide +kernel
theorem zd_V_validate_26 : decode ze_V_validate 26 = .ok (.if_icmp .le 5, 3) := by decide +kernel
theorem zd_V_validate_29 : decode ze_V_validate 29 = .ok (.iconst (-1), 1) := by decide +kernel
theorem zd_V_validate_30 : decode ze_V_validate 30 = .ok (.ireturn, 1) := by decide +kernel
theorem zd_V_validate_31 : decode ze_V_validate 31 = .ok (.aload_n 0, 1) := by decide +kernel
theorem zd_V_validate_32 : decode ze_V_validate 32 = .ok (.new 131, 3) := by decide +kernel
theorem zd_V_validate_35 : decode ze_V_validate 35 = .ok (.dup, 1) := by decide +kernel
theorem zd_V_validate_36 : decode ze_V_validate 36 = .ok (.aload_n 0, 1) := by decide +kernel
theorem zd_V_validate_37 : decode ze_V_validate 37 = .ok (.getfield 26, 3) := by decide +kernel
theorem zd_V_validate_40 : decode ze_V_validate 40 = .ok (.lload_n 2, 1) := by decide +kernel
theorem zd_V_validate_41 : decode ze_V_validate 41 = .ok (.iload 4, 2) := by decide +kernel
theorem zd_V_validate_43 : decode ze_V_validate 43 = .ok (.iload 5, 2) := by decide +kernel
theorem zd_V_validate_45 : decode ze_V_validate 45 = .ok (.invokespecial 133, 3) := by decide +kernel
theorem zd_V_validate_48 : decode ze_V_validate 48 = .ok (.putfield 30, 3) := by decide +kernel
theorem zd_V_validate_51 : decode ze_V_validate 51 = .ok (.aload_n 0, 1) := by decide +kernel
theorem zd_V_validate_52 : decode ze_V_validate 52 = .ok (.getfield 30, 3) := by decide +kernel
theorem zd_V_validate_55 : decode ze_V_validate 55 = .ok (.iload_n 1, 1) := by decide +kernel
theorem zd_V_validate_56 : decode ze_V_validate 56 = .ok (.invokevirtual 136, 3) := by decide +kernel
theorem zd_V_validate_59 : decode ze_V_validate 59 = .ok (.ireturn, 1) := by decide +kernel
theorem zd_M_of_0 : decode ze_M_of 0 = .ok (.aload_n 0, 1) := by decide +kernel
theorem zd_M_of_1 : decode ze_M_of 1 = .ok (.getfield 77, 3) := by decide +kernel
theorem zd_M_of_4 : decode ze_M_of 4 = .ok (.bipush 15, 2) := by decide +kernel
theorem zd_M_of_6 : decode ze_M_of 6 = .ok (.iload_n 1, 1) := by decide +kernel
theorem zd_M_of_7 : decode ze_M_of 7 = .ok (.imul, 1) := by decide +kernel
theorem zd_M_of_8 : decode ze_M_of 8 = .ok (.iload_n 2, 1) := by decide +kernel
theorem zd_M_of_9 : decode ze_M_of 9 = .ok (.iadd, 1) := by decide +kernel
theorem zd_M_of_10 : decode ze_M_of 10 = .ok (.laload, 1) := by decide +kernel
theorem zd_M_of_11 : decode ze_M_of 11 = .ok (.lreturn, 1) := by decide +kernel
theorem zd_M_flag_0 : decode ze_M_flag 0 = .ok (.aload_n 0, 1) := by decide +kernel
theorem zd_M_flag_1 : decode ze_M_flag 1 = .ok (.iload_n 1, 1) := by decide +kernel
theorem zd_M_flag_2 : decode ze_M_flag 2 = .ok (.bipush 14, 2) := by decide +kernel
theorem zd_M_flag_4 : decode ze_M_flag 4 = .ok (.invokevirtual 258, 3) := by decide +kernel
theorem zd_M_flag_7 : decode ze_M_flag 7 = .ok (.lload_n 2, 1) := by decide +kernel
theorem zd_M_flag_8 : decode ze_M_flag 8 = .ok (.land, 1) := by decide +kernel
theorem zd_M_flag_9 : decode ze_M_flag 9 = .ok (.lconst 0, 1) := by decide +kernel
theorem zd_M_flag_10 : decode ze_M_flag 10 = .ok (.lcmp, 1) := by decide +kernel
theorem zd_M_flag_11 : decode ze_M_flag 11 = .ok (.ifCond .eq 7, 3) := by decide +kernel
theorem zd_M_flag_14 : decode ze_M_flag 14 = .ok (.iconst 1, 1) := by decide +kernel
theorem zd_M_flag_15 : decode ze_M_flag 15 = .ok (.goto 4, 3) := by decide +kernel
theorem zd_M_flag_18 : decode ze_M_flag 18 = .ok (.iconst 0, 1) := by decide +kernel
theorem zd_M_flag_19 : decode ze_M_flag 19 = .ok (.ireturn, 1) := by decide +kernel
theorem zd_M_suits_0 : decode ze_M_suits 0 = .ok (.iload_n 1, 1) := by decide +kernel
theorem zd_M_suits_1 : decode ze_M_suits 1 = .ok (.bipush 12, 2) := by decide +kernel
theorem zd_M_suits_3 : decode ze_M_suits 3 = .ok (.irem, 1) := by decide +kernel
theorem zd_M_suits_4 : decode ze_M_suits 4 = .ok (.istore_n 3, 1) := by decide +kernel
theorem zd_M_suits_5 : decode ze_M_suits 5 = .ok (.iload_n 3, 1) := by decide +kernel
theorem zd_M_suits_6 : decode ze_M_suits 6 = .ok (.aload_n 0, 1) := by decide +kernel
theorem zd_M_suits_7 : decode ze_M_suits 7 = .ok (.getfield 248, 3) := by decide +kernel
theorem zd_M_suits_10 : decode ze_M_suits 10 = .ok (.if_icmp .ge 46, 3) := by decide +kernel
theorem zd_M_suits_13 : decode ze_M_suits 13 = .ok (.aload_n 0, 1) := by decide +kernel
theorem zd_M_suits_14 : decode ze_M_suits 14 = .ok (.iload_n 3, 1) := by decide +kernel
theorem zd_M_suits_15 : decode ze_M_suits 15 = .ok (.lconst 1, 1) := by decide +kernel
theorem zd_M_suits_16 : decode ze_M_suits 16 = .ok (.invokevirtual 284, 3) := by decide +kernel
theorem zd_M_suits_19 : decode ze_M_suits 19 = .ok (.iload_n 1, 1) := by decide +kernel
theorem zd_M_suits_20 : decode ze_M_suits 20 = .ok (.bipush 12, 2) := by decide +kernel
theorem zd_M_suits_22 : decode ze_M_suits 22 = .ok (.if_icmp .ge 7, 3) := by decide +kernel
theorem zd_M_suits_25 : decode ze_M_suits 25 = .ok (.iconst 1, 1) := by decide +kernel
theorem zd_M_suits_26 : decode ze_M_suits 26 = .ok (.goto 4, 3) := by decide +kernel
theorem zd_M_suits_29 : decode ze_M_suits 29 = .ok (.iconst 0, 1) := by decide +kernel
theorem zd_M_suits_30 : decode ze_M_suits 30 = .ok (.if_icmp .ne 26, 3) := by decide +kernel
theorem zd_M_suits_33 : decode ze_M_suits 33 = .ok (.aload_n 0, 1) := by decide +kernel
theorem zd_M_suits_34 : decode ze_M_suits 34 = .ok (.iload_n 3, 1) := by decide +kernel
theorem zd_M_suits_35 : decode ze_M_suits 35 = .ok (.iconst 4, 1) := by decide +kernel
theorem zd_M_suits_36 : decode ze_M_suits 36 = .ok (.invokevirtual 258, 3) := by decide +kernel
theorem zd_M_suits_39 : decode ze_M_suits 39 = .ok (.aload_n 0, 1) := by decide +kernel
theorem zd_M_suits_40 : decode ze_M_suits 40 = .ok (.aload_n 0, 1) := by decide +kernel
theorem zd_M_suits_41 : decode ze_M_suits 41 = .ok (.getfield 89, 3) := by decide +kernel
theorem zd_M_suits_44 : decode ze_M_suits 44 = .ok (.iload_n 2, 1) := by decide +kernel
theorem zd_M_suits_45 : decode ze_M_suits 45 = .ok (.iconst 1, 1) := by decide +kernel
theorem zd_M_suits_46 : decode ze_M_suits 46 = .ok (.isub, 1) := by decide +kernel
theorem zd_M_suits_47 : decode ze_M_suits 47 = .ok (.iaload, 1) := by decide +kernel
theorem zd_M_suits_48 : decode ze_M_suits 48 = .ok (.iconst 1, 1) := by decide +kernel
theorem zd_M_suits_49 : decode ze_M_suits 49 = .ok (.invokevirtual 258, 3) := by decide +kernel
theorem zd_M_suits_52 : decode ze_M_suits 52 = .ok (.lcmp, 1) := by decide +kernel
theorem zd_M_suits_53 : decode ze_M_suits 53 = .ok (.ifCond .eq 5, 3) := by decide +kernel
theorem zd_M_suits_56 : decode ze_M_suits 56 = .ok (.iconst 0, 1) := by decide +kernel
theorem zd_M_suits_57 : decode ze_M_suits 57 = .ok (.ireturn, 1) := by decide +kernel
theorem zd_M_suits_58 : decode ze_M_suits 58 = .ok (.iconst 0, 1) := by decide +kernel
theorem zd_M_suits_59 : decode ze_M_suits 59 = .ok (.istore 4, 2) := by decide +kernel
theorem zd_M_suits_61 : decode ze_M_suits 61 = .ok (.iconst 0, 1) := by decide +kernel
theorem zd_M_suits_62 : decode ze_M_suits 62 = .ok (.istore 5, 2) := by decide +kernel
theorem zd_M_suits_64 : decode ze_M_suits 64 = .ok (.iload 5, 2) := by decide +kernel
theorem zd_M_suits_66 : decode ze_M_suits 66 = .ok (.iload_n 2, 1) := by decide +kernel
theorem zd_M_suits_67 : decode ze_M_suits 67 = .ok (.if_icmp .ge 32, 3) := by decide +kernel
theorem zd_M_suits_70 : decode ze_M_suits 70 = .ok (.iload 4, 2) := by decide +kernel
theorem zd_M_suits_72 : decode ze_M_suits 72 = .ok (.ifCond .ne 14, 3) := by decide +kernel
theorem zd_M_suits_75 : decode ze_M_suits 75 = .ok (.aload_n 0, 1) := by decide +kernel
theorem zd_M_suits_76 : decode ze_M_suits 76 = .ok (.getfield 89, 3) := by decide +kernel
theorem zd_M_suits_79 : decode ze_M_suits 79 = .ok (.iload 5, 2) := by decide +kernel
theorem zd_M_suits_81 : decode ze_M_suits 81 = .ok (.iaload, 1) := by decide +kernel
theorem zd_M_suits_82 : decode ze_M_suits 82 = .ok (.iload_n 3, 1) := by decide +kernel
theorem zd_M_suits_83 : decode ze_M_suits 83 = .ok (.if_icmp .ne 7, 3) := by decide +kernel
theorem zd_M_suits_86 : decode ze_M_suits 86 = .ok (.iconst 1, 1) := by decide +kernel
theorem zd_M_suits_87 : decode ze_M_suits 87 = .ok (.goto 4, 3) := by decide +kernel
theorem zd_M_suits_90 : decode ze_M_suits 90 = .ok (.iconst 0, 1) := by decide +kernel
theorem zd_M_suits_91 : decode ze_M_suits 91 = .ok (.istore 4, 2) := by decide +kernel
theorem zd_M_suits_93 : decode ze_M_suits 93 = .ok (.iinc 5 1, 3) := by decide +kernel
theorem zd_M_suits_96 : decode ze_M_suits 96 = .ok (.goto (-32), 3) := by decide +kernel
theorem zd_M_suits_99 : decode ze_M_suits 99 = .ok (.iload 4, 2) := by decide +kernel
theorem zd_M_suits_101 : decode ze_M_suits 101 = .ok (.ifCond .ne 7, 3) := by decide +kernel
theorem zd_M_suits_104 : decode ze_M_suits 104 = .ok (.iconst 1, 1) := by decide +kernel
theorem zd_M_suits_105 : decode ze_M_suits 105 = .ok (.goto 4, 3) := by decide +kernel
theorem zd_M_suits_108 : decode ze_M_suits 108 = .ok (.iconst 0, 1) := by decide +kernel
theorem zd_M_suits_109 : decode ze_M_suits 109 = .ok (.ireturn, 1) := by decide +kernel
theorem zd_M_signedBy_0 : decode ze_M_signedBy 0 = .ok (.aload_n 0, 1) := by decide +kernel
theorem zd_M_signedBy_1 : decode ze_M_signedBy 1 = .ok (.lload_n 1, 1) := by decide +kernel
theorem zd_M_signedBy_2 : decode ze_M_signedBy 2 = .ok (.aload_n 0, 1) := by decide +kernel
theorem zd_M_signedBy_3 : decode ze_M_signedBy 3 = .ok (.iload 5, 2) := by decide +kernel
theorem zd_M_signedBy_5 : decode ze_M_signedBy 5 = .ok (.iconst 5, 1) := by decide +kernel
theorem zd_M_signedBy_6 : decode ze_M_signedBy 6 = .ok (.invokevirtual 258, 3) := by decide +kernel
theorem zd_M_signedBy_9 : decode ze_M_signedBy 9 = .ok (.aload_n 0, 1) := by decide +kernel
theorem zd_M_signedBy_10 : decode ze_M_signedBy 10 = .ok (.iload 5, 2) := by decide +kernel
theorem zd_M_signedBy_12 : decode ze_M_signedBy 12 = .ok (.bipush 6, 2) := by decide +kernel
theorem zd_M_signedBy_14 : decode ze_M_signedBy 14 = .ok (.invokevirtual 258, 3) := by decide +kernel
theorem zd_M_signedBy_17 : decode ze_M_signedBy 17 = .ok (.lload_n 3, 1) := by decide +kernel
theorem zd_M_signedBy_18 : decode ze_M_signedBy 18 = .ok (.l2i, 1) := by decide +kernel
theorem zd_M_signedBy_19 : decode ze_M_signedBy 19 = .ok (.invokevirtual 261, 3) := by decide +kernel
theorem zd_M_signedBy_22 : decode ze_M_signedBy 22 = .ok (.ireturn, 1) := by decide +kernel
theorem zd_M_listFor_0 : decode ze_M_listFor 0 = .ok (.iconst (-1), 1) := by decide +kernel
theorem zd_M_listFor_1 : decode ze_M_listFor 1 = .ok (.istore 5, 2) := by decide +kernel
theorem zd_M_listFor_3 : decode ze_M_listFor 3 = .ok (.aload_n 0, 1) := by decide +kernel
theorem zd_M_listFor_4 : decode ze_M_listFor 4 = .ok (.iload_n 2, 1) := by decide +kernel
theorem zd_M_listFor_5 : decode ze_M_listFor 5 = .ok (.bipush 10, 2) := by decide +kernel
theorem zd_M_listFor_7 : decode ze_M_listFor 7 = .ok (.invokevirtual 258, 3) := by decide +kernel
theorem zd_M_listFor_10 : decode ze_M_listFor 10 = .ok (.lstore 6, 2) := by decide +kernel
theorem zd_M_listFor_12 : decode ze_M_listFor 12 = .ok (.iconst 0, 1) := by decide +kernel
theorem zd_M_listFor_13 : decode ze_M_listFor 13 = .ok (.istore 8, 2) := by decide +kernel
theorem zd_M_listFor_15 : decode ze_M_listFor 15 = .ok (.iload 8, 2) := by decide +kernel
theorem zd_M_listFor_17 : decode ze_M_listFor 17 = .ok (.aload_n 0, 1) := by decide +kernel
theorem zd_M_listFor_18 : decode ze_M_listFor 18 = .ok (.getfield 245, 3) := by decide +kernel
theorem zd_M_listFor_21 : decode ze_M_listFor 21 = .ok (.if_icmp .ge 171, 3) := by decide +kernel
theorem zd_M_listFor_24 : decode ze_M_listFor 24 = .ok (.aload_n 0, 1) := by decide +kernel
theorem zd_M_listFor_25 : decode ze_M_listFor 25 = .ok (.getfield 80, 3) := by decide +kernel
theorem zd_M_listFor_28 : decode ze_M_listFor 28 = .ok (.bipush 6, 2) := by decide +kernel
theorem zd_M_listFor_30 : decode ze_M_listFor 30 = .ok (.iload 8, 2) := by decide +kernel
theorem zd_M_listFor_32 : decode ze_M_listFor 32 = .ok (.imul, 1) := by decide +kernel
theorem zd_M_listFor_33 : decode ze_M_listFor 33 = .ok (.laload, 1) := by decide +kernel
theorem zd_M_listFor_34 : decode ze_M_listFor 34 = .ok (.aload_n 0, 1) := by decide +kernel
theorem zd_M_listFor_35 : decode ze_M_listFor 35 = .ok (.iload_n 1, 1) := by decide +kernel
theorem zd_M_listFor_36 : decode ze_M_listFor 36 = .ok (.iconst 1, 1) := by decide +kernel
theorem zd_M_listFor_37 : decode ze_M_listFor 37 = .ok (.invokevirtual 258, 3) := by decide +kernel
theorem zd_M_listFor_40 : decode ze_M_listFor 40 = .ok (.lcmp, 1) := by decide +kernel
theorem zd_M_listFor_41 : decode ze_M_listFor 41 = .ok (.ifCond .ne 56, 3) := by decide +kernel
theorem zd_M_listFor_44 : decode ze_M_listFor 44 = .ok (.lload_n 3, 1) := by decide +kernel
theorem zd_M_listFor_45 : decode ze_M_listFor 45 = .ok (.aload_n 0, 1) := by decide +kernel
theorem zd_M_listFor_46 : decode ze_M_listFor 46 = .ok (.getfield 80, 3) := by decide +kernel
theorem zd_M_listFor_49 : decode ze_M_listFor 49 = .ok (.bipush 6, 2) := by decide +kernel
theorem zd_M_listFor_51 : decode ze_M_listFor 51 = .ok (.iload 8, 2) := by decide +kernel
theorem zd_M_listFor_53 : decode ze_M_listFor 53 = .ok (.imul, 1) := by decide +kernel
theorem zd_M_listFor_54 : decode ze_M_listFor 54 = .ok (.iconst 1, 1) := by decide +kernel
theorem zd_M_listFor_55 : decode ze_M_listFor 55 = .ok (.iadd, 1) := by decide +kernel
theorem zd_M_listFor_56 : decode ze_M_listFor 56 = .ok (.laload, 1) := by decide +kernel
theorem zd_M_listFor_57 : decode ze_M_listFor 57 = .ok (.aload_n 0, 1) := by decide +kernel
theorem zd_M_listFor_58 : decode ze_M_listFor 58 = .ok (.getfield 80, 3) := by decide +kernel
theorem zd_M_listFor_61 : decode ze_M_listFor 61 = .ok (.bipush 6, 2) := by decide +kernel
theorem zd_M_listFor_63 : decode ze_M_listFor 63 = .ok (.iload 8, 2) := by decide +kernel
theorem zd_M_listFor_65 : decode ze_M_listFor 65 = .ok (.imul, 1) := by decide +kernel
theorem zd_M_listFor_66 : decode ze_M_listFor 66 = .ok (.iconst 2, 1) := by decide +kernel
theorem zd_M_listFor_67 : decode ze_M_listFor 67 = .ok (.iadd, 1) := by decide +kernel
theorem zd_M_listFor_68 : decode ze_M_listFor 68 = .ok (.laload, 1) := by decide +kernel
theorem zd_M_listFor_69 : decode ze_M_listFor 69 = .ok (.invokestatic 125, 3) := by decide +kernel
theorem zd_M_listFor_72 : decode ze_M_listFor 72 = .ok (.ifCond .eq 25, 3) := by decide +kernel
theorem zd_M_listFor_75 : decode ze_M_listFor 75 = .ok (.lload 6, 2) := by decide +kernel
theorem zd_M_listFor_77 : decode ze_M_listFor 77 = .ok (.lconst 0, 1) := by decide +kernel
theorem zd_M_listFor_78 : decode ze_M_listFor 78 = .ok (.lcmp, 1) := by decide +kernel
theorem zd_M_listFor_79 : decode ze_M_listFor 79 = .ok (.ifCond .eq 14, 3) := by decide +kernel
theorem zd_M_listFor_82 : decode ze_M_listFor 82 = .ok (.lload 6, 2) := by decide +kernel
theorem zd_M_listFor_84 : decode ze_M_listFor 84 = .ok (.ldc2_w 119, 3) := by decide +kernel
theorem zd_M_listFor_87 : decode ze_M_listFor 87 = .ok (.land, 1) := by decide +kernel
theorem zd_M_listFor_88 : decode ze_M_listFor 88 = .ok (.lconst 0, 1) := by decide +kernel
theorem zd_M_listFor_89 : decode ze_M_listFor 89 = .ok (.lcmp, 1) := by decide +kernel
theorem zd_M_listFor_90 : decode ze_M_listFor 90 = .ok (.ifCond .eq 7, 3) := by decide +kernel
theorem zd_M_listFor_93 : decode ze_M_listFor 93 = .ok (.iconst 1, 1) := by decide +kernel
theorem zd_M_listFor_94 : decode ze_M_listFor 94 = .ok (.goto 4, 3) := by decide +kernel
theorem zd_M_listFor_97 : decode ze_M_listFor 97 = .ok (.iconst 0, 1) := by decide +kernel
theorem zd_M_listFor_98 : decode ze_M_listFor 98 = .ok (.istore 9, 2) := by decide +kernel
theorem zd_M_listFor_100 : decode ze_M_listFor 100 = .ok (.iload 5, 2) := by decide +kernel
theorem zd_M_listFor_102 : decode ze_M_listFor 102 = .ok (.ifCond .lt 31, 3) := by decide +kernel
theorem zd_M_listFor_105 : decode ze_M_listFor 105 = .ok (.aload_n 0, 1) := by decide +kernel
theorem zd_M_listFor_106 : decode ze_M_listFor 106 = .ok (.getfield 80, 3) := by decide +kernel
theorem zd_M_listFor_109 : decode ze_M_listFor 109 = .ok (.bipush 6, 2) := by decide +kernel
theorem zd_M_listFor_111 : decode ze_M_listFor 111 = .ok (.iload 8, 2) := by decide +kernel
theorem zd_M_listFor_113 : decode ze_M_listFor 113 = .ok (.imul, 1) := by decide +kernel
theorem zd_M_listFor_114 : decode ze_M_listFor 114 = .ok (.iconst 1, 1) := by decide +kernel
theorem zd_M_listFor_115 : decode ze_M_listFor 115 = .ok (.iadd, 1) := by decide +kernel
theorem zd_M_listFor_116 : decode ze_M_listFor 116 = .ok (.laload, 1) := by decide +kernel
theorem zd_M_listFor_117 : decode ze_M_listFor 117 = .ok (.aload_n 0, 1) := by decide +kernel
theorem zd_M_listFor_118 : decode ze_M_listFor 118 = .ok (.getfield 80, 3) := by decide +kernel
theorem zd_M_listFor_121 : decode ze_M_listFor 121 = .ok (.bipush 6, 2) := by decide +kernel
theorem zd_M_listFor_123 : decode ze_M_listFor 123 = .ok (.iload 5, 2) := by decide +kernel
theorem zd_M_listFor_125 : decode ze_M_listFor 125 = .ok (.imul, 1) := by decide +kernel
theorem zd_M_listFor_126 : decode ze_M_listFor 126 = .ok (.iconst 1, 1) := by decide +kernel
theorem zd_M_listFor_127 : decode ze_M_listFor 127 = .ok (.iadd, 1) := by decide +kernel
theorem zd_M_listFor_128 : decode ze_M_listFor 128 = .ok (.laload, 1) := by decide +kernel
theorem zd_M_listFor_129 : decode ze_M_listFor 129 = .ok (.lcmp, 1) := by decide +kernel
theorem zd_M_listFor_130 : decode ze_M_listFor 130 = .ok (.ifCond .le 7, 3) := by decide +kernel
theorem zd_M_listFor_133 : decode ze_M_listFor 133 = .ok (.iconst 1, 1) := by decide +kernel
theorem zd_M_listFor_134 : decode ze_M_listFor 134 = .ok (.goto 4, 3) := by decide +kernel
theorem zd_M_listFor_137 : decode ze_M_listFor 137 = .ok (.iconst 0, 1) := by decide +kernel
theorem zd_M_listFor_138 : decode ze_M_listFor 138 = .ok (.istore 10, 2) := by decide +kernel
theorem zd_M_listFor_140 : decode ze_M_listFor 140 = .ok (.iload 9, 2) := by decide +kernel
theorem zd_M_listFor_142 : decode ze_M_listFor 142 = .ok (.ifCond .eq 44, 3) := by decide +kernel
theorem zd_M_listFor_145 : decode ze_M_listFor 145 = .ok (.iload 10, 2) := by decide +kernel
theorem zd_M_listFor_147 : decode ze_M_listFor 147 = .ok (.ifCond .eq 39, 3) := by decide +kernel
theorem zd_M_listFor_150 : decode ze_M_listFor 150 = .ok (.aload_n 0, 1) := by decide +kernel
theorem zd_M_listFor_151 : decode ze_M_listFor 151 = .ok (.aload_n 0, 1) := by decide +kernel
theorem zd_M_listFor_152 : decode ze_M_listFor 152 = .ok (.getfield 80, 3) := by decide +kernel
theorem zd_M_listFor_155 : decode ze_M_listFor 155 = .ok (.bipush 6, 2) := by decide +kernel
theorem zd_M_listFor_157 : decode ze_M_listFor 157 = .ok (.iload 8, 2) := by decide +kernel
theorem zd_M_listFor_159 : decode ze_M_listFor 159 = .ok (.imul, 1) := by decide +kernel
theorem zd_M_listFor_160 : decode ze_M_listFor 160 = .ok (.iconst 4, 1) := by decide +kernel
theorem zd_M_listFor_161 : decode ze_M_listFor 161 = .ok (.iadd, 1) := by decide +kernel
theorem zd_M_listFor_162 : decode ze_M_listFor 162 = .ok (.laload, 1) := by decide +kernel
theorem zd_M_listFor_163 : decode ze_M_listFor 163 = .ok (.aload_n 0, 1) := by decide +kernel
theorem zd_M_listFor_164 : decode ze_M_listFor 164 = .ok (.getfield 80, 3) := by decide +kernel
theorem zd_M_listFor_167 : decode ze_M_listFor 167 = .ok (.bipush 6, 2) := by decide +kernel
theorem zd_M_listFor_169 : decode ze_M_listFor 169 = .ok (.iload 8, 2) := by decide +kernel
theorem zd_M_listFor_171 : decode ze_M_listFor 171 = .ok (.imul, 1) := by decide +kernel
theorem zd_M_listFor_172 : decode ze_M_listFor 172 = .ok (.iconst 5, 1) := by decide +kernel
theorem zd_M_listFor_173 : decode ze_M_listFor 173 = .ok (.iadd, 1) := by decide +kernel
theorem zd_M_listFor_174 : decode ze_M_listFor 174 = .ok (.laload, 1) := by decide +kernel
theorem zd_M_listFor_175 : decode ze_M_listFor 175 = .ok (.iload_n 2, 1) := by decide +kernel
theorem zd_M_listFor_176 : decode ze_M_listFor 176 = .ok (.invokevirtual 265, 3) := by decide +kernel
theorem zd_M_listFor_179 : decode ze_M_listFor 179 = .ok (.ifCond .eq 7, 3) := by decide +kernel
theorem zd_M_listFor_182 : decode ze_M_listFor 182 = .ok (.iload 8, 2) := by decide +kernel
theorem zd_M_listFor_184 : decode ze_M_listFor 184 = .ok (.istore 5, 2) := by decide +kernel
theorem zd_M_listFor_186 : decode ze_M_listFor 186 = .ok (.iinc 8 1, 3) := by decide +kernel
theorem zd_M_listFor_189 : decode ze_M_listFor 189 = .ok (.goto (-174), 3) := by decide +kernel
theorem zd_M_listFor_192 : decode ze_M_listFor 192 = .ok (.iload 5, 2) := by decide +kernel
theorem zd_M_listFor_194 : decode ze_M_listFor 194 = .ok (.ireturn, 1) := by decide +kernel
theorem zd_M_isRevoked_0 : decode ze_M_isRevoked 0 = .ok (.iconst 0, 1) := by decide +kernel
theorem zd_M_isRevoked_1 : decode ze_M_isRevoked 1 = .ok (.istore 5, 2) := by decide +kernel
theorem zd_M_isRevoked_3 : decode ze_M_isRevoked 3 = .ok (.iconst 0, 1) := by decide +kernel
theorem zd_M_isRevoked_4 : decode ze_M_isRevoked 4 = .ok (.istore 6, 2) := by decide +kernel
theorem zd_M_isRevoked_6 : decode ze_M_isRevoked 6 = .ok (.iload_n 2, 1) := by decide +kernel
theorem zd_M_isRevoked_7 : decode ze_M_isRevoked 7 = .ok (.ifCond .lt 76, 3) := by decide +kernel
theorem zd_M_isRevoked_10 : decode ze_M_isRevoked 10 = .ok (.iload 6, 2) := by decide +kernel
theorem zd_M_isRevoked_12 : decode ze_M_isRevoked 12 = .ok (.i2l, 1) := by decide +kernel
theorem zd_M_isRevoked_13 : decode ze_M_isRevoked 13 = .ok (.aload_n 0, 1) := by decide +kernel
theorem zd_M_isRevoked_14 : decode ze_M_isRevoked 14 = .ok (.getfield 80, 3) := by decide +kernel
theorem zd_M_isRevoked_17 : decode ze_M_isRevoked 17 = .ok (.bipush 6, 2) := by decide +kernel
theorem zd_M_isRevoked_19 : decode ze_M_isRevoked 19 = .ok (.iload_n 2, 1) := by decide +kernel
theorem zd_M_isRevoked_20 : decode ze_M_isRevoked 20 = .ok (.imul, 1) := by decide +kernel
theorem zd_M_isRevoked_21 : decode ze_M_isRevoked 21 = .ok (.iconst 3, 1) := by decide +kernel
theorem zd_M_isRevoked_22 : decode ze_M_isRevoked 22 = .ok (.iadd, 1) := by decide +kernel
theorem zd_M_isRevoked_23 : decode ze_M_isRevoked 23 = .ok (.laload, 1) := by decide +kernel
theorem zd_M_isRevoked_24 : decode ze_M_isRevoked 24 = .ok (.lcmp, 1) := by decide +kernel
theorem zd_M_isRevoked_25 : decode ze_M_isRevoked 25 = .ok (.ifCond .ge 58, 3) := by decide +kernel
theorem zd_M_isRevoked_28 : decode ze_M_isRevoked 28 = .ok (.iload 5, 2) := by decide +kernel
theorem zd_M_isRevoked_30 : decode ze_M_isRevoked 30 = .ok (.ifCond .ne 40, 3) := by decide +kernel
theorem zd_M_isRevoked_33 : decode ze_M_isRevoked 33 = .ok (.aload_n 0, 1) := by decide +kernel
theorem zd_M_isRevoked_34 : decode ze_M_isRevoked 34 = .ok (.getfield 83, 3) := by decide +kernel
theorem zd_M_isRevoked_37 : decode ze_M_isRevoked 37 = .ok (.iconst 4, 1) := by decide +kernel
theorem zd_M_isRevoked_38 : decode ze_M_isRevoked 38 = .ok (.iload_n 2, 1) := by decide +kernel
theorem zd_M_isRevoked_39 : decode ze_M_isRevoked 39 = .ok (.imul, 1) := by decide +kernel
theorem zd_M_isRevoked_40 : decode ze_M_isRevoked 40 = .ok (.iload 6, 2) := by decide +kernel
theorem zd_M_isRevoked_42 : decode ze_M_isRevoked 42 = .ok (.iadd, 1) := by decide +kernel
theorem zd_M_isRevoked_43 : decode ze_M_isRevoked 43 = .ok (.laload, 1) := by decide +kernel
theorem zd_M_isRevoked_44 : decode ze_M_isRevoked 44 = .ok (.aload_n 0, 1) := by decide +kernel
theorem zd_M_isRevoked_45 : decode ze_M_isRevoked 45 = .ok (.iload_n 1, 1) := by decide +kernel
theorem zd_M_isRevoked_46 : decode ze_M_isRevoked 46 = .ok (.iconst 0, 1) := by decide +kernel
theorem zd_M_isRevoked_47 : decode ze_M_isRevoked 47 = .ok (.invokevirtual 258, 3) := by decide +kernel
theorem zd_M_isRevoked_50 : decode ze_M_isRevoked 50 = .ok (.lcmp, 1) := by decide +kernel
theorem zd_M_isRevoked_51 : decode ze_M_isRevoked 51 = .ok (.ifCond .ne 23, 3) := by decide +kernel
theorem zd_M_isRevoked_54 : decode ze_M_isRevoked 54 = .ok (.aload_n 0, 1) := by decide +kernel
theorem zd_M_isRevoked_55 : decode ze_M_isRevoked 55 = .ok (.getfield 86, 3) := by decide +kernel
theorem zd_M_isRevoked_58 : decode ze_M_isRevoked 58 = .ok (.iconst 4, 1) := by decide +kernel
theorem zd_M_isRevoked_59 : decode ze_M_isRevoked 59 = .ok (.iload_n 2, 1) := by decide +kernel
theorem zd_M_isRevoked_60 : decode ze_M_isRevoked 60 = .ok (.imul, 1) := by decide +kernel
theorem zd_M_isRevoked_61 : decode ze_M_isRevoked 61 = .ok (.iload 6, 2) := by decide +kernel
theorem zd_M_isRevoked_63 : decode ze_M_isRevoked 63 = .ok (.iadd, 1) := by decide +kernel
theorem zd_M_isRevoked_64 : decode ze_M_isRevoked 64 = .ok (.laload, 1) := by decide +kernel
theorem zd_M_isRevoked_65 : decode ze_M_isRevoked 65 = .ok (.lload_n 3, 1) := by decide +kernel
theorem zd_M_isRevoked_66 : decode ze_M_isRevoked 66 = .ok (.lcmp, 1) := by decide +kernel
theorem zd_M_isRevoked_67 : decode ze_M_isRevoked 67 = .ok (.ifCond .gt 7, 3) := by decide +kernel
theorem zd_M_isRevoked_70 : decode ze_M_isRevoked 70 = .ok (.iconst 1, 1) := by decide +kernel
theorem zd_M_isRevoked_71 : decode ze_M_isRevoked 71 = .ok (.goto 4, 3) := by decide +kernel
theorem zd_M_isRevoked_74 : decode ze_M_isRevoked 74 = .ok (.iconst 0, 1) := by decide +kernel
theorem zd_M_isRevoked_75 : decode ze_M_isRevoked 75 = .ok (.istore 5, 2) := by decide +kernel
theorem zd_M_isRevoked_77 : decode ze_M_isRevoked 77 = .ok (.iinc 6 1, 3) := by decide +kernel
theorem zd_M_isRevoked_80 : decode ze_M_isRevoked 80 = .ok (.goto (-74), 3) := by decide +kernel
theorem zd_M_isRevoked_83 : decode ze_M_isRevoked 83 = .ok (.iload 5, 2) := by decide +kernel
theorem zd_M_isRevoked_85 : decode ze_M_isRevoked 85 = .ok (.ireturn, 1) := by decide +kernel
theorem zd_M_letters_0 : decode ze_M_letters 0 = .ok (.iconst 0, 1) := by decide +kernel
theorem zd_M_letters_1 : decode ze_M_letters 1 = .ok (.istore_n 2, 1) := by decide +kernel
theorem zd_M_letters_2 : decode ze_M_letters 2 = .ok (.iload_n 2, 1) := by decide +kernel
theorem zd_M_letters_3 : decode ze_M_letters 3 = .ok (.bipush 8, 2) := by decide +kernel
theorem zd_M_letters_5 : decode ze_M_letters 5 = .ok (.if_icmp .ge 23, 3) := by decide +kernel
theorem zd_M_letters_8 : decode ze_M_letters 8 = .ok (.lload_n 0, 1) := by decide +kernel
theorem zd_M_letters_9 : decode ze_M_letters 9 = .ok (.iconst 5, 1) := by decide +kernel
theorem zd_M_letters_10 : decode ze_M_letters 10 = .ok (.iload_n 2, 1) := by decide +kernel
theorem zd_M_letters_11 : decode ze_M_letters 11 = .ok (.imul, 1) := by decide +kernel
theorem zd_M_letters_12 : decode ze_M_letters 12 = .ok (.lshr, 1) := by decide +kernel
theorem zd_M_letters_13 : decode ze_M_letters 13 = .ok (.ldc2_w 131, 3) := by decide +kernel
theorem zd_M_letters_16 : decode ze_M_letters 16 = .ok (.land, 1) := by decide +kernel
theorem zd_M_letters_17 : decode ze_M_letters 17 = .ok (.lconst 0, 1) := by decide +kernel
theorem zd_M_letters_18 : decode ze_M_letters 18 = .ok (.lcmp, 1) := by decide +kernel
theorem zd_M_letters_19 : decode ze_M_letters 19 = .ok (.ifCond .le 9, 3) := by decide +kernel
theorem zd_M_letters_22 : decode ze_M_letters 22 = .ok (.iinc 2 1, 3) := by decide +kernel
theorem zd_M_letters_25 : decode ze_M_letters 25 = .ok (.goto (-23), 3) := by decide +kernel
theorem zd_M_letters_28 : decode ze_M_letters 28 = .ok (.iload_n 2, 1) := by decide +kernel
theorem zd_M_letters_29 : decode ze_M_letters 29 = .ok (.ireturn, 1) := by decide +kernel
theorem zd_M_within_0 : decode ze_M_within 0 = .ok (.lload_n 0, 1) := by decide +kernel
theorem zd_M_within_1 : decode ze_M_within 1 = .ok (.invokestatic 133, 3) := by decide +kernel
theorem zd_M_within_4 : decode ze_M_within 4 = .ok (.lload_n 2, 1) := by decide +kernel
theorem zd_M_within_5 : decode ze_M_within 5 = .ok (.invokestatic 133, 3) := by decide +kernel
theorem zd_M_within_8 : decode ze_M_within 8 = .ok (.isub, 1) := by decide +kernel
theorem zd_M_within_9 : decode ze_M_within 9 = .ok (.istore 4, 2) := by decide +kernel
theorem zd_M_within_11 : decode ze_M_within 11 = .ok (.iload 4, 2) := by decide +kernel
theorem zd_M_within_13 : decode ze_M_within 13 = .ok (.iconst 1, 1) := by decide +kernel
theorem zd_M_within_14 : decode ze_M_within 14 = .ok (.if_icmp .ge 15, 3) := by decide +kernel
theorem zd_M_within_17 : decode ze_M_within 17 = .ok (.lload_n 0, 1) := by decide +kernel
theorem zd_M_within_18 : decode ze_M_within 18 = .ok (.lload_n 2, 1) := by decide +kernel
theorem zd_M_within_19 : decode ze_M_within 19 = .ok (.lcmp, 1) := by decide +kernel
theorem zd_M_within_20 : decode ze_M_within 20 = .ok (.ifCond .ne 7, 3) := by decide +kernel
theorem zd_M_within_23 : decode ze_M_within 23 = .ok (.iconst 1, 1) := by decide +kernel
theorem zd_M_within_24 : decode ze_M_within 24 = .ok (.goto 4, 3) := by decide +kernel
theorem zd_M_within_27 : decode ze_M_within 27 = .ok (.iconst 0, 1) := by decide +kernel
theorem zd_M_within_28 : decode ze_M_within 28 = .ok (.ireturn, 1) := by decide +kernel
theorem zd_M_within_29 : decode ze_M_within 29 = .ok (.lload_n 0, 1) := by decide +kernel
theorem zd_M_within_30 : decode ze_M_within 30 = .ok (.iconst 5, 1) := by decide +kernel
theorem zd_M_within_31 : decode ze_M_within 31 = .ok (.iload 4, 2) := by decide +kernel
theorem zd_M_within_33 : decode ze_M_within 33 = .ok (.imul, 1) := by decide +kernel
theorem zd_M_within_34 : decode ze_M_within 34 = .ok (.lshr, 1) := by decide +kernel
theorem zd_M_within_35 : decode ze_M_within 35 = .ok (.lload_n 2, 1) := by decide +kernel
theorem zd_M_within_36 : decode ze_M_within 36 = .ok (.lcmp, 1) := by decide +kernel
theorem zd_M_within_37 : decode ze_M_within 37 = .ok (.ifCond .ne 26, 3) := by decide +kernel
theorem zd_M_within_40 : decode ze_M_within 40 = .ok (.lload_n 0, 1) := by decide +kernel
theorem zd_M_within_41 : decode ze_M_within 41 = .ok (.iconst 5, 1) := by decide +kernel
theorem zd_M_within_42 : decode ze_M_within 42 = .ok (.iload 4, 2) := by decide +kernel
theorem zd_M_within_44 : decode ze_M_within 44 = .ok (.iconst 1, 1) := by decide +kernel
theorem zd_M_within_45 : decode ze_M_within 45 = .ok (.isub, 1) := by decide +kernel
theorem zd_M_within_46 : decode ze_M_within 46 = .ok (.imul, 1) := by decide +kernel
theorem zd_M_within_47 : decode ze_M_within 47 = .ok (.lshr, 1) := by decide +kernel
theorem zd_M_within_48 : decode ze_M_within 48 = .ok (.ldc2_w 131, 3) := by decide +kernel
theorem zd_M_within_51 : decode ze_M_within 51 = .ok (.land, 1) := by decide +kernel
theorem zd_M_within_52 : decode ze_M_within 52 = .ok (.ldc2_w 137, 3) := by decide +kernel
theorem zd_M_within_55 : decode ze_M_within 55 = .ok (.lcmp, 1) := by decide +kernel
theorem zd_M_within_56 : decode ze_M_within 56 = .ok (.ifCond .ne 7, 3) := by decide +kernel
theorem zd_M_within_59 : decode ze_M_within 59 = .ok (.iconst 1, 1) := by decide +kernel
theorem zd_M_within_60 : decode ze_M_within 60 = .ok (.goto 4, 3) := by decide +kernel
theorem zd_M_within_63 : decode ze_M_within 63 = .ok (.iconst 0, 1) := by decide +kernel
theorem zd_M_within_64 : decode ze_M_within 64 = .ok (.ireturn, 1) := by decide +kernel
theorem zd_M_keptOut_0 : decode ze_M_keptOut 0 = .ok (.aload_n 0, 1) := by decide +kernel
theorem zd_M_keptOut_1 : decode ze_M_keptOut 1 = .ok (.aload_n 0, 1) := by decide +kernel
theorem zd_M_keptOut_2 : decode ze_M_keptOut 2 = .ok (.getfield 89, 3) := by decide +kernel
theorem zd_M_keptOut_5 : decode ze_M_keptOut 5 = .ok (.iload_n 1, 1) := by decide +kernel
theorem zd_M_keptOut_6 : decode ze_M_keptOut 6 = .ok (.iaload, 1) := by decide +kernel
theorem zd_M_keptOut_7 : decode ze_M_keptOut 7 = .ok (.iconst 4, 1) := by decide +kernel
theorem zd_M_keptOut_8 : decode ze_M_keptOut 8 = .ok (.invokevirtual 258, 3) := by decide +kernel
theorem zd_M_keptOut_11 : decode ze_M_keptOut 11 = .ok (.lstore_n 3, 1) := by decide +kernel
theorem zd_M_keptOut_12 : decode ze_M_keptOut 12 = .ok (.iconst 0, 1) := by decide +kernel
theorem zd_M_keptOut_13 : decode ze_M_keptOut 13 = .ok (.istore 5, 2) := by decide +kernel
theorem zd_M_keptOut_15 : decode ze_M_keptOut 15 = .ok (.iload_n 1, 1) := by decide +kernel
theorem zd_M_keptOut_16 : decode ze_M_keptOut 16 = .ok (.iconst 1, 1) := by decide +kernel
theorem zd_M_keptOut_17 : decode ze_M_keptOut 17 = .ok (.iadd, 1) := by decide +kernel
theorem zd_M_keptOut_18 : decode ze_M_keptOut 18 = .ok (.istore 6, 2) := by decide +kernel
theorem zd_M_keptOut_20 : decode ze_M_keptOut 20 = .ok (.iload 6, 2) := by decide +kernel
theorem zd_M_keptOut_22 : decode ze_M_keptOut 22 = .ok (.iload_n 2, 1) := by decide +kernel
theorem zd_M_keptOut_23 : decode ze_M_keptOut 23 = .ok (.iconst 1, 1) := by decide +kernel
theorem zd_M_keptOut_24 : decode ze_M_keptOut 24 = .ok (.isub, 1) := by decide +kernel
theorem zd_M_keptOut_25 : decode ze_M_keptOut 25 = .ok (.if_icmp .ge 83, 3) := by decide +kernel
theorem zd_M_keptOut_28 : decode ze_M_keptOut 28 = .ok (.aload_n 0, 1) := by decide +kernel
theorem zd_M_keptOut_29 : decode ze_M_keptOut 29 = .ok (.aload_n 0, 1) := by decide +kernel
theorem zd_M_keptOut_30 : decode ze_M_keptOut 30 = .ok (.getfield 89, 3) := by decide +kernel
theorem zd_M_keptOut_33 : decode ze_M_keptOut 33 = .ok (.iload 6, 2) := by decide +kernel
theorem zd_M_keptOut_35 : decode ze_M_keptOut 35 = .ok (.iaload, 1) := by decide +kernel
theorem zd_M_keptOut_36 : decode ze_M_keptOut 36 = .ok (.bipush 11, 2) := by decide +kernel
theorem zd_M_keptOut_38 : decode ze_M_keptOut 38 = .ok (.invokevirtual 258, 3) := by decide +kernel
theorem zd_M_keptOut_41 : decode ze_M_keptOut 41 = .ok (.lstore 7, 2) := by decide +kernel
theorem zd_M_keptOut_43 : decode ze_M_keptOut 43 = .ok (.aload_n 0, 1) := by decide +kernel
theorem zd_M_keptOut_44 : decode ze_M_keptOut 44 = .ok (.aload_n 0, 1) := by decide +kernel
theorem zd_M_keptOut_45 : decode ze_M_keptOut 45 = .ok (.getfield 89, 3) := by decide +kernel
theorem zd_M_keptOut_48 : decode ze_M_keptOut 48 = .ok (.iload 6, 2) := by decide +kernel
theorem zd_M_keptOut_50 : decode ze_M_keptOut 50 = .ok (.iaload, 1) := by decide +kernel
theorem zd_M_keptOut_51 : decode ze_M_keptOut 51 = .ok (.bipush 12, 2) := by decide +kernel
theorem zd_M_keptOut_53 : decode ze_M_keptOut 53 = .ok (.invokevirtual 258, 3) := by decide +kernel
theorem zd_M_keptOut_56 : decode ze_M_keptOut 56 = .ok (.lstore 9, 2) := by decide +kernel
theorem zd_M_keptOut_58 : decode ze_M_keptOut 58 = .ok (.iload 5, 2) := by decide +kernel
theorem zd_M_keptOut_60 : decode ze_M_keptOut 60 = .ok (.ifCond .ne 35, 3) := by decide +kernel
theorem zd_M_keptOut_63 : decode ze_M_keptOut 63 = .ok (.lload 7, 2) := by decide +kernel
theorem zd_M_keptOut_65 : decode ze_M_keptOut 65 = .ok (.lconst 0, 1) := by decide +kernel
theorem zd_M_keptOut_66 : decode ze_M_keptOut 66 = .ok (.lcmp, 1) := by decide +kernel
theorem zd_M_keptOut_67 : decode ze_M_keptOut 67 = .ok (.ifCond .eq 12, 3) := by decide +kernel
theorem zd_M_keptOut_70 : decode ze_M_keptOut 70 = .ok (.lload_n 3, 1) := by decide +kernel
theorem zd_M_keptOut_71 : decode ze_M_keptOut 71 = .ok (.lload 7, 2) := by decide +kernel
theorem zd_M_keptOut_73 : decode ze_M_keptOut 73 = .ok (.invokestatic 269, 3) := by decide +kernel
theorem zd_M_keptOut_76 : decode ze_M_keptOut 76 = .ok (.ifCond .eq 19, 3) := by decide +kernel
theorem zd_M_keptOut_79 : decode ze_M_keptOut 79 = .ok (.lload 9, 2) := by decide +kernel
theorem zd_M_keptOut_81 : decode ze_M_keptOut 81 = .ok (.lconst 0, 1) := by decide +kernel
theorem zd_M_keptOut_82 : decode ze_M_keptOut 82 = .ok (.lcmp, 1) := by decide +kernel
theorem zd_M_keptOut_83 : decode ze_M_keptOut 83 = .ok (.ifCond .eq 16, 3) := by decide +kernel
theorem zd_M_keptOut_86 : decode ze_M_keptOut 86 = .ok (.lload_n 3, 1) := by decide +kernel
theorem zd_M_keptOut_87 : decode ze_M_keptOut 87 = .ok (.lload 9, 2) := by decide +kernel
theorem zd_M_keptOut_89 : decode ze_M_keptOut 89 = .ok (.invokestatic 269, 3) := by decide +kernel
theorem zd_M_keptOut_92 : decode ze_M_keptOut 92 = .ok (.ifCond .eq 7, 3) := by decide +kernel
theorem zd_M_keptOut_95 : decode ze_M_keptOut 95 = .ok (.iconst 1, 1) := by decide +kernel
theorem zd_M_keptOut_96 : decode ze_M_keptOut 96 = .ok (.goto 4, 3) := by decide +kernel
theorem zd_M_keptOut_99 : decode ze_M_keptOut 99 = .ok (.iconst 0, 1) := by decide +kernel
theorem zd_M_keptOut_100 : decode ze_M_keptOut 100 = .ok (.istore 5, 2) := by decide +kernel
theorem zd_M_keptOut_102 : decode ze_M_keptOut 102 = .ok (.iinc 6 1, 3) := by decide +kernel
theorem zd_M_keptOut_105 : decode ze_M_keptOut 105 = .ok (.goto (-85), 3) := by decide +kernel
theorem zd_M_keptOut_108 : decode ze_M_keptOut 108 = .ok (.iload 5, 2) := by decide +kernel
theorem zd_M_keptOut_110 : decode ze_M_keptOut 110 = .ok (.ireturn, 1) := by decide +kernel
theorem zd_M_between_0 : decode ze_M_between 0 = .ok (.iconst 0, 1) := by decide +kernel
theorem zd_M_between_1 : decode ze_M_between 1 = .ok (.istore_n 2, 1) := by decide +kernel
theorem zd_M_between_2 : decode ze_M_between 2 = .ok (.iconst 1, 1) := by decide +kernel
theorem zd_M_between_3 : decode ze_M_between 3 = .ok (.istore_n 3, 1) := by decide +kernel
theorem zd_M_between_4 : decode ze_M_between 4 = .ok (.iload_n 3, 1) := by decide +kernel
theorem zd_M_between_5 : decode ze_M_between 5 = .ok (.iload_n 1, 1) := by decide +kernel
theorem zd_M_between_6 : decode ze_M_between 6 = .ok (.if_icmp .ge 43, 3) := by decide +kernel
theorem zd_M_between_9 : decode ze_M_between 9 = .ok (.iload_n 2, 1) := by decide +kernel
theorem zd_M_between_10 : decode ze_M_between 10 = .ok (.aload_n 0, 1) := by decide +kernel
theorem zd_M_between_11 : decode ze_M_between 11 = .ok (.aload_n 0, 1) := by decide +kernel
theorem zd_M_between_12 : decode ze_M_between 12 = .ok (.getfield 89, 3) := by decide +kernel
theorem zd_M_between_15 : decode ze_M_between 15 = .ok (.iload_n 3, 1) := by decide +kernel
theorem zd_M_between_16 : decode ze_M_between 16 = .ok (.iaload, 1) := by decide +kernel
theorem zd_M_between_17 : decode ze_M_between 17 = .ok (.iconst 1, 1) := by decide +kernel
theorem zd_M_between_18 : decode ze_M_between 18 = .ok (.invokevirtual 258, 3) := by decide +kernel
theorem zd_M_between_21 : decode ze_M_between 21 = .ok (.aload_n 0, 1) := by decide +kernel
theorem zd_M_between_22 : decode ze_M_between 22 = .ok (.aload_n 0, 1) := by decide +kernel
theorem zd_M_between_23 : decode ze_M_between 23 = .ok (.getfield 89, 3) := by decide +kernel
theorem zd_M_between_26 : decode ze_M_between 26 = .ok (.iload_n 3, 1) := by decide +kernel
theorem zd_M_between_27 : decode ze_M_between 27 = .ok (.iaload, 1) := by decide +kernel
theorem zd_M_between_28 : decode ze_M_between 28 = .ok (.iconst 4, 1) := by decide +kernel
theorem zd_M_between_29 : decode ze_M_between 29 = .ok (.invokevirtual 258, 3) := by decide +kernel
theorem zd_M_between_32 : decode ze_M_between 32 = .ok (.lcmp, 1) := by decide +kernel
theorem zd_M_between_33 : decode ze_M_between 33 = .ok (.ifCond .ne 7, 3) := by decide +kernel
theorem zd_M_between_36 : decode ze_M_between 36 = .ok (.iconst 0, 1) := by decide +kernel
theorem zd_M_between_37 : decode ze_M_between 37 = .ok (.goto 4, 3) := by decide +kernel
theorem zd_M_between_40 : decode ze_M_between 40 = .ok (.iconst 1, 1) := by decide +kernel
theorem zd_M_between_41 : decode ze_M_between 41 = .ok (.iadd, 1) := by decide +kernel
theorem zd_M_between_42 : decode ze_M_between 42 = .ok (.istore_n 2, 1) := by decide +kernel
theorem zd_M_between_43 : decode ze_M_between 43 = .ok (.iinc 3 1, 3) := by decide +kernel
theorem zd_M_between_46 : decode ze_M_between 46 = .ok (.goto (-42), 3) := by decide +kernel
theorem zd_M_between_49 : decode ze_M_between 49 = .ok (.iload_n 2, 1) := by decide +kernel
theorem zd_M_between_50 : decode ze_M_between 50 = .ok (.ireturn, 1) := by decide +kernel
theorem zd_M_against_0 : decode ze_M_against 0 = .ok (.aload_n 0, 1) := by decide +kernel
theorem zd_M_against_1 : decode ze_M_against 1 = .ok (.getfield 89, 3) := by decide +kernel
theorem zd_M_against_4 : decode ze_M_against 4 = .ok (.iload_n 1, 1) := by decide +kernel
theorem zd_M_against_5 : decode ze_M_against 5 = .ok (.iaload, 1) := by decide +kernel
theorem zd_M_against_6 : decode ze_M_against 6 = .ok (.istore 6, 2) := by decide +kernel
theorem zd_M_against_8 : decode ze_M_against 8 = .ok (.aload_n 0, 1) := by decide +kernel
theorem zd_M_against_9 : decode ze_M_against 9 = .ok (.getfield 89, 3) := by decide +kernel
theorem zd_M_against_12 : decode ze_M_against 12 = .ok (.iload_n 1, 1) := by decide +kernel
theorem zd_M_against_13 : decode ze_M_against 13 = .ok (.iconst 1, 1) := by decide +kernel
theorem zd_M_against_14 : decode ze_M_against 14 = .ok (.iadd, 1) := by decide +kernel
theorem zd_M_against_15 : decode ze_M_against 15 = .ok (.iaload, 1) := by decide +kernel
theorem zd_M_against_16 : decode ze_M_against 16 = .ok (.istore 7, 2) := by decide +kernel
theorem zd_M_against_18 : decode ze_M_against 18 = .ok (.aload_n 0, 1) := by decide +kernel
theorem zd_M_against_19 : decode ze_M_against 19 = .ok (.aload_n 0, 1) := by decide +kernel
theorem zd_M_against_20 : decode ze_M_against 20 = .ok (.iload 6, 2) := by decide +kernel
theorem zd_M_against_22 : decode ze_M_against 22 = .ok (.bipush 7, 2) := by decide +kernel
theorem zd_M_against_24 : decode ze_M_against 24 = .ok (.invokevirtual 258, 3) := by decide +kernel
theorem zd_M_against_27 : decode ze_M_against 27 = .ok (.aload_n 0, 1) := by decide +kernel
theorem zd_M_against_28 : decode ze_M_against 28 = .ok (.iload 6, 2) := by decide +kernel
theorem zd_M_against_30 : decode ze_M_against 30 = .ok (.bipush 8, 2) := by decide +kernel
theorem zd_M_against_32 : decode ze_M_against 32 = .ok (.invokevirtual 258, 3) := by decide +kernel
theorem zd_M_against_35 : decode ze_M_against 35 = .ok (.iload 7, 2) := by decide +kernel
theorem zd_M_against_37 : decode ze_M_against 37 = .ok (.invokevirtual 265, 3) := by decide +kernel
theorem zd_M_against_40 : decode ze_M_against 40 = .ok (.ifCond .ne 5, 3) := by decide +kernel
theorem zd_M_against_43 : decode ze_M_against 43 = .ok (.iconst 1, 1) := by decide +kernel
theorem zd_M_against_44 : decode ze_M_against 44 = .ok (.ireturn, 1) := by decide +kernel
theorem zd_M_against_45 : decode ze_M_against 45 = .ok (.lload_n 3, 1) := by decide +kernel
theorem zd_M_against_46 : decode ze_M_against 46 = .ok (.aload_n 0, 1) := by decide +kernel
theorem zd_M_against_47 : decode ze_M_against 47 = .ok (.iload 6, 2) := by decide +kernel
theorem zd_M_against_49 : decode ze_M_against 49 = .ok (.iconst 2, 1) := by decide +kernel
theorem zd_M_against_50 : decode ze_M_against 50 = .ok (.invokevirtual 258, 3) := by decide +kernel
theorem zd_M_against_53 : decode ze_M_against 53 = .ok (.aload_n 0, 1) := by decide +kernel
theorem zd_M_against_54 : decode ze_M_against 54 = .ok (.iload 6, 2) := by decide +kernel
theorem zd_M_against_56 : decode ze_M_against 56 = .ok (.iconst 3, 1) := by decide +kernel
theorem zd_M_against_57 : decode ze_M_against 57 = .ok (.invokevirtual 258, 3) := by decide +kernel
theorem zd_M_against_60 : decode ze_M_against 60 = .ok (.invokestatic 125, 3) := by decide +kernel
theorem zd_M_against_63 : decode ze_M_against 63 = .ok (.ifCond .ne 5, 3) := by decide +kernel
theorem zd_M_against_66 : decode ze_M_against 66 = .ok (.iconst 2, 1) := by decide +kernel
theorem zd_M_against_67 : decode ze_M_against 67 = .ok (.ireturn, 1) := by decide +kernel
theorem zd_M_against_68 : decode ze_M_against 68 = .ok (.aload_n 0, 1) := by decide +kernel
theorem zd_M_against_69 : decode ze_M_against 69 = .ok (.iload 6, 2) := by decide +kernel
theorem zd_M_against_71 : decode ze_M_against 71 = .ok (.iload 7, 2) := by decide +kernel
theorem zd_M_against_73 : decode ze_M_against 73 = .ok (.lload_n 3, 1) := by decide +kernel
theorem zd_M_against_74 : decode ze_M_against 74 = .ok (.invokevirtual 273, 3) := by decide +kernel
theorem zd_M_against_77 : decode ze_M_against 77 = .ok (.istore 8, 2) := by decide +kernel
theorem zd_M_against_79 : decode ze_M_against 79 = .ok (.aload_n 0, 1) := by decide +kernel
theorem zd_M_against_80 : decode ze_M_against 80 = .ok (.iload 6, 2) := by decide +kernel
theorem zd_M_against_82 : decode ze_M_against 82 = .ok (.iload 8, 2) := by decide +kernel
theorem zd_M_against_84 : decode ze_M_against 84 = .ok (.lload_n 3, 1) := by decide +kernel
theorem zd_M_against_85 : decode ze_M_against 85 = .ok (.invokevirtual 277, 3) := by decide +kernel
theorem zd_M_against_88 : decode ze_M_against 88 = .ok (.ifCond .eq 5, 3) := by decide +kernel
theorem zd_M_against_91 : decode ze_M_against 91 = .ok (.iconst 3, 1) := by decide +kernel
theorem zd_M_against_92 : decode ze_M_against 92 = .ok (.ireturn, 1) := by decide +kernel
theorem zd_M_against_93 : decode ze_M_against 93 = .ok (.iload 5, 2) := by decide +kernel
theorem zd_M_against_95 : decode ze_M_against 95 = .ok (.ifCond .eq 10, 3) := by decide +kernel
theorem zd_M_against_98 : decode ze_M_against 98 = .ok (.iload 8, 2) := by decide +kernel
theorem zd_M_against_100 : decode ze_M_against 100 = .ok (.ifCond .ge 5, 3) := by decide +kernel
theorem zd_M_against_103 : decode ze_M_against 103 = .ok (.iconst 4, 1) := by decide +kernel
theorem zd_M_against_104 : decode ze_M_against 104 = .ok (.ireturn, 1) := by decide +kernel
theorem zd_M_against_105 : decode ze_M_against 105 = .ok (.aload_n 0, 1) := by decide +kernel
theorem zd_M_against_106 : decode ze_M_against 106 = .ok (.iload_n 1, 1) := by decide +kernel
theorem zd_M_against_107 : decode ze_M_against 107 = .ok (.iload_n 2, 1) := by decide +kernel
theorem zd_M_against_108 : decode ze_M_against 108 = .ok (.invokevirtual 281, 3) := by decide +kernel
theorem zd_M_against_111 : decode ze_M_against 111 = .ok (.ifCond .eq 5, 3) := by decide +kernel
theorem zd_M_against_114 : decode ze_M_against 114 = .ok (.iconst 5, 1) := by decide +kernel
theorem zd_M_against_115 : decode ze_M_against 115 = .ok (.ireturn, 1) := by decide +kernel
theorem zd_M_against_116 : decode ze_M_against 116 = .ok (.aload_n 0, 1) := by decide +kernel
theorem zd_M_against_117 : decode ze_M_against 117 = .ok (.iload 6, 2) := by decide +kernel
theorem zd_M_against_119 : decode ze_M_against 119 = .ok (.ldc2_w 206, 3) := by decide +kernel
theorem zd_M_against_122 : decode ze_M_against 122 = .ok (.invokevirtual 284, 3) := by decide +kernel
theorem zd_M_against_125 : decode ze_M_against 125 = .ok (.ifCond .eq 6, 3) := by decide +kernel
theorem zd_M_against_128 : decode ze_M_against 128 = .ok (.bipush 6, 2) := by decide +kernel
theorem zd_M_against_130 : decode ze_M_against 130 = .ok (.ireturn, 1) := by decide +kernel
theorem zd_M_against_131 : decode ze_M_against 131 = .ok (.iload_n 1, 1) := by decide +kernel
theorem zd_M_against_132 : decode ze_M_against 132 = .ok (.ifCond .ne 5, 3) := by decide +kernel
theorem zd_M_against_135 : decode ze_M_against 135 = .ok (.iconst 0, 1) := by decide +kernel
theorem zd_M_against_136 : decode ze_M_against 136 = .ok (.ireturn, 1) := by decide +kernel
theorem zd_M_against_137 : decode ze_M_against 137 = .ok (.aload_n 0, 1) := by decide +kernel
theorem zd_M_against_138 : decode ze_M_against 138 = .ok (.iload 6, 2) := by decide +kernel
theorem zd_M_against_140 : decode ze_M_against 140 = .ok (.ldc2_w 215, 3) := by decide +kernel
theorem zd_M_against_143 : decode ze_M_against 143 = .ok (.invokevirtual 284, 3) := by decide +kernel
theorem zd_M_against_146 : decode ze_M_against 146 = .ok (.ifCond .ne 6, 3) := by decide +kernel
theorem zd_M_against_149 : decode ze_M_against 149 = .ok (.bipush 7, 2) := by decide +kernel
theorem zd_M_against_151 : decode ze_M_against 151 = .ok (.ireturn, 1) := by decide +kernel
theorem zd_M_against_152 : decode ze_M_against 152 = .ok (.aload_n 0, 1) := by decide +kernel
theorem zd_M_against_153 : decode ze_M_against 153 = .ok (.iload 6, 2) := by decide +kernel
theorem zd_M_against_155 : decode ze_M_against 155 = .ok (.bipush 9, 2) := by decide +kernel
theorem zd_M_against_157 : decode ze_M_against 157 = .ok (.invokevirtual 258, 3) := by decide +kernel
theorem zd_M_against_160 : decode ze_M_against 160 = .ok (.lconst 0, 1) := by decide +kernel
theorem zd_M_against_161 : decode ze_M_against 161 = .ok (.lcmp, 1) := by decide +kernel
theorem zd_M_against_162 : decode ze_M_against 162 = .ok (.ifCond .lt 24, 3) := by decide +kernel
theorem zd_M_against_165 : decode ze_M_against 165 = .ok (.aload_n 0, 1) := by decide +kernel
theorem zd_M_against_166 : decode ze_M_against 166 = .ok (.iload_n 1, 1) := by decide +kernel
theorem zd_M_against_167 : decode ze_M_against 167 = .ok (.invokevirtual 288, 3) := by decide +kernel
theorem zd_M_against_170 : decode ze_M_against 170 = .ok (.i2l, 1) := by decide +kernel
theorem zd_M_against_171 : decode ze_M_against 171 = .ok (.aload_n 0, 1) := by decide +kernel
theorem zd_M_against_172 : decode ze_M_against 172 = .ok (.iload 6, 2) := by decide +kernel
theorem zd_M_against_174 : decode ze_M_against 174 = .ok (.bipush 9, 2) := by decide +kernel
theorem zd_M_against_176 : decode ze_M_against 176 = .ok (.invokevirtual 258, 3) := by decide +kernel
theorem zd_M_against_179 : decode ze_M_against 179 = .ok (.lcmp, 1) := by decide +kernel
theorem zd_M_against_180 : decode ze_M_against 180 = .ok (.ifCond .le 6, 3) := by decide +kernel
theorem zd_M_against_183 : decode ze_M_against 183 = .ok (.bipush 8, 2) := by decide +kernel
theorem zd_M_against_185 : decode ze_M_against 185 = .ok (.ireturn, 1) := by decide +kernel
theorem zd_M_against_186 : decode ze_M_against 186 = .ok (.aload_n 0, 1) := by decide +kernel
theorem zd_M_against_187 : decode ze_M_against 187 = .ok (.iload 6, 2) := by decide +kernel
theorem zd_M_against_189 : decode ze_M_against 189 = .ok (.bipush 10, 2) := by decide +kernel
theorem zd_M_against_191 : decode ze_M_against 191 = .ok (.invokevirtual 258, 3) := by decide +kernel
theorem zd_M_against_194 : decode ze_M_against 194 = .ok (.lconst 0, 1) := by decide +kernel
theorem zd_M_against_195 : decode ze_M_against 195 = .ok (.lcmp, 1) := by decide +kernel
theorem zd_M_against_196 : decode ze_M_against 196 = .ok (.ifCond .eq 23, 3) := by decide +kernel
theorem zd_M_against_199 : decode ze_M_against 199 = .ok (.aload_n 0, 1) := by decide +kernel
theorem zd_M_against_200 : decode ze_M_against 200 = .ok (.iload 6, 2) := by decide +kernel
theorem zd_M_against_202 : decode ze_M_against 202 = .ok (.bipush 10, 2) := by decide +kernel
theorem zd_M_against_204 : decode ze_M_against 204 = .ok (.invokevirtual 258, 3) := by decide +kernel
theorem zd_M_against_207 : decode ze_M_against 207 = .ok (.lconst 1, 1) := by decide +kernel
theorem zd_M_against_208 : decode ze_M_against 208 = .ok (.land, 1) := by decide +kernel
theorem zd_M_against_209 : decode ze_M_against 209 = .ok (.lconst 0, 1) := by decide +kernel
theorem zd_M_against_210 : decode ze_M_against 210 = .ok (.lcmp, 1) := by decide +kernel
theorem zd_M_against_211 : decode ze_M_against 211 = .ok (.ifCond .ne 8, 3) := by decide +kernel
theorem zd_M_against_214 : decode ze_M_against 214 = .ok (.bipush 9, 2) := by decide +kernel
theorem zd_M_against_216 : decode ze_M_against 216 = .ok (.goto 4, 3) := by decide +kernel
theorem zd_M_against_219 : decode ze_M_against 219 = .ok (.iconst 0, 1) := by decide +kernel
theorem zd_M_against_220 : decode ze_M_against 220 = .ok (.ireturn, 1) := by decide +kernel
theorem zd_M_holds_0 : decode ze_M_holds 0 = .ok (.aload_n 0, 1) := by decide +kernel
theorem zd_M_holds_1 : decode ze_M_holds 1 = .ok (.iconst 0, 1) := by decide +kernel
theorem zd_M_holds_2 : decode ze_M_holds 2 = .ok (.putfield 292, 3) := by decide +kernel
theorem zd_M_holds_5 : decode ze_M_holds 5 = .ok (.iload_n 1, 1) := by decide +kernel
theorem zd_M_holds_6 : decode ze_M_holds 6 = .ok (.iconst 2, 1) := by decide +kernel
theorem zd_M_holds_7 : decode ze_M_holds 7 = .ok (.isub, 1) := by decide +kernel
theorem zd_M_holds_8 : decode ze_M_holds 8 = .ok (.istore 5, 2) := by decide +kernel
theorem zd_M_holds_10 : decode ze_M_holds 10 = .ok (.iload 5, 2) := by decide +kernel
theorem zd_M_holds_12 : decode ze_M_holds 12 = .ok (.ifCond .lt 30, 3) := by decide +kernel
theorem zd_M_holds_15 : decode ze_M_holds 15 = .ok (.aload_n 0, 1) := by decide +kernel
theorem zd_M_holds_16 : decode ze_M_holds 16 = .ok (.getfield 292, 3) := by decide +kernel
theorem zd_M_holds_19 : decode ze_M_holds 19 = .ok (.ifCond .ne 23, 3) := by decide +kernel
theorem zd_M_holds_22 : decode ze_M_holds 22 = .ok (.aload_n 0, 1) := by decide +kernel
theorem zd_M_holds_23 : decode ze_M_holds 23 = .ok (.aload_n 0, 1) := by decide +kernel
theorem zd_M_holds_24 : decode ze_M_holds 24 = .ok (.iload 5, 2) := by decide +kernel
theorem zd_M_holds_26 : decode ze_M_holds 26 = .ok (.iload_n 1, 1) := by decide +kernel
theorem zd_M_holds_27 : decode ze_M_holds 27 = .ok (.lload_n 2, 1) := by decide +kernel
theorem zd_M_holds_28 : decode ze_M_holds 28 = .ok (.iload 4, 2) := by decide +kernel
theorem zd_M_holds_30 : decode ze_M_holds 30 = .ok (.invokevirtual 295, 3) := by decide +kernel
theorem zd_M_holds_33 : decode ze_M_holds 33 = .ok (.putfield 292, 3) := by decide +kernel
theorem zd_M_holds_36 : decode ze_M_holds 36 = .ok (.iinc 5 (-1), 3) := by decide +kernel
theorem zd_M_holds_39 : decode ze_M_holds 39 = .ok (.goto (-29), 3) := by decide +kernel
theorem zd_M_holds_42 : decode ze_M_holds 42 = .ok (.aload_n 0, 1) := by decide +kernel
theorem zd_M_holds_43 : decode ze_M_holds 43 = .ok (.getfield 292, 3) := by decide +kernel
theorem zd_M_holds_46 : decode ze_M_holds 46 = .ok (.ifCond .ne 7, 3) := by decide +kernel
theorem zd_M_holds_49 : decode ze_M_holds 49 = .ok (.iconst 1, 1) := by decide +kernel
theorem zd_M_holds_50 : decode ze_M_holds 50 = .ok (.goto 4, 3) := by decide +kernel
theorem zd_M_holds_53 : decode ze_M_holds 53 = .ok (.iconst 0, 1) := by decide +kernel
theorem zd_M_holds_54 : decode ze_M_holds 54 = .ok (.ireturn, 1) := by decide +kernel
theorem zd_M_search_0 : decode ze_M_search 0 = .ok (.iconst 1, 1) := by decide +kernel
theorem zd_M_search_1 : decode ze_M_search 1 = .ok (.istore 5, 2) := by decide +kernel
theorem zd_M_search_3 : decode ze_M_search 3 = .ok (.aload_n 0, 1) := by decide +kernel
theorem zd_M_search_4 : decode ze_M_search 4 = .ok (.getfield 92, 3) := by decide +kernel
theorem zd_M_search_7 : decode ze_M_search 7 = .ok (.iconst 0, 1) := by decide +kernel
theorem zd_M_search_8 : decode ze_M_search 8 = .ok (.iconst 0, 1) := by decide +kernel
theorem zd_M_search_9 : decode ze_M_search 9 = .ok (.iastore, 1) := by decide +kernel
theorem zd_M_search_10 : decode ze_M_search 10 = .ok (.iconst 1, 1) := by decide +kernel
theorem zd_M_search_11 : decode ze_M_search 11 = .ok (.istore 6, 2) := by decide +kernel
theorem zd_M_search_13 : decode ze_M_search 13 = .ok (.iload 5, 2) := by decide +kernel
theorem zd_M_search_15 : decode ze_M_search 15 = .ok (.ifCond .le 178, 3) := by decide +kernel
theorem zd_M_search_18 : decode ze_M_search 18 = .ok (.aload_n 0, 1) := by decide +kernel
theorem zd_M_search_19 : decode ze_M_search 19 = .ok (.getfield 299, 3) := by decide +kernel
theorem zd_M_search_22 : decode ze_M_search 22 = .ok (.bipush 40, 2) := by decide +kernel
theorem zd_M_search_24 : decode ze_M_search 24 = .ok (.if_icmp .ge 169, 3) := by decide +kernel
theorem zd_M_search_27 : decode ze_M_search 27 = .ok (.aload_n 0, 1) := by decide +kernel
theorem zd_M_search_28 : decode ze_M_search 28 = .ok (.aload_n 0, 1) := by decide +kernel
theorem zd_M_search_29 : decode ze_M_search 29 = .ok (.getfield 89, 3) := by decide +kernel
theorem zd_M_search_32 : decode ze_M_search 32 = .ok (.iload 5, 2) := by decide +kernel
theorem zd_M_search_34 : decode ze_M_search 34 = .ok (.iconst 1, 1) := by decide +kernel
theorem zd_M_search_35 : decode ze_M_search 35 = .ok (.isub, 1) := by decide +kernel
theorem zd_M_search_36 : decode ze_M_search 36 = .ok (.iaload, 1) := by decide +kernel
theorem zd_M_search_37 : decode ze_M_search 37 = .ok (.lconst 1, 1) := by decide +kernel
theorem zd_M_search_38 : decode ze_M_search 38 = .ok (.invokevirtual 284, 3) := by decide +kernel
theorem zd_M_search_41 : decode ze_M_search 41 = .ok (.istore 7, 2) := by decide +kernel
theorem zd_M_search_43 : decode ze_M_search 43 = .ok (.iload 6, 2) := by decide +kernel
theorem zd_M_search_45 : decode ze_M_search 45 = .ok (.ifCond .eq 33, 3) := by decide +kernel
theorem zd_M_search_48 : decode ze_M_search 48 = .ok (.iload 7, 2) := by decide +kernel
theorem zd_M_search_50 : decode ze_M_search 50 = .ok (.ifCond .eq 28, 3) := by decide +kernel
theorem zd_M_search_53 : decode ze_M_search 53 = .ok (.aload_n 0, 1) := by decide +kernel
theorem zd_M_search_54 : decode ze_M_search 54 = .ok (.dup, 1) := by decide +kernel
theorem zd_M_search_55 : decode ze_M_search 55 = .ok (.getfield 299, 3) := by decide +kernel
theorem zd_M_search_58 : decode ze_M_search 58 = .ok (.iconst 1, 1) := by decide +kernel
theorem zd_M_search_59 : decode ze_M_search 59 = .ok (.iadd, 1) := by decide +kernel
theorem zd_M_search_60 : decode ze_M_search 60 = .ok (.putfield 299, 3) := by decide +kernel
theorem zd_M_search_63 : decode ze_M_search 63 = .ok (.aload_n 0, 1) := by decide +kernel
theorem zd_M_search_64 : decode ze_M_search 64 = .ok (.iload 5, 2) := by decide +kernel
theorem zd_M_search_66 : decode ze_M_search 66 = .ok (.lload_n 1, 1) := by decide +kernel
theorem zd_M_search_67 : decode ze_M_search 67 = .ok (.iload 4, 2) := by decide +kernel
theorem zd_M_search_69 : decode ze_M_search 69 = .ok (.invokevirtual 302, 3) := by decide +kernel
theorem zd_M_search_72 : decode ze_M_search 72 = .ok (.ifCond .eq 6, 3) := by decide +kernel
theorem zd_M_search_75 : decode ze_M_search 75 = .ok (.iload 5, 2) := by decide +kernel
theorem zd_M_search_77 : decode ze_M_search 77 = .ok (.ireturn, 1) := by decide +kernel
theorem zd_M_search_78 : decode ze_M_search 78 = .ok (.iload 7, 2) := by decide +kernel
theorem zd_M_search_80 : decode ze_M_search 80 = .ok (.ifCond .ne 9, 3) := by decide +kernel
theorem zd_M_search_83 : decode ze_M_search 83 = .ok (.iload 5, 2) := by decide +kernel
theorem zd_M_search_85 : decode ze_M_search 85 = .ok (.iload_n 3, 1) := by decide +kernel
theorem zd_M_search_86 : decode ze_M_search 86 = .ok (.if_icmp .ne 8, 3) := by decide +kernel
theorem zd_M_search_89 : decode ze_M_search 89 = .ok (.bipush 24, 2) := by decide +kernel
theorem zd_M_search_91 : decode ze_M_search 91 = .ok (.goto 12, 3) := by decide +kernel
theorem zd_M_search_94 : decode ze_M_search 94 = .ok (.aload_n 0, 1) := by decide +kernel
theorem zd_M_search_95 : decode ze_M_search 95 = .ok (.getfield 92, 3) := by decide +kernel
theorem zd_M_search_98 : decode ze_M_search 98 = .ok (.iload 5, 2) := by decide +kernel
theorem zd_M_search_100 : decode ze_M_search 100 = .ok (.iconst 1, 1) := by decide +kernel
theorem zd_M_search_101 : decode ze_M_search 101 = .ok (.isub, 1) := by decide +kernel
theorem zd_M_search_102 : decode ze_M_search 102 = .ok (.iaload, 1) := by decide +kernel
theorem zd_M_search_103 : decode ze_M_search 103 = .ok (.istore 8, 2) := by decide +kernel
theorem zd_M_search_105 : decode ze_M_search 105 = .ok (.iload 8, 2) := by decide +kernel
theorem zd_M_search_107 : decode ze_M_search 107 = .ok (.bipush 24, 2) := by decide +kernel
theorem zd_M_search_109 : decode ze_M_search 109 = .ok (.if_icmp .ge 20, 3) := by decide +kernel
theorem zd_M_search_112 : decode ze_M_search 112 = .ok (.aload_n 0, 1) := by decide +kernel
theorem zd_M_search_113 : decode ze_M_search 113 = .ok (.iload 8, 2) := by decide +kernel
theorem zd_M_search_115 : decode ze_M_search 115 = .ok (.iload 5, 2) := by decide +kernel
theorem zd_M_search_117 : decode ze_M_search 117 = .ok (.invokevirtual 306, 3) := by decide +kernel
theorem zd_M_search_120 : decode ze_M_search 120 = .ok (.ifCond .ne 9, 3) := by decide +kernel
theorem zd_M_search_123 : decode ze_M_search 123 = .ok (.iinc 8 1, 3) := by decide +kernel
theorem zd_M_search_126 : decode ze_M_search 126 = .ok (.goto (-21), 3) := by decide +kernel
theorem zd_M_search_129 : decode ze_M_search 129 = .ok (.iload 8, 2) := by decide +kernel
theorem zd_M_search_131 : decode ze_M_search 131 = .ok (.bipush 24, 2) := by decide +kernel
theorem zd_M_search_133 : decode ze_M_search 133 = .ok (.if_icmp .ge 7, 3) := by decide +kernel
theorem zd_M_search_136 : decode ze_M_search 136 = .ok (.iconst 1, 1) := by decide +kernel
theorem zd_M_search_137 : decode ze_M_search 137 = .ok (.goto 4, 3) := by decide +kernel
theorem zd_M_search_140 : decode ze_M_search 140 = .ok (.iconst 0, 1) := by decide +kernel
theorem zd_M_search_141 : decode ze_M_search 141 = .ok (.istore 6, 2) := by decide +kernel
theorem zd_M_search_143 : decode ze_M_search 143 = .ok (.iload 6, 2) := by decide +kernel
theorem zd_M_search_145 : decode ze_M_search 145 = .ok (.ifCond .eq 42, 3) := by decide +kernel
theorem zd_M_search_148 : decode ze_M_search 148 = .ok (.aload_n 0, 1) := by decide +kernel
theorem zd_M_search_149 : decode ze_M_search 149 = .ok (.getfield 92, 3) := by decide +kernel
theorem zd_M_search_152 : decode ze_M_search 152 = .ok (.iload 5, 2) := by decide +kernel
theorem zd_M_search_154 : decode ze_M_search 154 = .ok (.iconst 1, 1) := by decide +kernel
theorem zd_M_search_155 : decode ze_M_search 155 = .ok (.isub, 1) := by decide +kernel
theorem zd_M_search_156 : decode ze_M_search 156 = .ok (.iload 8, 2) := by decide +kernel
theorem zd_M_search_158 : decode ze_M_search 158 = .ok (.iconst 1, 1) := by decide +kernel
theorem zd_M_search_159 : decode ze_M_search 159 = .ok (.iadd, 1) := by decide +kernel
theorem zd_M_search_160 : decode ze_M_search 160 = .ok (.iastore, 1) := by decide +kernel
theorem zd_M_search_161 : decode ze_M_search 161 = .ok (.aload_n 0, 1) := by decide +kernel
theorem zd_M_search_162 : decode ze_M_search 162 = .ok (.getfield 89, 3) := by decide +kernel
theorem zd_M_search_165 : decode ze_M_search 165 = .ok (.iload 5, 2) := by decide +kernel
theorem zd_M_search_167 : decode ze_M_search 167 = .ok (.iload 8, 2) := by decide +kernel
theorem zd_M_search_169 : decode ze_M_search 169 = .ok (.bipush 12, 2) := by decide +kernel
theorem zd_M_search_171 : decode ze_M_search 171 = .ok (.irem, 1) := by decide +kernel
theorem zd_M_search_172 : decode ze_M_search 172 = .ok (.iastore, 1) := by decide +kernel
theorem zd_M_search_173 : decode ze_M_search 173 = .ok (.aload_n 0, 1) := by decide +kernel
theorem zd_M_search_174 : decode ze_M_search 174 = .ok (.getfield 92, 3) := by decide +kernel
theorem zd_M_search_177 : decode ze_M_search 177 = .ok (.iload 5, 2) := by decide +kernel
theorem zd_M_search_179 : decode ze_M_search 179 = .ok (.iconst 0, 1) := by decide +kernel
theorem zd_M_search_180 : decode ze_M_search 180 = .ok (.iastore, 1) := by decide +kernel
theorem zd_M_search_181 : decode ze_M_search 181 = .ok (.iinc 5 1, 3) := by decide +kernel
theorem zd_M_search_184 : decode ze_M_search 184 = .ok (.goto 6, 3) := by decide +kernel
theorem zd_M_search_187 : decode ze_M_search 187 = .ok (.iinc 5 (-1), 3) := by decide +kernel
theorem zd_M_search_190 : decode ze_M_search 190 = .ok (.goto (-177), 3) := by decide +kernel
theorem zd_M_search_193 : decode ze_M_search 193 = .ok (.iconst 0, 1) := by decide +kernel
theorem zd_M_search_194 : decode ze_M_search 194 = .ok (.ireturn, 1) := by decide +kernel
theorem zd_M_validate_0 : decode ze_M_validate 0 = .ok (.iload_n 1, 1) := by decide +kernel
theorem zd_M_validate_1 : decode ze_M_validate 1 = .ok (.ifCond .lt 29, 3) := by decide +kernel
theorem zd_M_validate_4 : decode ze_M_validate 4 = .ok (.iload_n 1, 1) := by decide +kernel
theorem zd_M_validate_5 : decode ze_M_validate 5 = .ok (.aload_n 0, 1) := by decide +kernel
theorem zd_M_validate_6 : decode ze_M_validate 6 = .ok (.getfield 248, 3) := by decide +kernel
theorem zd_M_validate_9 : decode ze_M_validate 9 = .ok (.if_icmp .ge 21, 3) := by decide +kernel
theorem zd_M_validate_12 : decode ze_M_validate 12 = .ok (.lload_n 2, 1) := by decide +kernel
theorem zd_M_validate_13 : decode ze_M_validate 13 = .ok (.lconst 0, 1) := by decide +kernel
theorem zd_M_validate_14 : decode ze_M_validate 14 = .ok (.lcmp, 1) := by decide +kernel
theorem zd_M_validate_15 : decode ze_M_validate 15 = .ok (.ifCond .lt 15, 3) := by decide +kernel
theorem zd_M_validate_18 : decode ze_M_validate 18 = .ok (.iload 4, 2) := by decide +kernel
theorem zd_M_validate_20 : decode ze_M_validate 20 = .ok (.iconst 1, 1) := by decide +kernel
theorem zd_M_validate_21 : decode ze_M_validate 21 = .ok (.if_icmp .lt 9, 3) := by decide +kernel
theorem zd_M_validate_24 : decode ze_M_validate 24 = .ok (.iload 4, 2) := by decide +kernel
theorem zd_M_validate_26 : decode ze_M_validate 26 = .ok (.iconst 5, 1) := by decide +kernel
theorem zd_M_validate_27 : decode ze_M_validate 27 = .ok (.if_icmp .le 5, 3) := by decide +kernel
theorem zd_M_validate_30 : decode ze_M_validate 30 = .ok (.iconst (-1), 1) := by decide +kernel
theorem zd_M_validate_31 : decode ze_M_validate 31 = .ok (.ireturn, 1) := by decide +kernel
theorem zd_M_validate_32 : decode ze_M_validate 32 = .ok (.aload_n 0, 1) := by decide +kernel
theorem zd_M_validate_33 : decode ze_M_validate 33 = .ok (.iconst 0, 1) := by decide +kernel
theorem zd_M_validate_34 : decode ze_M_validate 34 = .ok (.putfield 299, 3) := by decide +kernel
