theorem zd_Reader_readCertificate_83 : decode ze_Reader_readCertificate 83 = .ok (.putfield 57, 3) := by decide +kernel
theorem zd_Reader_readCertificate_86 : decode ze_Reader_readCertificate 86 = .ok (.aload_n 1, 1) := by decide +kernel
theorem zd_Reader_readCertificate_87 : decode ze_Reader_readCertificate 87 = .ok (.aload_n 0, 1) := by decide +kernel
theorem zd_Reader_readCertificate_88 : decode ze_Reader_readCertificate 88 = .ok (.iload 4, 2) := by decide +kernel
theorem zd_Reader_readCertificate_90 : decode ze_Reader_readCertificate 90 = .ok (.invokevirtual 36, 3) := by decide +kernel
theorem zd_Reader_readCertificate_93 : decode ze_Reader_readCertificate 93 = .ok (.putfield 60, 3) := by decide +kernel
theorem zd_Reader_readCertificate_96 : decode ze_Reader_readCertificate 96 = .ok (.aload_n 1, 1) := by decide +kernel
theorem zd_Reader_readCertificate_97 : decode ze_Reader_readCertificate 97 = .ok (.aload_n 0, 1) := by decide +kernel
theorem zd_Reader_readCertificate_98 : decode ze_Reader_readCertificate 98 = .ok (.iload 4, 2) := by decide +kernel
theorem zd_Reader_readCertificate_100 : decode ze_Reader_readCertificate 100 = .ok (.invokevirtual 36, 3) := by decide +kernel
theorem zd_Reader_readCertificate_103 : decode ze_Reader_readCertificate 103 = .ok (.putfield 63, 3) := by decide +kernel
theorem zd_Reader_readCertificate_106 : decode ze_Reader_readCertificate 106 = .ok (.aload_n 0, 1) := by decide +kernel
theorem zd_Reader_readCertificate_107 : decode ze_Reader_readCertificate 107 = .ok (.bipush 48, 2) := by decide +kernel
theorem zd_Reader_readCertificate_109 : decode ze_Reader_readCertificate 109 = .ok (.iload 4, 2) := by decide +kernel
theorem zd_Reader_readCertificate_111 : decode ze_Reader_readCertificate 111 = .ok (.invokevirtual 66, 3) := by decide +kernel
theorem zd_Reader_readCertificate_114 : decode ze_Reader_readCertificate 114 = .ok (.ifCond .eq 10, 3) := by decide +kernel
theorem zd_Reader_readCertificate_117 : decode ze_Reader_readCertificate 117 = .ok (.aload_n 0, 1) := by decide +kernel
theorem zd_Reader_readCertificate_118 : decode ze_Reader_readCertificate 118 = .ok (.aload_n 1, 1) := by decide +kernel
theorem zd_Reader_readCertificate_119 : decode ze_Reader_readCertificate 119 = .ok (.iload 4, 2) := by decide +kernel
theorem zd_Reader_readCertificate_121 : decode ze_Reader_readCertificate 121 = .ok (.invokevirtual 70, 3) := by decide +kernel
theorem zd_Reader_readCertificate_124 : decode ze_Reader_readCertificate 124 = .ok (.aload_n 0, 1) := by decide +kernel
theorem zd_Reader_readCertificate_125 : decode ze_Reader_readCertificate 125 = .ok (.iload 4, 2) := by decide +kernel
theorem zd_Reader_readCertificate_127 : decode ze_Reader_readCertificate 127 = .ok (.invokevirtual 74, 3) := by decide +kernel
theorem zd_Reader_readCertificate_130 : decode ze_Reader_readCertificate 130 = .ok (.aload_n 0, 1) := by decide +kernel
theorem zd_Reader_readCertificate_131 : decode ze_Reader_readCertificate 131 = .ok (.aload_n 1, 1) := by decide +kernel
theorem zd_Reader_readCertificate_132 : decode ze_Reader_readCertificate 132 = .ok (.iload_n 3, 1) := by decide +kernel
theorem zd_Reader_readCertificate_133 : decode ze_Reader_readCertificate 133 = .ok (.iload_n 2, 1) := by decide +kernel
theorem zd_Reader_readCertificate_134 : decode ze_Reader_readCertificate 134 = .ok (.invokevirtual 78, 3) := by decide +kernel
theorem zd_Reader_readCertificate_137 : decode ze_Reader_readCertificate 137 = .ok (.aload_n 0, 1) := by decide +kernel
theorem zd_Reader_readCertificate_138 : decode ze_Reader_readCertificate 138 = .ok (.getfield 15, 3) := by decide +kernel
theorem zd_Reader_readCertificate_141 : decode ze_Reader_readCertificate 141 = .ok (.ireturn, 1) := by decide +kernel
theorem zd_Signed_noteSigner_0 : decode ze_Signed_noteSigner 0 = .ok (.aload_n 0, 1) := by decide +kernel
theorem zd_Signed_noteSigner_1 : decode ze_Signed_noteSigner 1 = .ok (.getfield 20, 3) := by decide +kernel
theorem zd_Signed_noteSigner_4 : decode ze_Signed_noteSigner 4 = .ok (.aload_n 2, 1) := by decide +kernel
theorem zd_Signed_noteSigner_5 : decode ze_Signed_noteSigner 5 = .ok (.getfield 23, 3) := by decide +kernel
theorem zd_Signed_noteSigner_8 : decode ze_Signed_noteSigner 8 = .ok (.lcmp, 1) := by decide +kernel
theorem zd_Signed_noteSigner_9 : decode ze_Signed_noteSigner 9 = .ok (.ifCond .ne 37, 3) := by decide +kernel
theorem zd_Signed_noteSigner_12 : decode ze_Signed_noteSigner 12 = .ok (.aload_n 0, 1) := by decide +kernel
theorem zd_Signed_noteSigner_13 : decode ze_Signed_noteSigner 13 = .ok (.getfield 28, 3) := by decide +kernel
theorem zd_Signed_noteSigner_16 : decode ze_Signed_noteSigner 16 = .ok (.aload_n 2, 1) := by decide +kernel
theorem zd_Signed_noteSigner_17 : decode ze_Signed_noteSigner 17 = .ok (.getfield 31, 3) := by decide +kernel
theorem zd_Signed_noteSigner_20 : decode ze_Signed_noteSigner 20 = .ok (.aload_n 2, 1) := by decide +kernel
theorem zd_Signed_noteSigner_21 : decode ze_Signed_noteSigner 21 = .ok (.getfield 34, 3) := by decide +kernel
theorem zd_Signed_noteSigner_24 : decode ze_Signed_noteSigner 24 = .ok (.aload_n 0, 1) := by decide +kernel
theorem zd_Signed_noteSigner_25 : decode ze_Signed_noteSigner 25 = .ok (.getfield 37, 3) := by decide +kernel
theorem zd_Signed_noteSigner_28 : decode ze_Signed_noteSigner 28 = .ok (.invokestatic 40, 3) := by decide +kernel
theorem zd_Signed_noteSigner_31 : decode ze_Signed_noteSigner 31 = .ok (.ifCond .eq 15, 3) := by decide +kernel
theorem zd_Signed_noteSigner_34 : decode ze_Signed_noteSigner 34 = .ok (.aload_n 0, 1) := by decide +kernel
theorem zd_Signed_noteSigner_35 : decode ze_Signed_noteSigner 35 = .ok (.dup, 1) := by decide +kernel
theorem zd_Signed_noteSigner_36 : decode ze_Signed_noteSigner 36 = .ok (.getfield 7, 3) := by decide +kernel
theorem zd_Signed_noteSigner_39 : decode ze_Signed_noteSigner 39 = .ok (.iconst 1, 1) := by decide +kernel
theorem zd_Signed_noteSigner_40 : decode ze_Signed_noteSigner 40 = .ok (.iload_n 1, 1) := by decide +kernel
theorem zd_Signed_noteSigner_41 : decode ze_Signed_noteSigner 41 = .ok (.ishl, 1) := by decide +kernel
theorem zd_Signed_noteSigner_42 : decode ze_Signed_noteSigner 42 = .ok (.ior, 1) := by decide +kernel
theorem zd_Signed_noteSigner_43 : decode ze_Signed_noteSigner 43 = .ok (.putfield 7, 3) := by decide +kernel
theorem zd_Signed_noteSigner_46 : decode ze_Signed_noteSigner 46 = .ok (.return_, 1) := by decide +kernel
theorem zd_Shelf_keepCertificate_0 : decode ze_Shelf_keepCertificate 0 = .ok (.aload_n 0, 1) := by decide +kernel
theorem zd_Shelf_keepCertificate_1 : decode ze_Shelf_keepCertificate 1 = .ok (.getfield 23, 3) := by decide +kernel
theorem zd_Shelf_keepCertificate_4 : decode ze_Shelf_keepCertificate 4 = .ok (.istore_n 2, 1) := by decide +kernel
theorem zd_Shelf_keepCertificate_5 : decode ze_Shelf_keepCertificate 5 = .ok (.aload_n 0, 1) := by decide +kernel
theorem zd_Shelf_keepCertificate_6 : decode ze_Shelf_keepCertificate 6 = .ok (.getfield 11, 3) := by decide +kernel
theorem zd_Shelf_keepCertificate_9 : decode ze_Shelf_keepCertificate 9 = .ok (.iload_n 2, 1) := by decide +kernel
theorem zd_Shelf_keepCertificate_10 : decode ze_Shelf_keepCertificate 10 = .ok (.aaload, 1) := by decide +kernel
theorem zd_Shelf_keepCertificate_11 : decode ze_Shelf_keepCertificate 11 = .ok (.astore_n 3, 1) := by decide +kernel
theorem zd_Shelf_keepCertificate_12 : decode ze_Shelf_keepCertificate 12 = .ok (.aload_n 3, 1) := by decide +kernel
theorem zd_Shelf_keepCertificate_13 : decode ze_Shelf_keepCertificate 13 = .ok (.iload_n 1, 1) := by decide +kernel
theorem zd_Shelf_keepCertificate_14 : decode ze_Shelf_keepCertificate 14 = .ok (.putfield 32, 3) := by decide +kernel
theorem zd_Shelf_keepCertificate_17 : decode ze_Shelf_keepCertificate 17 = .ok (.iconst 0, 1) := by decide +kernel
theorem zd_Shelf_keepCertificate_18 : decode ze_Shelf_keepCertificate 18 = .ok (.istore 4, 2) := by decide +kernel
theorem zd_Shelf_keepCertificate_20 : decode ze_Shelf_keepCertificate 20 = .ok (.iload 4, 2) := by decide +kernel
theorem zd_Shelf_keepCertificate_22 : decode ze_Shelf_keepCertificate 22 = .ok (.iload_n 2, 1) := by decide +kernel
theorem zd_Shelf_keepCertificate_23 : decode ze_Shelf_keepCertificate 23 = .ok (.if_icmp .ge 34, 3) := by decide +kernel
theorem zd_Shelf_keepCertificate_26 : decode ze_Shelf_keepCertificate 26 = .ok (.aload_n 3, 1) := by decide +kernel
theorem zd_Shelf_keepCertificate_27 : decode ze_Shelf_keepCertificate 27 = .ok (.iload 4, 2) := by decide +kernel
theorem zd_Shelf_keepCertificate_29 : decode ze_Shelf_keepCertificate 29 = .ok (.aload_n 0, 1) := by decide +kernel
theorem zd_Shelf_keepCertificate_30 : decode ze_Shelf_keepCertificate 30 = .ok (.getfield 11, 3) := by decide +kernel
theorem zd_Shelf_keepCertificate_33 : decode ze_Shelf_keepCertificate 33 = .ok (.iload 4, 2) := by decide +kernel
theorem zd_Shelf_keepCertificate_35 : decode ze_Shelf_keepCertificate 35 = .ok (.aaload, 1) := by decide +kernel
theorem zd_Shelf_keepCertificate_36 : decode ze_Shelf_keepCertificate 36 = .ok (.invokevirtual 36, 3) := by decide +kernel
theorem zd_Shelf_keepCertificate_39 : decode ze_Shelf_keepCertificate 39 = .ok (.aload_n 0, 1) := by decide +kernel
theorem zd_Shelf_keepCertificate_40 : decode ze_Shelf_keepCertificate 40 = .ok (.getfield 11, 3) := by decide +kernel
theorem zd_Shelf_keepCertificate_43 : decode ze_Shelf_keepCertificate 43 = .ok (.iload 4, 2) := by decide +kernel
theorem zd_Shelf_keepCertificate_45 : decode ze_Shelf_keepCertificate 45 = .ok (.aaload, 1) := by decide +kernel
theorem zd_Shelf_keepCertificate_46 : decode ze_Shelf_keepCertificate 46 = .ok (.iload_n 2, 1) := by decide +kernel
theorem zd_Shelf_keepCertificate_47 : decode ze_Shelf_keepCertificate 47 = .ok (.aload_n 3, 1) := by decide +kernel
theorem zd_Shelf_keepCertificate_48 : decode ze_Shelf_keepCertificate 48 = .ok (.invokevirtual 36, 3) := by decide +kernel
theorem zd_Shelf_keepCertificate_51 : decode ze_Shelf_keepCertificate 51 = .ok (.iinc 4 1, 3) := by decide +kernel
theorem zd_Shelf_keepCertificate_54 : decode ze_Shelf_keepCertificate 54 = .ok (.goto (-34), 3) := by decide +kernel
theorem zd_Shelf_keepCertificate_57 : decode ze_Shelf_keepCertificate 57 = .ok (.iconst 0, 1) := by decide +kernel
theorem zd_Shelf_keepCertificate_58 : decode ze_Shelf_keepCertificate 58 = .ok (.istore 4, 2) := by decide +kernel
theorem zd_Shelf_keepCertificate_60 : decode ze_Shelf_keepCertificate 60 = .ok (.iload 4, 2) := by decide +kernel
theorem zd_Shelf_keepCertificate_62 : decode ze_Shelf_keepCertificate 62 = .ok (.aload_n 0, 1) := by decide +kernel
theorem zd_Shelf_keepCertificate_63 : decode ze_Shelf_keepCertificate 63 = .ok (.getfield 27, 3) := by decide +kernel
theorem zd_Shelf_keepCertificate_66 : decode ze_Shelf_keepCertificate 66 = .ok (.if_icmp .ge 21, 3) := by decide +kernel
theorem zd_Shelf_keepCertificate_69 : decode ze_Shelf_keepCertificate 69 = .ok (.aload_n 0, 1) := by decide +kernel
theorem zd_Shelf_keepCertificate_70 : decode ze_Shelf_keepCertificate 70 = .ok (.getfield 19, 3) := by decide +kernel
theorem zd_Shelf_keepCertificate_73 : decode ze_Shelf_keepCertificate 73 = .ok (.iload 4, 2) := by decide +kernel
theorem zd_Shelf_keepCertificate_75 : decode ze_Shelf_keepCertificate 75 = .ok (.aaload, 1) := by decide +kernel
theorem zd_Shelf_keepCertificate_76 : decode ze_Shelf_keepCertificate 76 = .ok (.iload_n 2, 1) := by decide +kernel
theorem zd_Shelf_keepCertificate_77 : decode ze_Shelf_keepCertificate 77 = .ok (.aload_n 3, 1) := by decide +kernel
theorem zd_Shelf_keepCertificate_78 : decode ze_Shelf_keepCertificate 78 = .ok (.invokevirtual 40, 3) := by decide +kernel
theorem zd_Shelf_keepCertificate_81 : decode ze_Shelf_keepCertificate 81 = .ok (.iinc 4 1, 3) := by decide +kernel
theorem zd_Shelf_keepCertificate_84 : decode ze_Shelf_keepCertificate 84 = .ok (.goto (-24), 3) := by decide +kernel
theorem zd_Shelf_keepCertificate_87 : decode ze_Shelf_keepCertificate 87 = .ok (.aload_n 0, 1) := by decide +kernel
theorem zd_Shelf_keepCertificate_88 : decode ze_Shelf_keepCertificate 88 = .ok (.dup, 1) := by decide +kernel
theorem zd_Shelf_keepCertificate_89 : decode ze_Shelf_keepCertificate 89 = .ok (.getfield 23, 3) := by decide +kernel
theorem zd_Shelf_keepCertificate_92 : decode ze_Shelf_keepCertificate 92 = .ok (.iconst 1, 1) := by decide +kernel
theorem zd_Shelf_keepCertificate_93 : decode ze_Shelf_keepCertificate 93 = .ok (.iadd, 1) := by decide +kernel
theorem zd_Shelf_keepCertificate_94 : decode ze_Shelf_keepCertificate 94 = .ok (.putfield 23, 3) := by decide +kernel
theorem zd_Shelf_keepCertificate_97 : decode ze_Shelf_keepCertificate 97 = .ok (.iload_n 2, 1) := by decide +kernel
theorem zd_Shelf_keepCertificate_98 : decode ze_Shelf_keepCertificate 98 = .ok (.ireturn, 1) := by decide +kernel
theorem zd_Shelf_nextList_0 : decode ze_Shelf_nextList 0 = .ok (.aload_n 0, 1) := by decide +kernel
theorem zd_Shelf_nextList_1 : decode ze_Shelf_nextList 1 = .ok (.getfield 19, 3) := by decide +kernel
theorem zd_Shelf_nextList_4 : decode ze_Shelf_nextList 4 = .ok (.aload_n 0, 1) := by decide +kernel
theorem zd_Shelf_nextList_5 : decode ze_Shelf_nextList 5 = .ok (.getfield 27, 3) := by decide +kernel
theorem zd_Shelf_nextList_8 : decode ze_Shelf_nextList 8 = .ok (.aaload, 1) := by decide +kernel
theorem zd_Shelf_nextList_9 : decode ze_Shelf_nextList 9 = .ok (.areturn, 1) := by decide +kernel
theorem zd_Reader_readList_0 : decode ze_Reader_readList 0 = .ok (.aload_n 1, 1) := by decide +kernel
theorem zd_Reader_readList_1 : decode ze_Reader_readList 1 = .ok (.iconst 0, 1) := by decide +kernel
theorem zd_Reader_readList_2 : decode ze_Reader_readList 2 = .ok (.putfield 82, 3) := by decide +kernel
theorem zd_Reader_readList_5 : decode ze_Reader_readList 5 = .ok (.aload_n 0, 1) := by decide +kernel
theorem zd_Reader_readList_6 : decode ze_Reader_readList 6 = .ok (.bipush 48, 2) := by decide +kernel
theorem zd_Reader_readList_8 : decode ze_Reader_readList 8 = .ok (.aload_n 0, 1) := by decide +kernel
theorem zd_Reader_readList_9 : decode ze_Reader_readList 9 = .ok (.getfield 18, 3) := by decide +kernel
theorem zd_Reader_readList_12 : decode ze_Reader_readList 12 = .ok (.getfield 27, 3) := by decide +kernel
theorem zd_Reader_readList_15 : decode ze_Reader_readList 15 = .ok (.invokevirtual 32, 3) := by decide +kernel
theorem zd_Reader_readList_18 : decode ze_Reader_readList 18 = .ok (.istore_n 2, 1) := by decide +kernel
theorem zd_Reader_readList_19 : decode ze_Reader_readList 19 = .ok (.aload_n 0, 1) := by decide +kernel
theorem zd_Reader_readList_20 : decode ze_Reader_readList 20 = .ok (.getfield 9, 3) := by decide +kernel
theorem zd_Reader_readList_23 : decode ze_Reader_readList 23 = .ok (.istore_n 3, 1) := by decide +kernel
theorem zd_Reader_readList_24 : decode ze_Reader_readList 24 = .ok (.aload_n 0, 1) := by decide +kernel
theorem zd_Reader_readList_25 : decode ze_Reader_readList 25 = .ok (.bipush 48, 2) := by decide +kernel
theorem zd_Reader_readList_27 : decode ze_Reader_readList 27 = .ok (.iload_n 2, 1) := by decide +kernel
theorem zd_Reader_readList_28 : decode ze_Reader_readList 28 = .ok (.invokevirtual 32, 3) := by decide +kernel
theorem zd_Reader_readList_31 : decode ze_Reader_readList 31 = .ok (.istore 4, 2) := by decide +kernel
theorem zd_Reader_readList_33 : decode ze_Reader_readList 33 = .ok (.aload_n 1, 1) := by decide +kernel
theorem zd_Reader_readList_34 : decode ze_Reader_readList 34 = .ok (.aload_n 0, 1) := by decide +kernel
theorem zd_Reader_readList_35 : decode ze_Reader_readList 35 = .ok (.bipush 19, 2) := by decide +kernel
theorem zd_Reader_readList_37 : decode ze_Reader_readList 37 = .ok (.iload 4, 2) := by decide +kernel
theorem zd_Reader_readList_39 : decode ze_Reader_readList 39 = .ok (.invokevirtual 44, 3) := by decide +kernel
theorem zd_Reader_readList_42 : decode ze_Reader_readList 42 = .ok (.putfield 87, 3) := by decide +kernel
theorem zd_Reader_readList_45 : decode ze_Reader_readList 45 = .ok (.aload_n 1, 1) := by decide +kernel
theorem zd_Reader_readList_46 : decode ze_Reader_readList 46 = .ok (.aload_n 0, 1) := by decide +kernel
theorem zd_Reader_readList_47 : decode ze_Reader_readList 47 = .ok (.iload 4, 2) := by decide +kernel
theorem zd_Reader_readList_49 : decode ze_Reader_readList 49 = .ok (.invokevirtual 36, 3) := by decide +kernel
theorem zd_Reader_readList_52 : decode ze_Reader_readList 52 = .ok (.putfield 88, 3) := by decide +kernel
theorem zd_Reader_readList_55 : decode ze_Reader_readList 55 = .ok (.aload_n 1, 1) := by decide +kernel
theorem zd_Reader_readList_56 : decode ze_Reader_readList 56 = .ok (.aload_n 0, 1) := by decide +kernel
theorem zd_Reader_readList_57 : decode ze_Reader_readList 57 = .ok (.iload 4, 2) := by decide +kernel
theorem zd_Reader_readList_59 : decode ze_Reader_readList 59 = .ok (.invokevirtual 36, 3) := by decide +kernel
theorem zd_Reader_readList_62 : decode ze_Reader_readList 62 = .ok (.putfield 89, 3) := by decide +kernel
theorem zd_Reader_readList_65 : decode ze_Reader_readList 65 = .ok (.aload_n 0, 1) := by decide +kernel
theorem zd_Reader_readList_66 : decode ze_Reader_readList 66 = .ok (.bipush 48, 2) := by decide +kernel
theorem zd_Reader_readList_68 : decode ze_Reader_readList 68 = .ok (.iload 4, 2) := by decide +kernel
theorem zd_Reader_readList_70 : decode ze_Reader_readList 70 = .ok (.invokevirtual 32, 3) := by decide +kernel
theorem zd_Reader_readList_73 : decode ze_Reader_readList 73 = .ok (.istore 5, 2) := by decide +kernel
theorem zd_Reader_readList_75 : decode ze_Reader_readList 75 = .ok (.iconst 0, 1) := by decide +kernel
theorem zd_Reader_readList_76 : decode ze_Reader_readList 76 = .ok (.istore 6, 2) := by decide +kernel
theorem zd_Reader_readList_78 : decode ze_Reader_readList 78 = .ok (.iload 6, 2) := by decide +kernel
theorem zd_Reader_readList_80 : decode ze_Reader_readList 80 = .ok (.iconst 4, 1) := by decide +kernel
theorem zd_Reader_readList_81 : decode ze_Reader_readList 81 = .ok (.if_icmp .ge 72, 3) := by decide +kernel
theorem zd_Reader_readList_84 : decode ze_Reader_readList 84 = .ok (.aload_n 0, 1) := by decide +kernel
theorem zd_Reader_readList_85 : decode ze_Reader_readList 85 = .ok (.bipush 48, 2) := by decide +kernel
theorem zd_Reader_readList_87 : decode ze_Reader_readList 87 = .ok (.iload 5, 2) := by decide +kernel
theorem zd_Reader_readList_89 : decode ze_Reader_readList 89 = .ok (.invokevirtual 66, 3) := by decide +kernel
theorem zd_Reader_readList_92 : decode ze_Reader_readList 92 = .ok (.ifCond .eq 61, 3) := by decide +kernel
theorem zd_Reader_readList_95 : decode ze_Reader_readList 95 = .ok (.aload_n 0, 1) := by decide +kernel
theorem zd_Reader_readList_96 : decode ze_Reader_readList 96 = .ok (.bipush 48, 2) := by decide +kernel
theorem zd_Reader_readList_98 : decode ze_Reader_readList 98 = .ok (.iload 5, 2) := by decide +kernel
theorem zd_Reader_readList_100 : decode ze_Reader_readList 100 = .ok (.invokevirtual 32, 3) := by decide +kernel
theorem zd_Reader_readList_103 : decode ze_Reader_readList 103 = .ok (.istore 7, 2) := by decide +kernel
theorem zd_Reader_readList_105 : decode ze_Reader_readList 105 = .ok (.aload_n 1, 1) := by decide +kernel
theorem zd_Reader_readList_106 : decode ze_Reader_readList 106 = .ok (.getfield 90, 3) := by decide +kernel
theorem zd_Reader_readList_109 : decode ze_Reader_readList 109 = .ok (.iload 6, 2) := by decide +kernel
theorem zd_Reader_readList_111 : decode ze_Reader_readList 111 = .ok (.aload_n 0, 1) := by decide +kernel
theorem zd_Reader_readList_112 : decode ze_Reader_readList 112 = .ok (.iload 7, 2) := by decide +kernel
theorem zd_Reader_readList_114 : decode ze_Reader_readList 114 = .ok (.invokevirtual 36, 3) := by decide +kernel
theorem zd_Reader_readList_117 : decode ze_Reader_readList 117 = .ok (.lastore, 1) := by decide +kernel
theorem zd_Reader_readList_118 : decode ze_Reader_readList 118 = .ok (.aload_n 1, 1) := by decide +kernel
theorem zd_Reader_readList_119 : decode ze_Reader_readList 119 = .ok (.getfield 94, 3) := by decide +kernel
theorem zd_Reader_readList_122 : decode ze_Reader_readList 122 = .ok (.iload 6, 2) := by decide +kernel
theorem zd_Reader_readList_124 : decode ze_Reader_readList 124 = .ok (.aload_n 0, 1) := by decide +kernel
theorem zd_Reader_readList_125 : decode ze_Reader_readList 125 = .ok (.iload 7, 2) := by decide +kernel
theorem zd_Reader_readList_127 : decode ze_Reader_readList 127 = .ok (.invokevirtual 36, 3) := by decide +kernel
theorem zd_Reader_readList_130 : decode ze_Reader_readList 130 = .ok (.lastore, 1) := by decide +kernel
theorem zd_Reader_readList_131 : decode ze_Reader_readList 131 = .ok (.aload_n 1, 1) := by decide +kernel
theorem zd_Reader_readList_132 : decode ze_Reader_readList 132 = .ok (.dup, 1) := by decide +kernel
theorem zd_Reader_readList_133 : decode ze_Reader_readList 133 = .ok (.getfield 82, 3) := by decide +kernel
theorem zd_Reader_readList_136 : decode ze_Reader_readList 136 = .ok (.iconst 1, 1) := by decide +kernel
theorem zd_Reader_readList_137 : decode ze_Reader_readList 137 = .ok (.iadd, 1) := by decide +kernel
theorem zd_Reader_readList_138 : decode ze_Reader_readList 138 = .ok (.putfield 82, 3) := by decide +kernel
theorem zd_Reader_readList_141 : decode ze_Reader_readList 141 = .ok (.aload_n 0, 1) := by decide +kernel
theorem zd_Reader_readList_142 : decode ze_Reader_readList 142 = .ok (.iload 7, 2) := by decide +kernel
theorem zd_Reader_readList_144 : decode ze_Reader_readList 144 = .ok (.invokevirtual 74, 3) := by decide +kernel
theorem zd_Reader_readList_147 : decode ze_Reader_readList 147 = .ok (.iinc 6 1, 3) := by decide +kernel
theorem zd_Reader_readList_150 : decode ze_Reader_readList 150 = .ok (.goto (-72), 3) := by decide +kernel
theorem zd_Reader_readList_153 : decode ze_Reader_readList 153 = .ok (.aload_n 0, 1) := by decide +kernel
theorem zd_Reader_readList_154 : decode ze_Reader_readList 154 = .ok (.iload 5, 2) := by decide +kernel
theorem zd_Reader_readList_156 : decode ze_Reader_readList 156 = .ok (.invokevirtual 74, 3) := by decide +kernel
theorem zd_Reader_readList_159 : decode ze_Reader_readList 159 = .ok (.aload_n 0, 1) := by decide +kernel
theorem zd_Reader_readList_160 : decode ze_Reader_readList 160 = .ok (.iload 4, 2) := by decide +kernel
theorem zd_Reader_readList_162 : decode ze_Reader_readList 162 = .ok (.invokevirtual 74, 3) := by decide +kernel
theorem zd_Reader_readList_165 : decode ze_Reader_readList 165 = .ok (.aload_n 0, 1) := by decide +kernel
theorem zd_Reader_readList_166 : decode ze_Reader_readList 166 = .ok (.aload_n 1, 1) := by decide +kernel
theorem zd_Reader_readList_167 : decode ze_Reader_readList 167 = .ok (.iload_n 3, 1) := by decide +kernel
theorem zd_Reader_readList_168 : decode ze_Reader_readList 168 = .ok (.iload_n 2, 1) := by decide +kernel
theorem zd_Reader_readList_169 : decode ze_Reader_readList 169 = .ok (.invokevirtual 78, 3) := by decide +kernel
theorem zd_Reader_readList_172 : decode ze_Reader_readList 172 = .ok (.aload_n 0, 1) := by decide +kernel
theorem zd_Reader_readList_173 : decode ze_Reader_readList 173 = .ok (.getfield 15, 3) := by decide +kernel
theorem zd_Reader_readList_176 : decode ze_Reader_readList 176 = .ok (.ireturn, 1) := by decide +kernel
theorem zd_Shelf_keepList_0 : decode ze_Shelf_keepList 0 = .ok (.aload_n 0, 1) := by decide +kernel
theorem zd_Shelf_keepList_1 : decode ze_Shelf_keepList 1 = .ok (.getfield 27, 3) := by decide +kernel
theorem zd_Shelf_keepList_4 : decode ze_Shelf_keepList 4 = .ok (.istore_n 1, 1) := by decide +kernel
theorem zd_Shelf_keepList_5 : decode ze_Shelf_keepList 5 = .ok (.iconst 0, 1) := by decide +kernel
theorem zd_Shelf_keepList_6 : decode ze_Shelf_keepList 6 = .ok (.istore_n 2, 1) := by decide +kernel
theorem zd_Shelf_keepList_7 : decode ze_Shelf_keepList 7 = .ok (.iload_n 2, 1) := by decide +kernel
theorem zd_Shelf_keepList_8 : decode ze_Shelf_keepList 8 = .ok (.aload_n 0, 1) := by decide +kernel
theorem zd_Shelf_keepList_9 : decode ze_Shelf_keepList 9 = .ok (.getfield 23, 3) := by decide +kernel
theorem zd_Shelf_keepList_12 : decode ze_Shelf_keepList 12 = .ok (.if_icmp .ge 25, 3) := by decide +kernel
theorem zd_Shelf_keepList_15 : decode ze_Shelf_keepList 15 = .ok (.aload_n 0, 1) := by decide +kernel
theorem zd_Shelf_keepList_16 : decode ze_Shelf_keepList 16 = .ok (.getfield 19, 3) := by decide +kernel
theorem zd_Shelf_keepList_19 : decode ze_Shelf_keepList 19 = .ok (.iload_n 1, 1) := by decide +kernel
theorem zd_Shelf_keepList_20 : decode ze_Shelf_keepList 20 = .ok (.aaload, 1) := by decide +kernel
theorem zd_Shelf_keepList_21 : decode ze_Shelf_keepList 21 = .ok (.iload_n 2, 1) := by decide +kernel
theorem zd_Shelf_keepList_22 : decode ze_Shelf_keepList 22 = .ok (.aload_n 0, 1) := by decide +kernel
theorem zd_Shelf_keepList_23 : decode ze_Shelf_keepList 23 = .ok (.getfield 11, 3) := by decide +kernel
theorem zd_Shelf_keepList_26 : decode ze_Shelf_keepList 26 = .ok (.iload_n 2, 1) := by decide +kernel
theorem zd_Shelf_keepList_27 : decode ze_Shelf_keepList 27 = .ok (.aaload, 1) := by decide +kernel
theorem zd_Shelf_keepList_28 : decode ze_Shelf_keepList 28 = .ok (.invokevirtual 40, 3) := by decide +kernel
theorem zd_Shelf_keepList_31 : decode ze_Shelf_keepList 31 = .ok (.iinc 2 1, 3) := by decide +kernel
theorem zd_Shelf_keepList_34 : decode ze_Shelf_keepList 34 = .ok (.goto (-27), 3) := by decide +kernel
theorem zd_Shelf_keepList_37 : decode ze_Shelf_keepList 37 = .ok (.aload_n 0, 1) := by decide +kernel
theorem zd_Shelf_keepList_38 : decode ze_Shelf_keepList 38 = .ok (.dup, 1) := by decide +kernel
theorem zd_Shelf_keepList_39 : decode ze_Shelf_keepList 39 = .ok (.getfield 27, 3) := by decide +kernel
theorem zd_Shelf_keepList_42 : decode ze_Shelf_keepList 42 = .ok (.iconst 1, 1) := by decide +kernel
theorem zd_Shelf_keepList_43 : decode ze_Shelf_keepList 43 = .ok (.iadd, 1) := by decide +kernel
theorem zd_Shelf_keepList_44 : decode ze_Shelf_keepList 44 = .ok (.putfield 27, 3) := by decide +kernel
theorem zd_Shelf_keepList_47 : decode ze_Shelf_keepList 47 = .ok (.iload_n 1, 1) := by decide +kernel
theorem zd_Shelf_keepList_48 : decode ze_Shelf_keepList 48 = .ok (.ireturn, 1) := by decide +kernel
theorem zd_V_store_0 : decode ze_V_store 0 = .ok (.iload_n 1, 1) := by decide +kernel
theorem zd_V_store_1 : decode ze_V_store 1 = .ok (.iconst 2, 1) := by decide +kernel
theorem zd_V_store_2 : decode ze_V_store 2 = .ok (.if_icmp .ne 54, 3) := by decide +kernel
theorem zd_V_store_5 : decode ze_V_store 5 = .ok (.aload_n 0, 1) := by decide +kernel
theorem zd_V_store_6 : decode ze_V_store 6 = .ok (.getfield 26, 3) := by decide +kernel
theorem zd_V_store_9 : decode ze_V_store 9 = .ok (.getfield 95, 3) := by decide +kernel
theorem zd_V_store_12 : decode ze_V_store 12 = .ok (.bipush 6, 2) := by decide +kernel
theorem zd_V_store_14 : decode ze_V_store 14 = .ok (.if_icmp .ge 42, 3) := by decide +kernel
theorem zd_V_store_17 : decode ze_V_store 17 = .ok (.new 74, 3) := by decide +kernel
theorem zd_V_store_20 : decode ze_V_store 20 = .ok (.dup, 1) := by decide +kernel
theorem zd_V_store_21 : decode ze_V_store 21 = .ok (.aload_n 0, 1) := by decide +kernel
theorem zd_V_store_22 : decode ze_V_store 22 = .ok (.getfield 10, 3) := by decide +kernel
theorem zd_V_store_25 : decode ze_V_store 25 = .ok (.invokespecial 76, 3) := by decide +kernel
theorem zd_V_store_28 : decode ze_V_store 28 = .ok (.aload_n 0, 1) := by decide +kernel
theorem zd_V_store_29 : decode ze_V_store 29 = .ok (.getfield 26, 3) := by decide +kernel
theorem zd_V_store_32 : decode ze_V_store 32 = .ok (.invokevirtual 87, 3) := by decide +kernel
theorem zd_V_store_35 : decode ze_V_store 35 = .ok (.invokevirtual 91, 3) := by decide +kernel
theorem zd_V_store_38 : decode ze_V_store 38 = .ok (.istore_n 2, 1) := by decide +kernel
theorem zd_V_store_39 : decode ze_V_store 39 = .ok (.iload_n 2, 1) := by decide +kernel
theorem zd_V_store_40 : decode ze_V_store 40 = .ok (.ifCond .ne 13, 3) := by decide +kernel
theorem zd_V_store_43 : decode ze_V_store 43 = .ok (.aload_n 0, 1) := by decide +kernel
theorem zd_V_store_44 : decode ze_V_store 44 = .ok (.getfield 26, 3) := by decide +kernel
theorem zd_V_store_47 : decode ze_V_store 47 = .ok (.invokevirtual 98, 3) := by decide +kernel
theorem zd_V_store_50 : decode ze_V_store 50 = .ok (.goto 5, 3) := by decide +kernel
theorem zd_V_store_53 : decode ze_V_store 53 = .ok (.bipush (-2), 2) := by decide +kernel
theorem zd_V_store_55 : decode ze_V_store 55 = .ok (.ireturn, 1) := by decide +kernel
theorem zd_V_store_56 : decode ze_V_store 56 = .ok (.iload_n 1, 1) := by decide +kernel
theorem zd_V_store_57 : decode ze_V_store 57 = .ok (.ifCond .eq 8, 3) := by decide +kernel
theorem zd_V_store_60 : decode ze_V_store 60 = .ok (.iload_n 1, 1) := by decide +kernel
theorem zd_V_store_61 : decode ze_V_store 61 = .ok (.iconst 1, 1) := by decide +kernel
theorem zd_V_store_62 : decode ze_V_store 62 = .ok (.if_icmp .ne 7, 3) := by decide +kernel
theorem zd_V_store_65 : decode ze_V_store 65 = .ok (.iconst 1, 1) := by decide +kernel
theorem zd_V_store_66 : decode ze_V_store 66 = .ok (.goto 4, 3) := by decide +kernel
theorem zd_V_store_69 : decode ze_V_store 69 = .ok (.iconst 0, 1) := by decide +kernel
theorem zd_V_store_70 : decode ze_V_store 70 = .ok (.istore_n 2, 1) := by decide +kernel
theorem zd_V_store_71 : decode ze_V_store 71 = .ok (.iload_n 2, 1) := by decide +kernel
theorem zd_V_store_72 : decode ze_V_store 72 = .ok (.ifCond .eq 63, 3) := by decide +kernel
theorem zd_V_store_75 : decode ze_V_store 75 = .ok (.aload_n 0, 1) := by decide +kernel
theorem zd_V_store_76 : decode ze_V_store 76 = .ok (.getfield 26, 3) := by decide +kernel
theorem zd_V_store_79 : decode ze_V_store 79 = .ok (.getfield 102, 3) := by decide +kernel
theorem zd_V_store_82 : decode ze_V_store 82 = .ok (.bipush 12, 2) := by decide +kernel
theorem zd_V_store_84 : decode ze_V_store 84 = .ok (.if_icmp .ge 51, 3) := by decide +kernel
theorem zd_V_store_87 : decode ze_V_store 87 = .ok (.new 74, 3) := by decide +kernel
theorem zd_V_store_90 : decode ze_V_store 90 = .ok (.dup, 1) := by decide +kernel
theorem zd_V_store_91 : decode ze_V_store 91 = .ok (.aload_n 0, 1) := by decide +kernel
theorem zd_V_store_92 : decode ze_V_store 92 = .ok (.getfield 10, 3) := by decide +kernel
theorem zd_V_store_95 : decode ze_V_store 95 = .ok (.invokespecial 76, 3) := by decide +kernel
theorem zd_V_store_98 : decode ze_V_store 98 = .ok (.aload_n 0, 1) := by decide +kernel
theorem zd_V_store_99 : decode ze_V_store 99 = .ok (.getfield 26, 3) := by decide +kernel
theorem zd_V_store_102 : decode ze_V_store 102 = .ok (.invokevirtual 79, 3) := by decide +kernel
theorem zd_V_store_105 : decode ze_V_store 105 = .ok (.invokevirtual 83, 3) := by decide +kernel
theorem zd_V_store_108 : decode ze_V_store 108 = .ok (.istore_n 3, 1) := by decide +kernel
theorem zd_V_store_109 : decode ze_V_store 109 = .ok (.iload_n 3, 1) := by decide +kernel
theorem zd_V_store_110 : decode ze_V_store 110 = .ok (.ifCond .ne 22, 3) := by decide +kernel
theorem zd_V_store_113 : decode ze_V_store 113 = .ok (.aload_n 0, 1) := by decide +kernel
theorem zd_V_store_114 : decode ze_V_store 114 = .ok (.getfield 26, 3) := by decide +kernel
theorem zd_V_store_117 : decode ze_V_store 117 = .ok (.iload_n 1, 1) := by decide +kernel
theorem zd_V_store_118 : decode ze_V_store 118 = .ok (.ifCond .ne 7, 3) := by decide +kernel
theorem zd_V_store_121 : decode ze_V_store 121 = .ok (.iconst 1, 1) := by decide +kernel
theorem zd_V_store_122 : decode ze_V_store 122 = .ok (.goto 4, 3) := by decide +kernel
theorem zd_V_store_125 : decode ze_V_store 125 = .ok (.iconst 0, 1) := by decide +kernel
theorem zd_V_store_126 : decode ze_V_store 126 = .ok (.invokevirtual 105, 3) := by decide +kernel
theorem zd_V_store_129 : decode ze_V_store 129 = .ok (.goto 5, 3) := by decide +kernel
theorem zd_V_store_132 : decode ze_V_store 132 = .ok (.bipush (-2), 2) := by decide +kernel
theorem zd_V_store_134 : decode ze_V_store 134 = .ok (.ireturn, 1) := by decide +kernel
theorem zd_V_store_135 : decode ze_V_store 135 = .ok (.iconst (-1), 1) := by decide +kernel
theorem zd_V_store_136 : decode ze_V_store 136 = .ok (.ireturn, 1) := by decide +kernel
theorem zd_M_fails_0 : decode ze_M_fails 0 = .ok (.aload_n 0, 1) := by decide +kernel
theorem zd_M_fails_1 : decode ze_M_fails 1 = .ok (.aload_n 0, 1) := by decide +kernel
theorem zd_M_fails_2 : decode ze_M_fails 2 = .ok (.getfield 194, 3) := by decide +kernel
theorem zd_M_fails_5 : decode ze_M_fails 5 = .ok (.ifCond .ne 12, 3) := by decide +kernel
theorem zd_M_fails_8 : decode ze_M_fails 8 = .ok (.iload_n 1, 1) := by decide +kernel
theorem zd_M_fails_9 : decode ze_M_fails 9 = .ok (.bipush 16, 2) := by decide +kernel
theorem zd_M_fails_11 : decode ze_M_fails 11 = .ok (.iload_n 2, 1) := by decide +kernel
theorem zd_M_fails_12 : decode ze_M_fails 12 = .ok (.imul, 1) := by decide +kernel
theorem zd_M_fails_13 : decode ze_M_fails 13 = .ok (.iadd, 1) := by decide +kernel
theorem zd_M_fails_14 : decode ze_M_fails 14 = .ok (.goto 7, 3) := by decide +kernel
theorem zd_M_fails_17 : decode ze_M_fails 17 = .ok (.aload_n 0, 1) := by decide +kernel
theorem zd_M_fails_18 : decode ze_M_fails 18 = .ok (.getfield 194, 3) := by decide +kernel
theorem zd_M_fails_21 : decode ze_M_fails 21 = .ok (.putfield 194, 3) := by decide +kernel
theorem zd_M_fails_24 : decode ze_M_fails 24 = .ok (.return_, 1) := by decide +kernel
theorem zd_M_head_0 : decode ze_M_head 0 = .ok (.aload_n 0, 1) := by decide +kernel
theorem zd_M_head_1 : decode ze_M_head 1 = .ok (.getfield 194, 3) := by decide +kernel
theorem zd_M_head_4 : decode ze_M_head 4 = .ok (.ifCond .eq 5, 3) := by decide +kernel
theorem zd_M_head_7 : decode ze_M_head 7 = .ok (.iload_n 2, 1) := by decide +kernel
theorem zd_M_head_8 : decode ze_M_head 8 = .ok (.ireturn, 1) := by decide +kernel
theorem zd_M_head_9 : decode ze_M_head 9 = .ok (.aload_n 0, 1) := by decide +kernel
theorem zd_M_head_10 : decode ze_M_head 10 = .ok (.getfield 197, 3) := by decide +kernel
theorem zd_M_head_13 : decode ze_M_head 13 = .ok (.istore_n 3, 1) := by decide +kernel
theorem zd_M_head_14 : decode ze_M_head 14 = .ok (.aload_n 0, 1) := by decide +kernel
theorem zd_M_head_15 : decode ze_M_head 15 = .ok (.getfield 197, 3) := by decide +kernel
theorem zd_M_head_18 : decode ze_M_head 18 = .ok (.iload_n 2, 1) := by decide +kernel
theorem zd_M_head_19 : decode ze_M_head 19 = .ok (.if_icmp .lt 14, 3) := by decide +kernel
theorem zd_M_head_22 : decode ze_M_head 22 = .ok (.aload_n 0, 1) := by decide +kernel
theorem zd_M_head_23 : decode ze_M_head 23 = .ok (.iconst 1, 1) := by decide +kernel
theorem zd_M_head_24 : decode ze_M_head 24 = .ok (.aload_n 0, 1) := by decide +kernel
theorem zd_M_head_25 : decode ze_M_head 25 = .ok (.getfield 197, 3) := by decide +kernel
theorem zd_M_head_28 : decode ze_M_head 28 = .ok (.invokevirtual 200, 3) := by decide +kernel
theorem zd_M_head_31 : decode ze_M_head 31 = .ok (.iload_n 2, 1) := by decide +kernel
theorem zd_M_head_32 : decode ze_M_head 32 = .ok (.ireturn, 1) := by decide +kernel
theorem zd_M_head_33 : decode ze_M_head 33 = .ok (.aload_n 0, 1) := by decide +kernel
theorem zd_M_head_34 : decode ze_M_head 34 = .ok (.getfield 7, 3) := by decide +kernel
theorem zd_M_head_37 : decode ze_M_head 37 = .ok (.aload_n 0, 1) := by decide +kernel
theorem zd_M_head_38 : decode ze_M_head 38 = .ok (.getfield 197, 3) := by decide +kernel
theorem zd_M_head_41 : decode ze_M_head 41 = .ok (.iaload, 1) := by decide +kernel
theorem zd_M_head_42 : decode ze_M_head 42 = .ok (.iload_n 1, 1) := by decide +kernel
theorem zd_M_head_43 : decode ze_M_head 43 = .ok (.if_icmp .eq 12, 3) := by decide +kernel
theorem zd_M_head_46 : decode ze_M_head 46 = .ok (.aload_n 0, 1) := by decide +kernel
theorem zd_M_head_47 : decode ze_M_head 47 = .ok (.iconst 2, 1) := by decide +kernel
theorem zd_M_head_48 : decode ze_M_head 48 = .ok (.iload_n 3, 1) := by decide +kernel
theorem zd_M_head_49 : decode ze_M_head 49 = .ok (.invokevirtual 200, 3) := by decide +kernel
theorem zd_M_head_52 : decode ze_M_head 52 = .ok (.goto 141, 3) := by decide +kernel
theorem zd_M_head_55 : decode ze_M_head 55 = .ok (.aload_n 0, 1) := by decide +kernel
theorem zd_M_head_56 : decode ze_M_head 56 = .ok (.getfield 197, 3) := by decide +kernel
theorem zd_M_head_59 : decode ze_M_head 59 = .ok (.iconst 1, 1) := by decide +kernel
theorem zd_M_head_60 : decode ze_M_head 60 = .ok (.iadd, 1) := by decide +kernel
theorem zd_M_head_61 : decode ze_M_head 61 = .ok (.iload_n 2, 1) := by decide +kernel
theorem zd_M_head_62 : decode ze_M_head 62 = .ok (.if_icmp .lt 12, 3) := by decide +kernel
theorem zd_M_head_65 : decode ze_M_head 65 = .ok (.aload_n 0, 1) := by decide +kernel
theorem zd_M_head_66 : decode ze_M_head 66 = .ok (.iconst 1, 1) := by decide +kernel
theorem zd_M_head_67 : decode ze_M_head 67 = .ok (.iload_n 3, 1) := by decide +kernel
theorem zd_M_head_68 : decode ze_M_head 68 = .ok (.invokevirtual 200, 3) := by decide +kernel
theorem zd_M_head_71 : decode ze_M_head 71 = .ok (.goto 122, 3) := by decide +kernel
theorem zd_M_head_74 : decode ze_M_head 74 = .ok (.aload_n 0, 1) := by decide +kernel
theorem zd_M_head_75 : decode ze_M_head 75 = .ok (.getfield 7, 3) := by decide +kernel
theorem zd_M_head_78 : decode ze_M_head 78 = .ok (.aload_n 0, 1) := by decide +kernel
theorem zd_M_head_79 : decode ze_M_head 79 = .ok (.getfield 197, 3) := by decide +kernel
theorem zd_M_head_82 : decode ze_M_head 82 = .ok (.iconst 1, 1) := by decide +kernel
theorem zd_M_head_83 : decode ze_M_head 83 = .ok (.iadd, 1) := by decide +kernel
theorem zd_M_head_84 : decode ze_M_head 84 = .ok (.iaload, 1) := by decide +kernel
theorem zd_M_head_85 : decode ze_M_head 85 = .ok (.sipush 128, 3) := by decide +kernel
theorem zd_M_head_88 : decode ze_M_head 88 = .ok (.if_icmp .eq 20, 3) := by decide +kernel
theorem zd_M_head_91 : decode ze_M_head 91 = .ok (.aload_n 0, 1) := by decide +kernel
theorem zd_M_head_92 : decode ze_M_head 92 = .ok (.getfield 7, 3) := by decide +kernel
theorem zd_M_head_95 : decode ze_M_head 95 = .ok (.aload_n 0, 1) := by decide +kernel
theorem zd_M_head_96 : decode ze_M_head 96 = .ok (.getfield 197, 3) := by decide +kernel
theorem zd_M_head_99 : decode ze_M_head 99 = .ok (.iconst 1, 1) := by decide +kernel
theorem zd_M_head_100 : decode ze_M_head 100 = .ok (.iadd, 1) := by decide +kernel
theorem zd_M_head_101 : decode ze_M_head 101 = .ok (.iaload, 1) := by decide +kernel
theorem zd_M_head_102 : decode ze_M_head 102 = .ok (.sipush 129, 3) := by decide +kernel
theorem zd_M_head_105 : decode ze_M_head 105 = .ok (.if_icmp .le 12, 3) := by decide +kernel
theorem zd_M_head_108 : decode ze_M_head 108 = .ok (.aload_n 0, 1) := by decide +kernel
theorem zd_M_head_109 : decode ze_M_head 109 = .ok (.iconst 3, 1) := by decide +kernel
theorem zd_M_head_110 : decode ze_M_head 110 = .ok (.iload_n 3, 1) := by decide +kernel
theorem zd_M_head_111 : decode ze_M_head 111 = .ok (.invokevirtual 200, 3) := by decide +kernel
theorem zd_M_head_114 : decode ze_M_head 114 = .ok (.goto 79, 3) := by decide +kernel
theorem zd_M_head_117 : decode ze_M_head 117 = .ok (.aload_n 0, 1) := by decide +kernel
theorem zd_M_head_118 : decode ze_M_head 118 = .ok (.getfield 7, 3) := by decide +kernel
theorem zd_M_head_121 : decode ze_M_head 121 = .ok (.aload_n 0, 1) := by decide +kernel
theorem zd_M_head_122 : decode ze_M_head 122 = .ok (.getfield 197, 3) := by decide +kernel
theorem zd_M_head_125 : decode ze_M_head 125 = .ok (.iconst 1, 1) := by decide +kernel
theorem zd_M_head_126 : decode ze_M_head 126 = .ok (.iadd, 1) := by decide +kernel
theorem zd_M_head_127 : decode ze_M_head 127 = .ok (.iaload, 1) := by decide +kernel
theorem zd_M_head_128 : decode ze_M_head 128 = .ok (.sipush 129, 3) := by decide +kernel
theorem zd_M_head_131 : decode ze_M_head 131 = .ok (.if_icmp .ne 22, 3) := by decide +kernel
theorem zd_M_head_134 : decode ze_M_head 134 = .ok (.aload_n 0, 1) := by decide +kernel
theorem zd_M_head_135 : decode ze_M_head 135 = .ok (.getfield 197, 3) := by decide +kernel
theorem zd_M_head_138 : decode ze_M_head 138 = .ok (.iconst 2, 1) := by decide +kernel
theorem zd_M_head_139 : decode ze_M_head 139 = .ok (.iadd, 1) := by decide +kernel
theorem zd_M_head_140 : decode ze_M_head 140 = .ok (.iload_n 2, 1) := by decide +kernel
theorem zd_M_head_141 : decode ze_M_head 141 = .ok (.if_icmp .lt 12, 3) := by decide +kernel
theorem zd_M_head_144 : decode ze_M_head 144 = .ok (.aload_n 0, 1) := by decide +kernel
theorem zd_M_head_145 : decode ze_M_head 145 = .ok (.iconst 1, 1) := by decide +kernel
theorem zd_M_head_146 : decode ze_M_head 146 = .ok (.iload_n 3, 1) := by decide +kernel
theorem zd_M_head_147 : decode ze_M_head 147 = .ok (.invokevirtual 200, 3) := by decide +kernel
theorem zd_M_head_150 : decode ze_M_head 150 = .ok (.goto 43, 3) := by decide +kernel
theorem zd_M_head_153 : decode ze_M_head 153 = .ok (.aload_n 0, 1) := by decide +kernel
theorem zd_M_head_154 : decode ze_M_head 154 = .ok (.getfield 7, 3) := by decide +kernel
theorem zd_M_head_157 : decode ze_M_head 157 = .ok (.aload_n 0, 1) := by decide +kernel
theorem zd_M_head_158 : decode ze_M_head 158 = .ok (.getfield 197, 3) := by decide +kernel
theorem zd_M_head_161 : decode ze_M_head 161 = .ok (.iconst 1, 1) := by decide +kernel
theorem zd_M_head_162 : decode ze_M_head 162 = .ok (.iadd, 1) := by decide +kernel
theorem zd_M_head_163 : decode ze_M_head 163 = .ok (.iaload, 1) := by decide +kernel
theorem zd_M_head_164 : decode ze_M_head 164 = .ok (.sipush 129, 3) := by decide +kernel
theorem zd_M_head_167 : decode ze_M_head 167 = .ok (.if_icmp .ne 26, 3) := by decide +kernel
theorem zd_M_head_170 : decode ze_M_head 170 = .ok (.aload_n 0, 1) := by decide +kernel
theorem zd_M_head_171 : decode ze_M_head 171 = .ok (.getfield 7, 3) := by decide +kernel
theorem zd_M_head_174 : decode ze_M_head 174 = .ok (.aload_n 0, 1) := by decide +kernel
theorem zd_M_head_175 : decode ze_M_head 175 = .ok (.getfield 197, 3) := by decide +kernel
theorem zd_M_head_178 : decode ze_M_head 178 = .ok (.iconst 2, 1) := by decide +kernel
theorem zd_M_head_179 : decode ze_M_head 179 = .ok (.iadd, 1) := by decide +kernel
theorem zd_M_head_180 : decode ze_M_head 180 = .ok (.iaload, 1) := by decide +kernel
theorem zd_M_head_181 : decode ze_M_head 181 = .ok (.sipush 128, 3) := by decide +kernel
theorem zd_M_head_184 : decode ze_M_head 184 = .ok (.if_icmp .ge 9, 3) := by decide +kernel
theorem zd_M_head_187 : decode ze_M_head 187 = .ok (.aload_n 0, 1) := by decide +kernel
theorem zd_M_head_188 : decode ze_M_head 188 = .ok (.iconst 3, 1) := by decide +kernel
theorem zd_M_head_189 : decode ze_M_head 189 = .ok (.iload_n 3, 1) := by decide +kernel
theorem zd_M_head_190 : decode ze_M_head 190 = .ok (.invokevirtual 200, 3) := by decide +kernel
theorem zd_M_head_193 : decode ze_M_head 193 = .ok (.aload_n 0, 1) := by decide +kernel
theorem zd_M_head_194 : decode ze_M_head 194 = .ok (.getfield 194, 3) := by decide +kernel
theorem zd_M_head_197 : decode ze_M_head 197 = .ok (.ifCond .eq 5, 3) := by decide +kernel
theorem zd_M_head_200 : decode ze_M_head 200 = .ok (.iload_n 2, 1) := by decide +kernel
theorem zd_M_head_201 : decode ze_M_head 201 = .ok (.ireturn, 1) := by decide +kernel
theorem zd_M_head_202 : decode ze_M_head 202 = .ok (.aload_n 0, 1) := by decide +kernel
theorem zd_M_head_203 : decode ze_M_head 203 = .ok (.getfield 7, 3) := by decide +kernel
theorem zd_M_head_206 : decode ze_M_head 206 = .ok (.aload_n 0, 1) := by decide +kernel
theorem zd_M_head_207 : decode ze_M_head 207 = .ok (.getfield 197, 3) := by decide +kernel
theorem zd_M_head_210 : decode ze_M_head 210 = .ok (.iconst 1, 1) := by decide +kernel
theorem zd_M_head_211 : decode ze_M_head 211 = .ok (.iadd, 1) := by decide +kernel
theorem zd_M_head_212 : decode ze_M_head 212 = .ok (.iaload, 1) := by decide +kernel
theorem zd_M_head_213 : decode ze_M_head 213 = .ok (.sipush 129, 3) := by decide +kernel
theorem zd_M_head_216 : decode ze_M_head 216 = .ok (.if_icmp .ne 17, 3) := by decide +kernel
theorem zd_M_head_219 : decode ze_M_head 219 = .ok (.aload_n 0, 1) := by decide +kernel
theorem zd_M_head_220 : decode ze_M_head 220 = .ok (.getfield 7, 3) := by decide +kernel
theorem zd_M_head_223 : decode ze_M_head 223 = .ok (.aload_n 0, 1) := by decide +kernel
theorem zd_M_head_224 : decode ze_M_head 224 = .ok (.getfield 197, 3) := by decide +kernel
theorem zd_M_head_227 : decode ze_M_head 227 = .ok (.iconst 2, 1) := by decide +kernel
theorem zd_M_head_228 : decode ze_M_head 228 = .ok (.iadd, 1) := by decide +kernel
theorem zd_M_head_229 : decode ze_M_head 229 = .ok (.iaload, 1) := by decide +kernel
theorem zd_M_head_230 : decode ze_M_head 230 = .ok (.goto 14, 3) := by decide +kernel
theorem zd_M_head_233 : decode ze_M_head 233 = .ok (.aload_n 0, 1) := by decide +kernel
theorem zd_M_head_234 : decode ze_M_head 234 = .ok (.getfield 7, 3) := by decide +kernel
theorem zd_M_head_237 : decode ze_M_head 237 = .ok (.aload_n 0, 1) := by decide +kernel
theorem zd_M_head_238 : decode ze_M_head 238 = .ok (.getfield 197, 3) := by decide +kernel
theorem zd_M_head_241 : decode ze_M_head 241 = .ok (.iconst 1, 1) := by decide +kernel
theorem zd_M_head_242 : decode ze_M_head 242 = .ok (.iadd, 1) := by decide +kernel
theorem zd_M_head_243 : decode ze_M_head 243 = .ok (.iaload, 1) := by decide +kernel
theorem zd_M_head_244 : decode ze_M_head 244 = .ok (.istore 4, 2) := by decide +kernel
theorem zd_M_head_246 : decode ze_M_head 246 = .ok (.aload_n 0, 1) := by decide +kernel
theorem zd_M_head_247 : decode ze_M_head 247 = .ok (.getfield 197, 3) := by decide +kernel
theorem zd_M_head_250 : decode ze_M_head 250 = .ok (.aload_n 0, 1) := by decide +kernel
theorem zd_M_head_251 : decode ze_M_head 251 = .ok (.getfield 7, 3) := by decide +kernel
theorem zd_M_head_254 : decode ze_M_head 254 = .ok (.aload_n 0, 1) := by decide +kernel
theorem zd_M_head_255 : decode ze_M_head 255 = .ok (.getfield 197, 3) := by decide +kernel
theorem zd_M_head_258 : decode ze_M_head 258 = .ok (.iconst 1, 1) := by decide +kernel
theorem zd_M_head_259 : decode ze_M_head 259 = .ok (.iadd, 1) := by decide +kernel
theorem zd_M_head_260 : decode ze_M_head 260 = .ok (.iaload, 1) := by decide +kernel
theorem zd_M_head_261 : decode ze_M_head 261 = .ok (.sipush 129, 3) := by decide +kernel
theorem zd_M_head_264 : decode ze_M_head 264 = .ok (.if_icmp .ne 7, 3) := by decide +kernel
theorem zd_M_head_267 : decode ze_M_head 267 = .ok (.iconst 3, 1) := by decide +kernel
theorem zd_M_head_268 : decode ze_M_head 268 = .ok (.goto 4, 3) := by decide +kernel
theorem zd_M_head_271 : decode ze_M_head 271 = .ok (.iconst 2, 1) := by decide +kernel
theorem zd_M_head_272 : decode ze_M_head 272 = .ok (.iadd, 1) := by decide +kernel
theorem zd_M_head_273 : decode ze_M_head 273 = .ok (.istore 5, 2) := by decide +kernel
theorem zd_M_head_275 : decode ze_M_head 275 = .ok (.iload 5, 2) := by decide +kernel
theorem zd_M_head_277 : decode ze_M_head 277 = .ok (.iload 4, 2) := by decide +kernel
theorem zd_M_head_279 : decode ze_M_head 279 = .ok (.iadd, 1) := by decide +kernel
theorem zd_M_head_280 : decode ze_M_head 280 = .ok (.iload_n 2, 1) := by decide +kernel
theorem zd_M_head_281 : decode ze_M_head 281 = .ok (.if_icmp .le 11, 3) := by decide +kernel
theorem zd_M_head_284 : decode ze_M_head 284 = .ok (.aload_n 0, 1) := by decide +kernel
theorem zd_M_head_285 : decode ze_M_head 285 = .ok (.iconst 1, 1) := by decide +kernel
theorem zd_M_head_286 : decode ze_M_head 286 = .ok (.iload_n 3, 1) := by decide +kernel
theorem zd_M_head_287 : decode ze_M_head 287 = .ok (.invokevirtual 200, 3) := by decide +kernel
theorem zd_M_head_290 : decode ze_M_head 290 = .ok (.iload_n 2, 1) := by decide +kernel
theorem zd_M_head_291 : decode ze_M_head 291 = .ok (.ireturn, 1) := by decide +kernel
theorem zd_M_head_292 : decode ze_M_head 292 = .ok (.aload_n 0, 1) := by decide +kernel
theorem zd_M_head_293 : decode ze_M_head 293 = .ok (.iload 5, 2) := by decide +kernel
theorem zd_M_head_295 : decode ze_M_head 295 = .ok (.putfield 197, 3) := by decide +kernel
theorem zd_M_head_298 : decode ze_M_head 298 = .ok (.iload 5, 2) := by decide +kernel
theorem zd_M_head_300 : decode ze_M_head 300 = .ok (.iload 4, 2) := by decide +kernel
theorem zd_M_head_302 : decode ze_M_head 302 = .ok (.iadd, 1) := by decide +kernel
theorem zd_M_head_303 : decode ze_M_head 303 = .ok (.ireturn, 1) := by decide +kernel
theorem zd_M_isName_0 : decode ze_M_isName 0 = .ok (.lload_n 0, 1) := by decide +kernel
theorem zd_M_isName_1 : decode ze_M_isName 1 = .ok (.invokestatic 133, 3) := by decide +kernel
theorem zd_M_isName_4 : decode ze_M_isName 4 = .ok (.istore_n 2, 1) := by decide +kernel
theorem zd_M_isName_5 : decode ze_M_isName 5 = .ok (.iload_n 2, 1) := by decide +kernel
theorem zd_M_isName_6 : decode ze_M_isName 6 = .ok (.ifCond .eq 19, 3) := by decide +kernel
theorem zd_M_isName_9 : decode ze_M_isName 9 = .ok (.lload_n 0, 1) := by decide +kernel
theorem zd_M_isName_10 : decode ze_M_isName 10 = .ok (.lconst 0, 1) := by decide +kernel
theorem zd_M_isName_11 : decode ze_M_isName 11 = .ok (.lcmp, 1) := by decide +kernel
theorem zd_M_isName_12 : decode ze_M_isName 12 = .ok (.ifCond .lt 13, 3) := by decide +kernel
theorem zd_M_isName_15 : decode ze_M_isName 15 = .ok (.lload_n 0, 1) := by decide +kernel
theorem zd_M_isName_16 : decode ze_M_isName 16 = .ok (.iconst 5, 1) := by decide +kernel
theorem zd_M_isName_17 : decode ze_M_isName 17 = .ok (.iload_n 2, 1) := by decide +kernel
theorem zd_M_isName_18 : decode ze_M_isName 18 = .ok (.imul, 1) := by decide +kernel
theorem zd_M_isName_19 : decode ze_M_isName 19 = .ok (.lshr, 1) := by decide +kernel
theorem zd_M_isName_20 : decode ze_M_isName 20 = .ok (.lconst 0, 1) := by decide +kernel
theorem zd_M_isName_21 : decode ze_M_isName 21 = .ok (.lcmp, 1) := by decide +kernel
theorem zd_M_isName_22 : decode ze_M_isName 22 = .ok (.ifCond .eq 5, 3) := by decide +kernel
theorem zd_M_isName_25 : decode ze_M_isName 25 = .ok (.iconst 0, 1) := by decide +kernel
theorem zd_M_isName_26 : decode ze_M_isName 26 = .ok (.ireturn, 1) := by decide +kernel
theorem zd_M_isName_27 : decode ze_M_isName 27 = .ok (.ldc2_w 137, 3) := by decide +kernel
theorem zd_M_isName_30 : decode ze_M_isName 30 = .ok (.lstore_n 3, 1) := by decide +kernel
theorem zd_M_isName_31 : decode ze_M_isName 31 = .ok (.iconst 0, 1) := by decide +kernel
theorem zd_M_isName_32 : decode ze_M_isName 32 = .ok (.istore 5, 2) := by decide +kernel
theorem zd_M_isName_34 : decode ze_M_isName 34 = .ok (.iload 5, 2) := by decide +kernel
theorem zd_M_isName_36 : decode ze_M_isName 36 = .ok (.iload_n 2, 1) := by decide +kernel
theorem zd_M_isName_37 : decode ze_M_isName 37 = .ok (.if_icmp .ge 52, 3) := by decide +kernel
theorem zd_M_isName_40 : decode ze_M_isName 40 = .ok (.lload_n 0, 1) := by decide +kernel
theorem zd_M_isName_41 : decode ze_M_isName 41 = .ok (.iconst 5, 1) := by decide +kernel
theorem zd_M_isName_42 : decode ze_M_isName 42 = .ok (.iload 5, 2) := by decide +kernel
theorem zd_M_isName_44 : decode ze_M_isName 44 = .ok (.imul, 1) := by decide +kernel
theorem zd_M_isName_45 : decode ze_M_isName 45 = .ok (.lshr, 1) := by decide +kernel
theorem zd_M_isName_46 : decode ze_M_isName 46 = .ok (.ldc2_w 131, 3) := by decide +kernel
theorem zd_M_isName_49 : decode ze_M_isName 49 = .ok (.land, 1) := by decide +kernel
theorem zd_M_isName_50 : decode ze_M_isName 50 = .ok (.lstore 6, 2) := by decide +kernel
theorem zd_M_isName_52 : decode ze_M_isName 52 = .ok (.lload 6, 2) := by decide +kernel
theorem zd_M_isName_54 : decode ze_M_isName 54 = .ok (.ldc2_w 137, 3) := by decide +kernel
theorem zd_M_isName_57 : decode ze_M_isName 57 = .ok (.lcmp, 1) := by decide +kernel
theorem zd_M_isName_58 : decode ze_M_isName 58 = .ok (.ifCond .gt 20, 3) := by decide +kernel
theorem zd_M_isName_61 : decode ze_M_isName 61 = .ok (.lload 6, 2) := by decide +kernel
theorem zd_M_isName_63 : decode ze_M_isName 63 = .ok (.ldc2_w 137, 3) := by decide +kernel
theorem zd_M_isName_66 : decode ze_M_isName 66 = .ok (.lcmp, 1) := by decide +kernel
theorem zd_M_isName_67 : decode ze_M_isName 67 = .ok (.ifCond .ne 13, 3) := by decide +kernel
theorem zd_M_isName_70 : decode ze_M_isName 70 = .ok (.lload_n 3, 1) := by decide +kernel
theorem zd_M_isName_71 : decode ze_M_isName 71 = .ok (.ldc2_w 137, 3) := by decide +kernel
theorem zd_M_isName_74 : decode ze_M_isName 74 = .ok (.lcmp, 1) := by decide +kernel
theorem zd_M_isName_75 : decode ze_M_isName 75 = .ok (.ifCond .ne 5, 3) := by decide +kernel
theorem zd_M_isName_78 : decode ze_M_isName 78 = .ok (.iconst 0, 1) := by decide +kernel
theorem zd_M_isName_79 : decode ze_M_isName 79 = .ok (.ireturn, 1) := by decide +kernel
theorem zd_M_isName_80 : decode ze_M_isName 80 = .ok (.lload 6, 2) := by decide +kernel
theorem zd_M_isName_82 : decode ze_M_isName 82 = .ok (.lstore_n 3, 1) := by decide +kernel
theorem zd_M_isName_83 : decode ze_M_isName 83 = .ok (.iinc 5 1, 3) := by decide +kernel
theorem zd_M_isName_86 : decode ze_M_isName 86 = .ok (.goto (-52), 3) := by decide +kernel
theorem zd_M_isName_89 : decode ze_M_isName 89 = .ok (.lload_n 3, 1) := by decide +kernel
theorem zd_M_isName_90 : decode ze_M_isName 90 = .ok (.ldc2_w 137, 3) := by decide +kernel
theorem zd_M_isName_93 : decode ze_M_isName 93 = .ok (.lcmp, 1) := by decide +kernel
theorem zd_M_isName_94 : decode ze_M_isName 94 = .ok (.ifCond .eq 7, 3) := by decide +kernel
theorem zd_M_isName_97 : decode ze_M_isName 97 = .ok (.iconst 1, 1) := by decide +kernel
theorem zd_M_isName_98 : decode ze_M_isName 98 = .ok (.goto 4, 3) := by decide +kernel
theorem zd_M_isName_101 : decode ze_M_isName 101 = .ok (.iconst 0, 1) := by decide +kernel
theorem zd_M_isName_102 : decode ze_M_isName 102 = .ok (.ireturn, 1) := by decide +kernel
theorem zd_M_title_0 : decode ze_M_title 0 = .ok (.aload_n 0, 1) := by decide +kernel
theorem zd_M_title_1 : decode ze_M_title 1 = .ok (.getfield 197, 3) := by decide +kernel
theorem zd_M_title_4 : decode ze_M_title 4 = .ok (.istore_n 3, 1) := by decide +kernel
theorem zd_M_title_5 : decode ze_M_title 5 = .ok (.aload_n 0, 1) := by decide +kernel
theorem zd_M_title_6 : decode ze_M_title 6 = .ok (.iload_n 1, 1) := by decide +kernel
theorem zd_M_title_7 : decode ze_M_title 7 = .ok (.iload_n 2, 1) := by decide +kernel
theorem zd_M_title_8 : decode ze_M_title 8 = .ok (.invokevirtual 203, 3) := by decide +kernel
theorem zd_M_title_11 : decode ze_M_title 11 = .ok (.istore 4, 2) := by decide +kernel
theorem zd_M_title_13 : decode ze_M_title 13 = .ok (.aload_n 0, 1) := by decide +kernel
theorem zd_M_title_14 : decode ze_M_title 14 = .ok (.getfield 194, 3) := by decide +kernel
theorem zd_M_title_17 : decode ze_M_title 17 = .ok (.ifCond .eq 5, 3) := by decide +kernel
theorem zd_M_title_20 : decode ze_M_title 20 = .ok (.lconst 0, 1) := by decide +kernel
theorem zd_M_title_21 : decode ze_M_title 21 = .ok (.lreturn, 1) := by decide +kernel
theorem zd_M_title_22 : decode ze_M_title 22 = .ok (.iload 4, 2) := by decide +kernel
theorem zd_M_title_24 : decode ze_M_title 24 = .ok (.aload_n 0, 1) := by decide +kernel
theorem zd_M_title_25 : decode ze_M_title 25 = .ok (.getfield 197, 3) := by decide +kernel
theorem zd_M_title_28 : decode ze_M_title 28 = .ok (.isub, 1) := by decide +kernel
theorem zd_M_title_29 : decode ze_M_title 29 = .ok (.i2l, 1) := by decide +kernel
theorem zd_M_title_30 : decode ze_M_title 30 = .ok (.lconst 1, 1) := by decide +kernel
theorem zd_M_title_31 : decode ze_M_title 31 = .ok (.ldc2_w 206, 3) := by decide +kernel
theorem zd_M_title_34 : decode ze_M_title 34 = .ok (.invokestatic 125, 3) := by decide +kernel
theorem zd_M_title_37 : decode ze_M_title 37 = .ok (.istore 5, 2) := by decide +kernel
theorem zd_M_title_39 : decode ze_M_title 39 = .ok (.lconst 0, 1) := by decide +kernel
theorem zd_M_title_40 : decode ze_M_title 40 = .ok (.lstore 6, 2) := by decide +kernel
theorem zd_M_title_42 : decode ze_M_title 42 = .ok (.aload_n 0, 1) := by decide +kernel
theorem zd_M_title_43 : decode ze_M_title 43 = .ok (.getfield 197, 3) := by decide +kernel
theorem zd_M_title_46 : decode ze_M_title 46 = .ok (.istore 8, 2) := by decide +kernel
theorem zd_M_title_48 : decode ze_M_title 48 = .ok (.iload 8, 2) := by decide +kernel
theorem zd_M_title_50 : decode ze_M_title 50 = .ok (.iload 4, 2) := by decide +kernel
theorem zd_M_title_52 : decode ze_M_title 52 = .ok (.if_icmp .ge 93, 3) := by decide +kernel
theorem zd_M_title_55 : decode ze_M_title 55 = .ok (.iload 5, 2) := by decide +kernel
theorem zd_M_title_57 : decode ze_M_title 57 = .ok (.ifCond .eq 88, 3) := by decide +kernel
theorem zd_M_title_60 : decode ze_M_title 60 = .ok (.aload_n 0, 1) := by decide +kernel
theorem zd_M_title_61 : decode ze_M_title 61 = .ok (.getfield 7, 3) := by decide +kernel
theorem zd_M_title_64 : decode ze_M_title 64 = .ok (.iload 8, 2) := by decide +kernel
theorem zd_M_title_66 : decode ze_M_title 66 = .ok (.iaload, 1) := by decide +kernel
theorem zd_M_title_67 : decode ze_M_title 67 = .ok (.bipush 46, 2) := by decide +kernel
theorem zd_M_title_69 : decode ze_M_title 69 = .ok (.if_icmp .ne 8, 3) := by decide +kernel
theorem zd_M_title_72 : decode ze_M_title 72 = .ok (.bipush 27, 2) := by decide +kernel
theorem zd_M_title_74 : decode ze_M_title 74 = .ok (.goto 13, 3) := by decide +kernel
theorem zd_M_title_77 : decode ze_M_title 77 = .ok (.aload_n 0, 1) := by decide +kernel
theorem zd_M_title_78 : decode ze_M_title 78 = .ok (.getfield 7, 3) := by decide +kernel
theorem zd_M_title_81 : decode ze_M_title 81 = .ok (.iload 8, 2) := by decide +kernel
theorem zd_M_title_83 : decode ze_M_title 83 = .ok (.iaload, 1) := by decide +kernel
theorem zd_M_title_84 : decode ze_M_title 84 = .ok (.bipush 96, 2) := by decide +kernel
theorem zd_M_title_86 : decode ze_M_title 86 = .ok (.isub, 1) := by decide +kernel
theorem zd_M_title_87 : decode ze_M_title 87 = .ok (.istore 9, 2) := by decide +kernel
theorem zd_M_title_89 : decode ze_M_title 89 = .ok (.iload 9, 2) := by decide +kernel
theorem zd_M_title_91 : decode ze_M_title 91 = .ok (.iconst 1, 1) := by decide +kernel
theorem zd_M_title_92 : decode ze_M_title 92 = .ok (.if_icmp .lt 26, 3) := by decide +kernel
theorem zd_M_title_95 : decode ze_M_title 95 = .ok (.iload 9, 2) := by decide +kernel
theorem zd_M_title_97 : decode ze_M_title 97 = .ok (.bipush 27, 2) := by decide +kernel
theorem zd_M_title_99 : decode ze_M_title 99 = .ok (.if_icmp .gt 19, 3) := by decide +kernel
theorem zd_M_title_102 : decode ze_M_title 102 = .ok (.aload_n 0, 1) := by decide +kernel
theorem zd_M_title_103 : decode ze_M_title 103 = .ok (.getfield 7, 3) := by decide +kernel
theorem zd_M_title_106 : decode ze_M_title 106 = .ok (.iload 8, 2) := by decide +kernel
theorem zd_M_title_108 : decode ze_M_title 108 = .ok (.iaload, 1) := by decide +kernel
theorem zd_M_title_109 : decode ze_M_title 109 = .ok (.bipush 123, 2) := by decide +kernel
theorem zd_M_title_111 : decode ze_M_title 111 = .ok (.if_icmp .eq 7, 3) := by decide +kernel
theorem zd_M_title_114 : decode ze_M_title 114 = .ok (.iconst 1, 1) := by decide +kernel
theorem zd_M_title_115 : decode ze_M_title 115 = .ok (.goto 4, 3) := by decide +kernel
theorem zd_M_title_118 : decode ze_M_title 118 = .ok (.iconst 0, 1) := by decide +kernel
theorem zd_M_title_119 : decode ze_M_title 119 = .ok (.istore 5, 2) := by decide +kernel
theorem zd_M_title_121 : decode ze_M_title 121 = .ok (.lload 6, 2) := by decide +kernel
theorem zd_M_title_123 : decode ze_M_title 123 = .ok (.iload 9, 2) := by decide +kernel
theorem zd_M_title_125 : decode ze_M_title 125 = .ok (.i2l, 1) := by decide +kernel
theorem zd_M_title_126 : decode ze_M_title 126 = .ok (.iconst 5, 1) := by decide +kernel
theorem zd_M_title_127 : decode ze_M_title 127 = .ok (.iload 8, 2) := by decide +kernel
theorem zd_M_title_129 : decode ze_M_title 129 = .ok (.aload_n 0, 1) := by decide +kernel
theorem zd_M_title_130 : decode ze_M_title 130 = .ok (.getfield 197, 3) := by decide +kernel
theorem zd_M_title_133 : decode ze_M_title 133 = .ok (.isub, 1) := by decide +kernel
theorem zd_M_title_134 : decode ze_M_title 134 = .ok (.imul, 1) := by decide +kernel
theorem zd_M_title_135 : decode ze_M_title 135 = .ok (.lshl, 1) := by decide +kernel
theorem zd_M_title_136 : decode ze_M_title 136 = .ok (.lor, 1) := by decide +kernel
theorem zd_M_title_137 : decode ze_M_title 137 = .ok (.lstore 6, 2) := by decide +kernel
theorem zd_M_title_139 : decode ze_M_title 139 = .ok (.iinc 8 1, 3) := by decide +kernel
theorem zd_M_title_142 : decode ze_M_title 142 = .ok (.goto (-94), 3) := by decide +kernel
theorem zd_M_title_145 : decode ze_M_title 145 = .ok (.iload 5, 2) := by decide +kernel
theorem zd_M_title_147 : decode ze_M_title 147 = .ok (.ifCond .eq 11, 3) := by decide +kernel
theorem zd_M_title_150 : decode ze_M_title 150 = .ok (.lload 6, 2) := by decide +kernel
theorem zd_M_title_152 : decode ze_M_title 152 = .ok (.invokestatic 145, 3) := by decide +kernel
theorem zd_M_title_155 : decode ze_M_title 155 = .ok (.ifCond .ne 9, 3) := by decide +kernel
theorem zd_M_title_158 : decode ze_M_title 158 = .ok (.aload_n 0, 1) := by decide +kernel
theorem zd_M_title_159 : decode ze_M_title 159 = .ok (.iconst 4, 1) := by decide +kernel
theorem zd_M_title_160 : decode ze_M_title 160 = .ok (.iload_n 3, 1) := by decide +kernel
theorem zd_M_title_161 : decode ze_M_title 161 = .ok (.invokevirtual 200, 3) := by decide +kernel
theorem zd_M_title_164 : decode ze_M_title 164 = .ok (.aload_n 0, 1) := by decide +kernel
theorem zd_M_title_165 : decode ze_M_title 165 = .ok (.iload 4, 2) := by decide +kernel
theorem zd_M_title_167 : decode ze_M_title 167 = .ok (.putfield 197, 3) := by decide +kernel
theorem zd_M_title_170 : decode ze_M_title 170 = .ok (.lload 6, 2) := by decide +kernel
theorem zd_M_title_172 : decode ze_M_title 172 = .ok (.lreturn, 1) := by decide +kernel
theorem zd_M_number_0 : decode ze_M_number 0 = .ok (.aload_n 0, 1) := by decide +kernel
theorem zd_M_number_1 : decode ze_M_number 1 = .ok (.getfield 197, 3) := by decide +kernel
theorem zd_M_number_4 : decode ze_M_number 4 = .ok (.istore_n 2, 1) := by decide +kernel
theorem zd_M_number_5 : decode ze_M_number 5 = .ok (.aload_n 0, 1) := by decide +kernel
theorem zd_M_number_6 : decode ze_M_number 6 = .ok (.iconst 2, 1) := by decide +kernel
theorem zd_M_number_7 : decode ze_M_number 7 = .ok (.iload_n 1, 1) := by decide +kernel
theorem zd_M_number_8 : decode ze_M_number 8 = .ok (.invokevirtual 203, 3) := by decide +kernel
theorem zd_M_number_11 : decode ze_M_number 11 = .ok (.istore_n 3, 1) := by decide +kernel
theorem zd_M_number_12 : decode ze_M_number 12 = .ok (.aload_n 0, 1) := by decide +kernel
theorem zd_M_number_13 : decode ze_M_number 13 = .ok (.getfield 194, 3) := by decide +kernel
theorem zd_M_number_16 : decode ze_M_number 16 = .ok (.ifCond .eq 5, 3) := by decide +kernel
theorem zd_M_number_19 : decode ze_M_number 19 = .ok (.lconst 0, 1) := by decide +kernel
theorem zd_M_number_20 : decode ze_M_number 20 = .ok (.lreturn, 1) := by decide +kernel
theorem zd_M_number_21 : decode ze_M_number 21 = .ok (.iload_n 3, 1) := by decide +kernel
theorem zd_M_number_22 : decode ze_M_number 22 = .ok (.aload_n 0, 1) := by decide +kernel
theorem zd_M_number_23 : decode ze_M_number 23 = .ok (.getfield 197, 3) := by decide +kernel
theorem zd_M_number_26 : decode ze_M_number 26 = .ok (.isub, 1) := by decide +kernel
theorem zd_M_number_27 : decode ze_M_number 27 = .ok (.istore 4, 2) := by decide +kernel
theorem zd_M_number_29 : decode ze_M_number 29 = .ok (.iload 4, 2) := by decide +kernel
theorem zd_M_number_31 : decode ze_M_number 31 = .ok (.i2l, 1) := by decide +kernel
theorem zd_M_number_32 : decode ze_M_number 32 = .ok (.lconst 1, 1) := by decide +kernel
theorem zd_M_number_33 : decode ze_M_number 33 = .ok (.ldc2_w 206, 3) := by decide +kernel
theorem zd_M_number_36 : decode ze_M_number 36 = .ok (.invokestatic 125, 3) := by decide +kernel
theorem zd_M_number_39 : decode ze_M_number 39 = .ok (.ifCond .eq 56, 3) := by decide +kernel
theorem zd_M_number_42 : decode ze_M_number 42 = .ok (.aload_n 0, 1) := by decide +kernel
theorem zd_M_number_43 : decode ze_M_number 43 = .ok (.getfield 7, 3) := by decide +kernel
theorem zd_M_number_46 : decode ze_M_number 46 = .ok (.aload_n 0, 1) := by decide +kernel
theorem zd_M_number_47 : decode ze_M_number 47 = .ok (.getfield 197, 3) := by decide +kernel
theorem zd_M_number_50 : decode ze_M_number 50 = .ok (.iaload, 1) := by decide +kernel
theorem zd_M_number_51 : decode ze_M_number 51 = .ok (.sipush 128, 3) := by decide +kernel
theorem zd_M_number_54 : decode ze_M_number 54 = .ok (.if_icmp .ge 41, 3) := by decide +kernel
theorem zd_M_number_57 : decode ze_M_number 57 = .ok (.aload_n 0, 1) := by decide +kernel
theorem zd_M_number_58 : decode ze_M_number 58 = .ok (.getfield 7, 3) := by decide +kernel
theorem zd_M_number_61 : decode ze_M_number 61 = .ok (.aload_n 0, 1) := by decide +kernel
theorem zd_M_number_62 : decode ze_M_number 62 = .ok (.getfield 197, 3) := by decide +kernel
theorem zd_M_number_65 : decode ze_M_number 65 = .ok (.iaload, 1) := by decide +kernel
theorem zd_M_number_66 : decode ze_M_number 66 = .ok (.ifCond .ne 25, 3) := by decide +kernel
theorem zd_M_number_69 : decode ze_M_number 69 = .ok (.iload 4, 2) := by decide +kernel
theorem zd_M_number_71 : decode ze_M_number 71 = .ok (.iconst 1, 1) := by decide +kernel
theorem zd_M_number_72 : decode ze_M_number 72 = .ok (.if_icmp .eq 19, 3) := by decide +kernel
theorem zd_M_number_75 : decode ze_M_number 75 = .ok (.aload_n 0, 1) := by decide +kernel
theorem zd_M_number_76 : decode ze_M_number 76 = .ok (.getfield 7, 3) := by decide +kernel
theorem zd_M_number_79 : decode ze_M_number 79 = .ok (.aload_n 0, 1) := by decide +kernel
theorem zd_M_number_80 : decode ze_M_number 80 = .ok (.getfield 197, 3) := by decide +kernel
theorem zd_M_number_83 : decode ze_M_number 83 = .ok (.iconst 1, 1) := by decide +kernel
theorem zd_M_number_84 : decode ze_M_number 84 = .ok (.iadd, 1) := by decide +kernel
theorem zd_M_number_85 : decode ze_M_number 85 = .ok (.iaload, 1) := by decide +kernel
theorem zd_M_number_86 : decode ze_M_number 86 = .ok (.bipush 127, 2) := by decide +kernel
theorem zd_M_number_88 : decode ze_M_number 88 = .ok (.if_icmp .le 7, 3) := by decide +kernel
theorem zd_M_number_91 : decode ze_M_number 91 = .ok (.iconst 1, 1) := by decide +kernel
theorem zd_M_number_92 : decode ze_M_number 92 = .ok (.goto 4, 3) := by decide +kernel
theorem zd_M_number_95 : decode ze_M_number 95 = .ok (.iconst 0, 1) := by decide +kernel
theorem zd_M_number_96 : decode ze_M_number 96 = .ok (.istore 5, 2) := by decide +kernel
theorem zd_M_number_98 : decode ze_M_number 98 = .ok (.iload 5, 2) := by decide +kernel
theorem zd_M_number_100 : decode ze_M_number 100 = .ok (.ifCond .ne 9, 3) := by decide +kernel
theorem zd_M_number_103 : decode ze_M_number 103 = .ok (.aload_n 0, 1) := by decide +kernel
theorem zd_M_number_104 : decode ze_M_number 104 = .ok (.iconst 4, 1) := by decide +kernel
theorem zd_M_number_105 : decode ze_M_number 105 = .ok (.iload_n 2, 1) := by decide +kernel
theorem zd_M_number_106 : decode ze_M_number 106 = .ok (.invokevirtual 200, 3) := by decide +kernel
theorem zd_M_number_109 : decode ze_M_number 109 = .ok (.lconst 0, 1) := by decide +kernel
theorem zd_M_number_110 : decode ze_M_number 110 = .ok (.lstore 6, 2) := by decide +kernel
theorem zd_M_number_112 : decode ze_M_number 112 = .ok (.aload_n 0, 1) := by decide +kernel
theorem zd_M_number_113 : decode ze_M_number 113 = .ok (.getfield 197, 3) := by decide +kernel
theorem zd_M_number_116 : decode ze_M_number 116 = .ok (.istore 8, 2) := by decide +kernel
theorem zd_M_number_118 : decode ze_M_number 118 = .ok (.iload 8, 2) := by decide +kernel
theorem zd_M_number_120 : decode ze_M_number 120 = .ok (.iload_n 3, 1) := by decide +kernel
theorem zd_M_number_121 : decode ze_M_number 121 = .ok (.if_icmp .ge 30, 3) := by decide +kernel
theorem zd_M_number_124 : decode ze_M_number 124 = .ok (.iload 5, 2) := by decide +kernel
theorem zd_M_number_126 : decode ze_M_number 126 = .ok (.ifCond .eq 25, 3) := by decide +kernel
theorem zd_M_number_129 : decode ze_M_number 129 = .ok (.lload 6, 2) := by decide +kernel
theorem zd_M_number_131 : decode ze_M_number 131 = .ok (.bipush 8, 2) := by decide +kernel
theorem zd_M_number_133 : decode ze_M_number 133 = .ok (.lshl, 1) := by decide +kernel
theorem zd_M_number_134 : decode ze_M_number 134 = .ok (.aload_n 0, 1) := by decide +kernel
theorem zd_M_number_135 : decode ze_M_number 135 = .ok (.getfield 7, 3) := by decide +kernel
theorem zd_M_number_138 : decode ze_M_number 138 = .ok (.iload 8, 2) := by decide +kernel
theorem zd_M_number_140 : decode ze_M_number 140 = .ok (.iaload, 1) := by decide +kernel
theorem zd_M_number_141 : decode ze_M_number 141 = .ok (.i2l, 1) := by decide +kernel
theorem zd_M_number_142 : decode ze_M_number 142 = .ok (.lor, 1) := by decide +kernel
theorem zd_M_number_143 : decode ze_M_number 143 = .ok (.lstore 6, 2) := by decide +kernel
theorem zd_M_number_145 : decode ze_M_number 145 = .ok (.iinc 8 1, 3) := by decide +kernel
theorem zd_M_number_148 : decode ze_M_number 148 = .ok (.goto (-30), 3) := by decide +kernel
theorem zd_M_number_151 : decode ze_M_number 151 = .ok (.aload_n 0, 1) := by decide +kernel
theorem zd_M_number_152 : decode ze_M_number 152 = .ok (.iload_n 3, 1) := by decide +kernel
theorem zd_M_number_153 : decode ze_M_number 153 = .ok (.putfield 197, 3) := by decide +kernel
theorem zd_M_number_156 : decode ze_M_number 156 = .ok (.lload 6, 2) := by decide +kernel
theorem zd_M_number_158 : decode ze_M_number 158 = .ok (.lreturn, 1) := by decide +kernel
theorem zd_M_done_0 : decode ze_M_done 0 = .ok (.aload_n 0, 1) := by decide +kernel
theorem zd_M_done_1 : decode ze_M_done 1 = .ok (.getfield 194, 3) := by decide +kernel
theorem zd_M_done_4 : decode ze_M_done 4 = .ok (.ifCond .ne 20, 3) := by decide +kernel
theorem zd_M_done_7 : decode ze_M_done 7 = .ok (.aload_n 0, 1) := by decide +kernel
theorem zd_M_done_8 : decode ze_M_done 8 = .ok (.getfield 197, 3) := by decide +kernel
theorem zd_M_done_11 : decode ze_M_done 11 = .ok (.iload_n 1, 1) := by decide +kernel
theorem zd_M_done_12 : decode ze_M_done 12 = .ok (.if_icmp .ge 12, 3) := by decide +kernel
theorem zd_M_done_15 : decode ze_M_done 15 = .ok (.aload_n 0, 1) := by decide +kernel
theorem zd_M_done_16 : decode ze_M_done 16 = .ok (.iconst 5, 1) := by decide +kernel
theorem zd_M_done_17 : decode ze_M_done 17 = .ok (.aload_n 0, 1) := by decide +kernel
theorem zd_M_done_18 : decode ze_M_done 18 = .ok (.getfield 197, 3) := by decide +kernel
theorem zd_M_done_21 : decode ze_M_done 21 = .ok (.invokevirtual 200, 3) := by decide +kernel
theorem zd_M_done_24 : decode ze_M_done 24 = .ok (.return_, 1) := by decide +kernel
theorem zd_M_hash_0 : decode ze_M_hash 0 = .ok (.ldc 110, 2) := by decide +kernel
theorem zd_M_hash_2 : decode ze_M_hash 2 = .ok (.istore_n 3, 1) := by decide +kernel
theorem zd_M_hash_3 : decode ze_M_hash 3 = .ok (.iload_n 1, 1) := by decide +kernel
theorem zd_M_hash_4 : decode ze_M_hash 4 = .ok (.istore 4, 2) := by decide +kernel
theorem zd_M_hash_6 : decode ze_M_hash 6 = .ok (.iload 4, 2) := by decide +kernel
theorem zd_M_hash_8 : decode ze_M_hash 8 = .ok (.iload_n 2, 1) := by decide +kernel
theorem zd_M_hash_9 : decode ze_M_hash 9 = .ok (.if_icmp .ge 22, 3) := by decide +kernel
theorem zd_M_hash_12 : decode ze_M_hash 12 = .ok (.iload_n 3, 1) := by decide +kernel
theorem zd_M_hash_13 : decode ze_M_hash 13 = .ok (.aload_n 0, 1) := by decide +kernel
theorem zd_M_hash_14 : decode ze_M_hash 14 = .ok (.getfield 7, 3) := by decide +kernel
theorem zd_M_hash_17 : decode ze_M_hash 17 = .ok (.iload 4, 2) := by decide +kernel
theorem zd_M_hash_19 : decode ze_M_hash 19 = .ok (.iaload, 1) := by decide +kernel
theorem zd_M_hash_20 : decode ze_M_hash 20 = .ok (.ixor, 1) := by decide +kernel
theorem zd_M_hash_21 : decode ze_M_hash 21 = .ok (.ldc 111, 2) := by decide +kernel
theorem zd_M_hash_23 : decode ze_M_hash 23 = .ok (.imul, 1) := by decide +kernel
theorem zd_M_hash_24 : decode ze_M_hash 24 = .ok (.istore_n 3, 1) := by decide +kernel
theorem zd_M_hash_25 : decode ze_M_hash 25 = .ok (.iinc 4 1, 3) := by decide +kernel
theorem zd_M_hash_28 : decode ze_M_hash 28 = .ok (.goto (-22), 3) := by decide +kernel
theorem zd_M_hash_31 : decode ze_M_hash 31 = .ok (.iload_n 3, 1) := by decide +kernel
theorem zd_M_hash_32 : decode ze_M_hash 32 = .ok (.iload_n 3, 1) := by decide +kernel
theorem zd_M_hash_33 : decode ze_M_hash 33 = .ok (.bipush 15, 2) := by decide +kernel
theorem zd_M_hash_35 : decode ze_M_hash 35 = .ok (.iushr, 1) := by decide +kernel
theorem zd_M_hash_36 : decode ze_M_hash 36 = .ok (.ixor, 1) := by decide +kernel
theorem zd_M_hash_37 : decode ze_M_hash 37 = .ok (.ireturn, 1) := by decide +kernel
theorem zd_M_next_0 : decode ze_M_next 0 = .ok (.aload_n 0, 1) := by decide +kernel
theorem zd_M_next_1 : decode ze_M_next 1 = .ok (.getfield 194, 3) := by decide +kernel
theorem zd_M_next_4 : decode ze_M_next 4 = .ok (.ifCond .ne 28, 3) := by decide +kernel
theorem zd_M_next_7 : decode ze_M_next 7 = .ok (.aload_n 0, 1) := by decide +kernel
theorem zd_M_next_8 : decode ze_M_next 8 = .ok (.getfield 197, 3) := by decide +kernel
theorem zd_M_next_11 : decode ze_M_next 11 = .ok (.iload_n 2, 1) := by decide +kernel
theorem zd_M_next_12 : decode ze_M_next 12 = .ok (.if_icmp .ge 20, 3) := by decide +kernel
theorem zd_M_next_15 : decode ze_M_next 15 = .ok (.aload_n 0, 1) := by decide +kernel
theorem zd_M_next_16 : decode ze_M_next 16 = .ok (.getfield 7, 3) := by decide +kernel
theorem zd_M_next_19 : decode ze_M_next 19 = .ok (.aload_n 0, 1) := by decide +kernel
theorem zd_M_next_20 : decode ze_M_next 20 = .ok (.getfield 197, 3) := by decide +kernel
theorem zd_M_next_23 : decode ze_M_next 23 = .ok (.iaload, 1) := by decide +kernel
theorem zd_M_next_24 : decode ze_M_next 24 = .ok (.iload_n 1, 1) := by decide +kernel
theorem zd_M_next_25 : decode ze_M_next 25 = .ok (.if_icmp .ne 7, 3) := by decide +kernel
theorem zd_M_next_28 : decode ze_M_next 28 = .ok (.iconst 1, 1) := by decide +kernel
theorem zd_M_next_29 : decode ze_M_next 29 = .ok (.goto 4, 3) := by decide +kernel
theorem zd_M_next_32 : decode ze_M_next 32 = .ok (.iconst 0, 1) := by decide +kernel
theorem zd_M_next_33 : decode ze_M_next 33 = .ok (.ireturn, 1) := by decide +kernel
theorem zd_M_readList_0 : decode ze_M_readList 0 = .ok (.aload_n 0, 1) := by decide +kernel
theorem zd_M_readList_1 : decode ze_M_readList 1 = .ok (.iconst 0, 1) := by decide +kernel
theorem zd_M_readList_2 : decode ze_M_readList 2 = .ok (.putfield 236, 3) := by decide +kernel
theorem zd_M_readList_5 : decode ze_M_readList 5 = .ok (.aload_n 0, 1) := by decide +kernel
theorem zd_M_readList_6 : decode ze_M_readList 6 = .ok (.bipush 48, 2) := by decide +kernel
theorem zd_M_readList_8 : decode ze_M_readList 8 = .ok (.aload_n 0, 1) := by decide +kernel
theorem zd_M_readList_9 : decode ze_M_readList 9 = .ok (.getfield 141, 3) := by decide +kernel
theorem zd_M_readList_12 : decode ze_M_readList 12 = .ok (.invokevirtual 203, 3) := by decide +kernel
theorem zd_M_readList_15 : decode ze_M_readList 15 = .ok (.istore_n 1, 1) := by decide +kernel
theorem zd_M_readList_16 : decode ze_M_readList 16 = .ok (.aload_n 0, 1) := by decide +kernel
theorem zd_M_readList_17 : decode ze_M_readList 17 = .ok (.getfield 197, 3) := by decide +kernel
theorem zd_M_readList_20 : decode ze_M_readList 20 = .ok (.istore_n 2, 1) := by decide +kernel
theorem zd_M_readList_21 : decode ze_M_readList 21 = .ok (.aload_n 0, 1) := by decide +kernel
theorem zd_M_readList_22 : decode ze_M_readList 22 = .ok (.bipush 48, 2) := by decide +kernel
theorem zd_M_readList_24 : decode ze_M_readList 24 = .ok (.iload_n 1, 1) := by decide +kernel
theorem zd_M_readList_25 : decode ze_M_readList 25 = .ok (.invokevirtual 203, 3) := by decide +kernel
theorem zd_M_readList_28 : decode ze_M_readList 28 = .ok (.istore_n 3, 1) := by decide +kernel
theorem zd_M_readList_29 : decode ze_M_readList 29 = .ok (.aload_n 0, 1) := by decide +kernel
theorem zd_M_readList_30 : decode ze_M_readList 30 = .ok (.getfield 68, 3) := by decide +kernel
theorem zd_M_readList_33 : decode ze_M_readList 33 = .ok (.iconst 1, 1) := by decide +kernel
theorem zd_M_readList_34 : decode ze_M_readList 34 = .ok (.aload_n 0, 1) := by decide +kernel
theorem zd_M_readList_35 : decode ze_M_readList 35 = .ok (.bipush 19, 2) := by decide +kernel
theorem zd_M_readList_37 : decode ze_M_readList 37 = .ok (.iload_n 3, 1) := by decide +kernel
theorem zd_M_readList_38 : decode ze_M_readList 38 = .ok (.invokevirtual 223, 3) := by decide +kernel
theorem zd_M_readList_41 : decode ze_M_readList 41 = .ok (.lastore, 1) := by decide +kernel
theorem zd_M_readList_42 : decode ze_M_readList 42 = .ok (.aload_n 0, 1) := by decide +kernel
theorem zd_M_readList_43 : decode ze_M_readList 43 = .ok (.getfield 68, 3) := by decide +kernel
theorem zd_M_readList_46 : decode ze_M_readList 46 = .ok (.iconst 2, 1) := by decide +kernel
theorem zd_M_readList_47 : decode ze_M_readList 47 = .ok (.aload_n 0, 1) := by decide +kernel
theorem zd_M_readList_48 : decode ze_M_readList 48 = .ok (.iload_n 3, 1) := by decide +kernel
theorem zd_M_readList_49 : decode ze_M_readList 49 = .ok (.invokevirtual 217, 3) := by decide +kernel
theorem zd_M_readList_52 : decode ze_M_readList 52 = .ok (.lastore, 1) := by decide +kernel
theorem zd_M_readList_53 : decode ze_M_readList 53 = .ok (.aload_n 0, 1) := by decide +kernel
theorem zd_M_readList_54 : decode ze_M_readList 54 = .ok (.getfield 68, 3) := by decide +kernel
theorem zd_M_readList_57 : decode ze_M_readList 57 = .ok (.iconst 3, 1) := by decide +kernel
theorem zd_M_readList_58 : decode ze_M_readList 58 = .ok (.aload_n 0, 1) := by decide +kernel
theorem zd_M_readList_59 : decode ze_M_readList 59 = .ok (.iload_n 3, 1) := by decide +kernel
theorem zd_M_readList_60 : decode ze_M_readList 60 = .ok (.invokevirtual 217, 3) := by decide +kernel
theorem zd_M_readList_63 : decode ze_M_readList 63 = .ok (.lastore, 1) := by decide +kernel
theorem zd_M_readList_64 : decode ze_M_readList 64 = .ok (.aload_n 0, 1) := by decide +kernel
theorem zd_M_readList_65 : decode ze_M_readList 65 = .ok (.bipush 48, 2) := by decide +kernel
theorem zd_M_readList_67 : decode ze_M_readList 67 = .ok (.iload_n 3, 1) := by decide +kernel
theorem zd_M_readList_68 : decode ze_M_readList 68 = .ok (.invokevirtual 203, 3) := by decide +kernel
theorem zd_M_readList_71 : decode ze_M_readList 71 = .ok (.istore 4, 2) := by decide +kernel
theorem zd_M_readList_73 : decode ze_M_readList 73 = .ok (.aload_n 0, 1) := by decide +kernel
theorem zd_M_readList_74 : decode ze_M_readList 74 = .ok (.getfield 236, 3) := by decide +kernel
theorem zd_M_readList_77 : decode ze_M_readList 77 = .ok (.iconst 4, 1) := by decide +kernel
theorem zd_M_readList_78 : decode ze_M_readList 78 = .ok (.if_icmp .ge 73, 3) := by decide +kernel
theorem zd_M_readList_81 : decode ze_M_readList 81 = .ok (.aload_n 0, 1) := by decide +kernel
theorem zd_M_readList_82 : decode ze_M_readList 82 = .ok (.bipush 48, 2) := by decide +kernel
theorem zd_M_readList_84 : decode ze_M_readList 84 = .ok (.iload 4, 2) := by decide +kernel
theorem zd_M_readList_86 : decode ze_M_readList 86 = .ok (.invokevirtual 208, 3) := by decide +kernel
theorem zd_M_readList_89 : decode ze_M_readList 89 = .ok (.ifCond .eq 62, 3) := by decide +kernel
theorem zd_M_readList_92 : decode ze_M_readList 92 = .ok (.aload_n 0, 1) := by decide +kernel
theorem zd_M_readList_93 : decode ze_M_readList 93 = .ok (.bipush 48, 2) := by decide +kernel
theorem zd_M_readList_95 : decode ze_M_readList 95 = .ok (.iload 4, 2) := by decide +kernel
theorem zd_M_readList_97 : decode ze_M_readList 97 = .ok (.invokevirtual 203, 3) := by decide +kernel
theorem zd_M_readList_100 : decode ze_M_readList 100 = .ok (.istore 5, 2) := by decide +kernel
theorem zd_M_readList_102 : decode ze_M_readList 102 = .ok (.aload_n 0, 1) := by decide +kernel
theorem zd_M_readList_103 : decode ze_M_readList 103 = .ok (.getfield 71, 3) := by decide +kernel
theorem zd_M_readList_106 : decode ze_M_readList 106 = .ok (.aload_n 0, 1) := by decide +kernel
theorem zd_M_readList_107 : decode ze_M_readList 107 = .ok (.getfield 236, 3) := by decide +kernel
theorem zd_M_readList_110 : decode ze_M_readList 110 = .ok (.aload_n 0, 1) := by decide +kernel
theorem zd_M_readList_111 : decode ze_M_readList 111 = .ok (.iload 5, 2) := by decide +kernel
theorem zd_M_readList_113 : decode ze_M_readList 113 = .ok (.invokevirtual 217, 3) := by decide +kernel
theorem zd_M_readList_116 : decode ze_M_readList 116 = .ok (.lastore, 1) := by decide +kernel
theorem zd_M_readList_117 : decode ze_M_readList 117 = .ok (.aload_n 0, 1) := by decide +kernel
theorem zd_M_readList_118 : decode ze_M_readList 118 = .ok (.getfield 74, 3) := by decide +kernel
theorem zd_M_readList_121 : decode ze_M_readList 121 = .ok (.aload_n 0, 1) := by decide +kernel
theorem zd_M_readList_122 : decode ze_M_readList 122 = .ok (.getfield 236, 3) := by decide +kernel
theorem zd_M_readList_125 : decode ze_M_readList 125 = .ok (.aload_n 0, 1) := by decide +kernel
theorem zd_M_readList_126 : decode ze_M_readList 126 = .ok (.iload 5, 2) := by decide +kernel
theorem zd_M_readList_128 : decode ze_M_readList 128 = .ok (.invokevirtual 217, 3) := by decide +kernel
theorem zd_M_readList_131 : decode ze_M_readList 131 = .ok (.lastore, 1) := by decide +kernel
theorem zd_M_readList_132 : decode ze_M_readList 132 = .ok (.aload_n 0, 1) := by decide +kernel
theorem zd_M_readList_133 : decode ze_M_readList 133 = .ok (.iload 5, 2) := by decide +kernel
theorem zd_M_readList_135 : decode ze_M_readList 135 = .ok (.invokevirtual 220, 3) := by decide +kernel
theorem zd_M_readList_138 : decode ze_M_readList 138 = .ok (.aload_n 0, 1) := by decide +kernel
theorem zd_M_readList_139 : decode ze_M_readList 139 = .ok (.dup, 1) := by decide +kernel
theorem zd_M_readList_140 : decode ze_M_readList 140 = .ok (.getfield 236, 3) := by decide +kernel
theorem zd_M_readList_143 : decode ze_M_readList 143 = .ok (.iconst 1, 1) := by decide +kernel
theorem zd_M_readList_144 : decode ze_M_readList 144 = .ok (.iadd, 1) := by decide +kernel
theorem zd_M_readList_145 : decode ze_M_readList 145 = .ok (.putfield 236, 3) := by decide +kernel
theorem zd_M_readList_148 : decode ze_M_readList 148 = .ok (.goto (-75), 3) := by decide +kernel
theorem zd_M_readList_151 : decode ze_M_readList 151 = .ok (.aload_n 0, 1) := by decide +kernel
theorem zd_M_readList_152 : decode ze_M_readList 152 = .ok (.iload 4, 2) := by decide +kernel
theorem zd_M_readList_154 : decode ze_M_readList 154 = .ok (.invokevirtual 220, 3) := by decide +kernel
theorem zd_M_readList_157 : decode ze_M_readList 157 = .ok (.aload_n 0, 1) := by decide +kernel
theorem zd_M_readList_158 : decode ze_M_readList 158 = .ok (.iload_n 3, 1) := by decide +kernel
theorem zd_M_readList_159 : decode ze_M_readList 159 = .ok (.invokevirtual 220, 3) := by decide +kernel
theorem zd_M_readList_162 : decode ze_M_readList 162 = .ok (.aload_n 0, 1) := by decide +kernel
theorem zd_M_readList_163 : decode ze_M_readList 163 = .ok (.getfield 194, 3) := by decide +kernel
theorem zd_M_readList_166 : decode ze_M_readList 166 = .ok (.ifCond .ne 17, 3) := by decide +kernel
theorem zd_M_readList_169 : decode ze_M_readList 169 = .ok (.aload_n 0, 1) := by decide +kernel
theorem zd_M_readList_170 : decode ze_M_readList 170 = .ok (.getfield 68, 3) := by decide +kernel
theorem zd_M_readList_173 : decode ze_M_readList 173 = .ok (.bipush 8, 2) := by decide +kernel
theorem zd_M_readList_175 : decode ze_M_readList 175 = .ok (.aload_n 0, 1) := by decide +kernel
theorem zd_M_readList_176 : decode ze_M_readList 176 = .ok (.iload_n 2, 1) := by decide +kernel
theorem zd_M_readList_177 : decode ze_M_readList 177 = .ok (.iload_n 3, 1) := by decide +kernel
theorem zd_M_readList_178 : decode ze_M_readList 178 = .ok (.invokevirtual 164, 3) := by decide +kernel
theorem zd_M_readList_181 : decode ze_M_readList 181 = .ok (.i2l, 1) := by decide +kernel
theorem zd_M_readList_182 : decode ze_M_readList 182 = .ok (.lastore, 1) := by decide +kernel
theorem zd_M_readList_183 : decode ze_M_readList 183 = .ok (.aload_n 0, 1) := by decide +kernel
theorem zd_M_readList_184 : decode ze_M_readList 184 = .ok (.getfield 68, 3) := by decide +kernel
theorem zd_M_readList_187 : decode ze_M_readList 187 = .ok (.bipush 7, 2) := by decide +kernel
theorem zd_M_readList_189 : decode ze_M_readList 189 = .ok (.aload_n 0, 1) := by decide +kernel
theorem zd_M_readList_190 : decode ze_M_readList 190 = .ok (.iload_n 1, 1) := by decide +kernel
theorem zd_M_readList_191 : decode ze_M_readList 191 = .ok (.invokevirtual 217, 3) := by decide +kernel
theorem zd_M_readList_194 : decode ze_M_readList 194 = .ok (.lastore, 1) := by decide +kernel
theorem zd_M_readList_195 : decode ze_M_readList 195 = .ok (.aload_n 0, 1) := by decide +kernel
theorem zd_M_readList_196 : decode ze_M_readList 196 = .ok (.iload_n 1, 1) := by decide +kernel
theorem zd_M_readList_197 : decode ze_M_readList 197 = .ok (.invokevirtual 220, 3) := by decide +kernel
theorem zd_M_readList_200 : decode ze_M_readList 200 = .ok (.aload_n 0, 1) := by decide +kernel
theorem zd_M_readList_201 : decode ze_M_readList 201 = .ok (.aload_n 0, 1) := by decide +kernel
theorem zd_M_readList_202 : decode ze_M_readList 202 = .ok (.getfield 141, 3) := by decide +kernel
theorem zd_M_readList_205 : decode ze_M_readList 205 = .ok (.invokevirtual 220, 3) := by decide +kernel
theorem zd_M_readList_208 : decode ze_M_readList 208 = .ok (.return_, 1) := by decide +kernel
theorem zd_M_realm_0 : decode ze_M_realm 0 = .ok (.aload_n 0, 1) := by decide +kernel
theorem zd_M_realm_1 : decode ze_M_realm 1 = .ok (.getfield 197, 3) := by decide +kernel
theorem zd_M_realm_4 : decode ze_M_realm 4 = .ok (.istore_n 2, 1) := by decide +kernel
theorem zd_M_realm_5 : decode ze_M_realm 5 = .ok (.aload_n 0, 1) := by decide +kernel
theorem zd_M_realm_6 : decode ze_M_realm 6 = .ok (.bipush 48, 2) := by decide +kernel
theorem zd_M_realm_8 : decode ze_M_realm 8 = .ok (.iload_n 1, 1) := by decide +kernel
theorem zd_M_realm_9 : decode ze_M_realm 9 = .ok (.invokevirtual 203, 3) := by decide +kernel
theorem zd_M_realm_12 : decode ze_M_realm 12 = .ok (.istore_n 3, 1) := by decide +kernel
theorem zd_M_realm_13 : decode ze_M_realm 13 = .ok (.aload_n 0, 1) := by decide +kernel
theorem zd_M_realm_14 : decode ze_M_realm 14 = .ok (.getfield 194, 3) := by decide +kernel
theorem zd_M_realm_17 : decode ze_M_realm 17 = .ok (.ifCond .ne 17, 3) := by decide +kernel
theorem zd_M_realm_20 : decode ze_M_realm 20 = .ok (.iload_n 3, 1) := by decide +kernel
theorem zd_M_realm_21 : decode ze_M_realm 21 = .ok (.aload_n 0, 1) := by decide +kernel
theorem zd_M_realm_22 : decode ze_M_realm 22 = .ok (.getfield 197, 3) := by decide +kernel
theorem zd_M_realm_25 : decode ze_M_realm 25 = .ok (.if_icmp .ne 9, 3) := by decide +kernel
theorem zd_M_realm_28 : decode ze_M_realm 28 = .ok (.aload_n 0, 1) := by decide +kernel
theorem zd_M_realm_29 : decode ze_M_realm 29 = .ok (.iconst 4, 1) := by decide +kernel
theorem zd_M_realm_30 : decode ze_M_realm 30 = .ok (.iload_n 2, 1) := by decide +kernel
theorem zd_M_realm_31 : decode ze_M_realm 31 = .ok (.invokevirtual 200, 3) := by decide +kernel
theorem zd_M_realm_34 : decode ze_M_realm 34 = .ok (.aload_n 0, 1) := by decide +kernel
theorem zd_M_realm_35 : decode ze_M_realm 35 = .ok (.sipush 128, 3) := by decide +kernel
theorem zd_M_realm_38 : decode ze_M_realm 38 = .ok (.iload_n 3, 1) := by decide +kernel
theorem zd_M_realm_39 : decode ze_M_realm 39 = .ok (.invokevirtual 208, 3) := by decide +kernel
theorem zd_M_realm_42 : decode ze_M_realm 42 = .ok (.ifCond .eq 18, 3) := by decide +kernel
theorem zd_M_realm_45 : decode ze_M_realm 45 = .ok (.aload_n 0, 1) := by decide +kernel
theorem zd_M_realm_46 : decode ze_M_realm 46 = .ok (.getfield 68, 3) := by decide +kernel
theorem zd_M_realm_49 : decode ze_M_realm 49 = .ok (.bipush 11, 2) := by decide +kernel
theorem zd_M_realm_51 : decode ze_M_realm 51 = .ok (.aload_n 0, 1) := by decide +kernel
theorem zd_M_realm_52 : decode ze_M_realm 52 = .ok (.sipush 128, 3) := by decide +kernel
theorem zd_M_realm_55 : decode ze_M_realm 55 = .ok (.iload_n 3, 1) := by decide +kernel
theorem zd_M_realm_56 : decode ze_M_realm 56 = .ok (.invokevirtual 223, 3) := by decide +kernel
theorem zd_M_realm_59 : decode ze_M_realm 59 = .ok (.lastore, 1) := by decide +kernel
theorem zd_M_realm_60 : decode ze_M_realm 60 = .ok (.aload_n 0, 1) := by decide +kernel
theorem zd_M_realm_61 : decode ze_M_realm 61 = .ok (.sipush 129, 3) := by decide +kernel
theorem zd_M_realm_64 : decode ze_M_realm 64 = .ok (.iload_n 3, 1) := by decide +kernel
theorem zd_M_realm_65 : decode ze_M_realm 65 = .ok (.invokevirtual 208, 3) := by decide +kernel
theorem zd_M_realm_68 : decode ze_M_realm 68 = .ok (.ifCond .eq 18, 3) := by decide +kernel
theorem zd_M_realm_71 : decode ze_M_realm 71 = .ok (.aload_n 0, 1) := by decide +kernel
theorem zd_M_realm_72 : decode ze_M_realm 72 = .ok (.getfield 68, 3) := by decide +kernel
theorem zd_M_realm_75 : decode ze_M_realm 75 = .ok (.bipush 12, 2) := by decide +kernel
theorem zd_M_realm_77 : decode ze_M_realm 77 = .ok (.aload_n 0, 1) := by decide +kernel
theorem zd_M_realm_78 : decode ze_M_realm 78 = .ok (.sipush 129, 3) := by decide +kernel
theorem zd_M_realm_81 : decode ze_M_realm 81 = .ok (.iload_n 3, 1) := by decide +kernel
theorem zd_M_realm_82 : decode ze_M_realm 82 = .ok (.invokevirtual 223, 3) := by decide +kernel
theorem zd_M_realm_85 : decode ze_M_realm 85 = .ok (.lastore, 1) := by decide +kernel
theorem zd_M_realm_86 : decode ze_M_realm 86 = .ok (.aload_n 0, 1) := by decide +kernel
theorem zd_M_realm_87 : decode ze_M_realm 87 = .ok (.iload_n 3, 1) := by decide +kernel
theorem zd_M_realm_88 : decode ze_M_realm 88 = .ok (.invokevirtual 220, 3) := by decide +kernel
theorem zd_M_realm_91 : decode ze_M_realm 91 = .ok (.return_, 1) := by decide +kernel
theorem zd_M_truth_0 : decode ze_M_truth 0 = .ok (.aload_n 0, 1) := by decide +kernel
theorem zd_M_truth_1 : decode ze_M_truth 1 = .ok (.getfield 197, 3) := by decide +kernel
theorem zd_M_truth_4 : decode ze_M_truth 4 = .ok (.istore_n 2, 1) := by decide +kernel
theorem zd_M_truth_5 : decode ze_M_truth 5 = .ok (.aload_n 0, 1) := by decide +kernel
theorem zd_M_truth_6 : decode ze_M_truth 6 = .ok (.iconst 1, 1) := by decide +kernel
theorem zd_M_truth_7 : decode ze_M_truth 7 = .ok (.iload_n 1, 1) := by decide +kernel
theorem zd_M_truth_8 : decode ze_M_truth 8 = .ok (.invokevirtual 203, 3) := by decide +kernel
theorem zd_M_truth_11 : decode ze_M_truth 11 = .ok (.istore_n 3, 1) := by decide +kernel
theorem zd_M_truth_12 : decode ze_M_truth 12 = .ok (.aload_n 0, 1) := by decide +kernel
theorem zd_M_truth_13 : decode ze_M_truth 13 = .ok (.getfield 194, 3) := by decide +kernel
theorem zd_M_truth_16 : decode ze_M_truth 16 = .ok (.ifCond .ne 34, 3) := by decide +kernel
theorem zd_M_truth_19 : decode ze_M_truth 19 = .ok (.iload_n 3, 1) := by decide +kernel
theorem zd_M_truth_20 : decode ze_M_truth 20 = .ok (.aload_n 0, 1) := by decide +kernel
theorem zd_M_truth_21 : decode ze_M_truth 21 = .ok (.getfield 197, 3) := by decide +kernel
theorem zd_M_truth_24 : decode ze_M_truth 24 = .ok (.isub, 1) := by decide +kernel
theorem zd_M_truth_25 : decode ze_M_truth 25 = .ok (.iconst 1, 1) := by decide +kernel
theorem zd_M_truth_26 : decode ze_M_truth 26 = .ok (.if_icmp .ne 18, 3) := by decide +kernel
theorem zd_M_truth_29 : decode ze_M_truth 29 = .ok (.aload_n 0, 1) := by decide +kernel
theorem zd_M_truth_30 : decode ze_M_truth 30 = .ok (.getfield 7, 3) := by decide +kernel
theorem zd_M_truth_33 : decode ze_M_truth 33 = .ok (.aload_n 0, 1) := by decide +kernel
theorem zd_M_truth_34 : decode ze_M_truth 34 = .ok (.getfield 197, 3) := by decide +kernel
theorem zd_M_truth_37 : decode ze_M_truth 37 = .ok (.iaload, 1) := by decide +kernel
theorem zd_M_truth_38 : decode ze_M_truth 38 = .ok (.sipush 255, 3) := by decide +kernel
theorem zd_M_truth_41 : decode ze_M_truth 41 = .ok (.if_icmp .eq 9, 3) := by decide +kernel
theorem zd_M_truth_44 : decode ze_M_truth 44 = .ok (.aload_n 0, 1) := by decide +kernel
theorem zd_M_truth_45 : decode ze_M_truth 45 = .ok (.iconst 4, 1) := by decide +kernel
theorem zd_M_truth_46 : decode ze_M_truth 46 = .ok (.iload_n 2, 1) := by decide +kernel
theorem zd_M_truth_47 : decode ze_M_truth 47 = .ok (.invokevirtual 200, 3) := by decide +kernel
theorem zd_M_truth_50 : decode ze_M_truth 50 = .ok (.aload_n 0, 1) := by decide +kernel
theorem zd_M_truth_51 : decode ze_M_truth 51 = .ok (.aload_n 0, 1) := by decide +kernel
theorem zd_M_truth_52 : decode ze_M_truth 52 = .ok (.getfield 194, 3) := by decide +kernel
theorem zd_M_truth_55 : decode ze_M_truth 55 = .ok (.ifCond .ne 7, 3) := by decide +kernel
theorem zd_M_truth_58 : decode ze_M_truth 58 = .ok (.iload_n 3, 1) := by decide +kernel
theorem zd_M_truth_59 : decode ze_M_truth 59 = .ok (.goto 7, 3) := by decide +kernel
theorem zd_M_truth_62 : decode ze_M_truth 62 = .ok (.aload_n 0, 1) := by decide +kernel
theorem zd_M_truth_63 : decode ze_M_truth 63 = .ok (.getfield 197, 3) := by decide +kernel
theorem zd_M_truth_66 : decode ze_M_truth 66 = .ok (.putfield 197, 3) := by decide +kernel
theorem zd_M_truth_69 : decode ze_M_truth 69 = .ok (.return_, 1) := by decide +kernel
theorem zd_M_basic_0 : decode ze_M_basic 0 = .ok (.aload_n 0, 1) := by decide +kernel
theorem zd_M_basic_1 : decode ze_M_basic 1 = .ok (.bipush 48, 2) := by decide +kernel
theorem zd_M_basic_3 : decode ze_M_basic 3 = .ok (.iload_n 1, 1) := by decide +kernel
theorem zd_M_basic_4 : decode ze_M_basic 4 = .ok (.invokevirtual 203, 3) := by decide +kernel
theorem zd_M_basic_7 : decode ze_M_basic 7 = .ok (.istore_n 2, 1) := by decide +kernel
theorem zd_M_basic_8 : decode ze_M_basic 8 = .ok (.aload_n 0, 1) := by decide +kernel
theorem zd_M_basic_9 : decode ze_M_basic 9 = .ok (.getfield 194, 3) := by decide +kernel
theorem zd_M_basic_12 : decode ze_M_basic 12 = .ok (.ifCond .eq 4, 3) := by decide +kernel
theorem zd_M_basic_15 : decode ze_M_basic 15 = .ok (.return_, 1) := by decide +kernel
theorem zd_M_basic_16 : decode ze_M_basic 16 = .ok (.aload_n 0, 1) := by decide +kernel
theorem zd_M_basic_17 : decode ze_M_basic 17 = .ok (.getfield 68, 3) := by decide +kernel
theorem zd_M_basic_20 : decode ze_M_basic 20 = .ok (.bipush 14, 2) := by decide +kernel
theorem zd_M_basic_22 : decode ze_M_basic 22 = .ok (.aload_n 0, 1) := by decide +kernel
