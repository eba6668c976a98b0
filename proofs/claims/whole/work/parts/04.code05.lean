theorem zd_M_signed_13 : decode ze_M_signed 13 = .ok (.invokevirtual 164, 3) := by decide +kernel
theorem zd_M_signed_16 : decode ze_M_signed 16 = .ok (.istore_n 1, 1) := by decide +kernel
theorem zd_M_signed_17 : decode ze_M_signed 17 = .ok (.aload_n 0, 1) := by decide +kernel
theorem zd_M_signed_18 : decode ze_M_signed 18 = .ok (.getfield 13, 3) := by decide +kernel
theorem zd_M_signed_21 : decode ze_M_signed 21 = .ok (.bipush 12, 2) := by decide +kernel
theorem zd_M_signed_23 : decode ze_M_signed 23 = .ok (.laload, 1) := by decide +kernel
theorem zd_M_signed_24 : decode ze_M_signed 24 = .ok (.l2i, 1) := by decide +kernel
theorem zd_M_signed_25 : decode ze_M_signed 25 = .ok (.istore_n 2, 1) := by decide +kernel
theorem zd_M_signed_26 : decode ze_M_signed 26 = .ok (.aload_n 0, 1) := by decide +kernel
theorem zd_M_signed_27 : decode ze_M_signed 27 = .ok (.iload_n 2, 1) := by decide +kernel
theorem zd_M_signed_28 : decode ze_M_signed 28 = .ok (.iload_n 1, 1) := by decide +kernel
theorem zd_M_signed_29 : decode ze_M_signed 29 = .ok (.invokevirtual 168, 3) := by decide +kernel
theorem zd_M_signed_32 : decode ze_M_signed 32 = .ok (.lstore_n 3, 1) := by decide +kernel
theorem zd_M_signed_33 : decode ze_M_signed 33 = .ok (.aload_n 0, 1) := by decide +kernel
theorem zd_M_signed_34 : decode ze_M_signed 34 = .ok (.lload_n 3, 1) := by decide +kernel
theorem zd_M_signed_35 : decode ze_M_signed 35 = .ok (.invokevirtual 172, 3) := by decide +kernel
theorem zd_M_signed_38 : decode ze_M_signed 38 = .ok (.aload_n 0, 1) := by decide +kernel
theorem zd_M_signed_39 : decode ze_M_signed 39 = .ok (.iconst 0, 1) := by decide +kernel
theorem zd_M_signed_40 : decode ze_M_signed 40 = .ok (.bipush 48, 2) := by decide +kernel
theorem zd_M_signed_42 : decode ze_M_signed 42 = .ok (.invokevirtual 160, 3) := by decide +kernel
theorem zd_M_signed_45 : decode ze_M_signed 45 = .ok (.aload_n 0, 1) := by decide +kernel
theorem zd_M_signed_46 : decode ze_M_signed 46 = .ok (.getfield 141, 3) := by decide +kernel
theorem zd_M_signed_49 : decode ze_M_signed 49 = .ok (.ireturn, 1) := by decide +kernel
theorem zd_M_composeList_0 : decode ze_M_composeList 0 = .ok (.aload_n 0, 1) := by decide +kernel
theorem zd_M_composeList_1 : decode ze_M_composeList 1 = .ok (.iconst 0, 1) := by decide +kernel
theorem zd_M_composeList_2 : decode ze_M_composeList 2 = .ok (.putfield 141, 3) := by decide +kernel
theorem zd_M_composeList_5 : decode ze_M_composeList 5 = .ok (.aload_n 0, 1) := by decide +kernel
theorem zd_M_composeList_6 : decode ze_M_composeList 6 = .ok (.bipush 19, 2) := by decide +kernel
theorem zd_M_composeList_8 : decode ze_M_composeList 8 = .ok (.aload_n 0, 1) := by decide +kernel
theorem zd_M_composeList_9 : decode ze_M_composeList 9 = .ok (.getfield 13, 3) := by decide +kernel
theorem zd_M_composeList_12 : decode ze_M_composeList 12 = .ok (.iconst 1, 1) := by decide +kernel
theorem zd_M_composeList_13 : decode ze_M_composeList 13 = .ok (.laload, 1) := by decide +kernel
theorem zd_M_composeList_14 : decode ze_M_composeList 14 = .ok (.invokevirtual 183, 3) := by decide +kernel
theorem zd_M_composeList_17 : decode ze_M_composeList 17 = .ok (.aload_n 0, 1) := by decide +kernel
theorem zd_M_composeList_18 : decode ze_M_composeList 18 = .ok (.aload_n 0, 1) := by decide +kernel
theorem zd_M_composeList_19 : decode ze_M_composeList 19 = .ok (.getfield 13, 3) := by decide +kernel
theorem zd_M_composeList_22 : decode ze_M_composeList 22 = .ok (.iconst 2, 1) := by decide +kernel
theorem zd_M_composeList_23 : decode ze_M_composeList 23 = .ok (.laload, 1) := by decide +kernel
theorem zd_M_composeList_24 : decode ze_M_composeList 24 = .ok (.invokevirtual 172, 3) := by decide +kernel
theorem zd_M_composeList_27 : decode ze_M_composeList 27 = .ok (.aload_n 0, 1) := by decide +kernel
theorem zd_M_composeList_28 : decode ze_M_composeList 28 = .ok (.aload_n 0, 1) := by decide +kernel
theorem zd_M_composeList_29 : decode ze_M_composeList 29 = .ok (.getfield 13, 3) := by decide +kernel
theorem zd_M_composeList_32 : decode ze_M_composeList 32 = .ok (.iconst 3, 1) := by decide +kernel
theorem zd_M_composeList_33 : decode ze_M_composeList 33 = .ok (.laload, 1) := by decide +kernel
theorem zd_M_composeList_34 : decode ze_M_composeList 34 = .ok (.invokevirtual 172, 3) := by decide +kernel
theorem zd_M_composeList_37 : decode ze_M_composeList 37 = .ok (.aload_n 0, 1) := by decide +kernel
theorem zd_M_composeList_38 : decode ze_M_composeList 38 = .ok (.getfield 141, 3) := by decide +kernel
theorem zd_M_composeList_41 : decode ze_M_composeList 41 = .ok (.istore_n 1, 1) := by decide +kernel
theorem zd_M_composeList_42 : decode ze_M_composeList 42 = .ok (.iconst 0, 1) := by decide +kernel
theorem zd_M_composeList_43 : decode ze_M_composeList 43 = .ok (.istore_n 2, 1) := by decide +kernel
theorem zd_M_composeList_44 : decode ze_M_composeList 44 = .ok (.iload_n 2, 1) := by decide +kernel
theorem zd_M_composeList_45 : decode ze_M_composeList 45 = .ok (.aload_n 0, 1) := by decide +kernel
theorem zd_M_composeList_46 : decode ze_M_composeList 46 = .ok (.getfield 153, 3) := by decide +kernel
theorem zd_M_composeList_49 : decode ze_M_composeList 49 = .ok (.if_icmp .ge 41, 3) := by decide +kernel
theorem zd_M_composeList_52 : decode ze_M_composeList 52 = .ok (.aload_n 0, 1) := by decide +kernel
theorem zd_M_composeList_53 : decode ze_M_composeList 53 = .ok (.getfield 141, 3) := by decide +kernel
theorem zd_M_composeList_56 : decode ze_M_composeList 56 = .ok (.istore_n 3, 1) := by decide +kernel
theorem zd_M_composeList_57 : decode ze_M_composeList 57 = .ok (.aload_n 0, 1) := by decide +kernel
theorem zd_M_composeList_58 : decode ze_M_composeList 58 = .ok (.aload_n 0, 1) := by decide +kernel
theorem zd_M_composeList_59 : decode ze_M_composeList 59 = .ok (.getfield 17, 3) := by decide +kernel
theorem zd_M_composeList_62 : decode ze_M_composeList 62 = .ok (.iload_n 2, 1) := by decide +kernel
theorem zd_M_composeList_63 : decode ze_M_composeList 63 = .ok (.laload, 1) := by decide +kernel
theorem zd_M_composeList_64 : decode ze_M_composeList 64 = .ok (.invokevirtual 172, 3) := by decide +kernel
theorem zd_M_composeList_67 : decode ze_M_composeList 67 = .ok (.aload_n 0, 1) := by decide +kernel
theorem zd_M_composeList_68 : decode ze_M_composeList 68 = .ok (.aload_n 0, 1) := by decide +kernel
theorem zd_M_composeList_69 : decode ze_M_composeList 69 = .ok (.getfield 20, 3) := by decide +kernel
theorem zd_M_composeList_72 : decode ze_M_composeList 72 = .ok (.iload_n 2, 1) := by decide +kernel
theorem zd_M_composeList_73 : decode ze_M_composeList 73 = .ok (.laload, 1) := by decide +kernel
theorem zd_M_composeList_74 : decode ze_M_composeList 74 = .ok (.invokevirtual 172, 3) := by decide +kernel
theorem zd_M_composeList_77 : decode ze_M_composeList 77 = .ok (.aload_n 0, 1) := by decide +kernel
theorem zd_M_composeList_78 : decode ze_M_composeList 78 = .ok (.iload_n 3, 1) := by decide +kernel
theorem zd_M_composeList_79 : decode ze_M_composeList 79 = .ok (.bipush 48, 2) := by decide +kernel
theorem zd_M_composeList_81 : decode ze_M_composeList 81 = .ok (.invokevirtual 160, 3) := by decide +kernel
theorem zd_M_composeList_84 : decode ze_M_composeList 84 = .ok (.iinc 2 1, 3) := by decide +kernel
theorem zd_M_composeList_87 : decode ze_M_composeList 87 = .ok (.goto (-43), 3) := by decide +kernel
theorem zd_M_composeList_90 : decode ze_M_composeList 90 = .ok (.aload_n 0, 1) := by decide +kernel
theorem zd_M_composeList_91 : decode ze_M_composeList 91 = .ok (.iload_n 1, 1) := by decide +kernel
theorem zd_M_composeList_92 : decode ze_M_composeList 92 = .ok (.bipush 48, 2) := by decide +kernel
theorem zd_M_composeList_94 : decode ze_M_composeList 94 = .ok (.invokevirtual 160, 3) := by decide +kernel
theorem zd_M_composeList_97 : decode ze_M_composeList 97 = .ok (.aload_n 0, 1) := by decide +kernel
theorem zd_M_composeList_98 : decode ze_M_composeList 98 = .ok (.invokevirtual 190, 3) := by decide +kernel
theorem zd_M_composeList_101 : decode ze_M_composeList 101 = .ok (.ireturn, 1) := by decide +kernel
theorem zd_Draft_appendTrue_0 : decode ze_Draft_appendTrue 0 = .ok (.aload_n 0, 1) := by decide +kernel
theorem zd_Draft_appendTrue_1 : decode ze_Draft_appendTrue 1 = .ok (.iconst 1, 1) := by decide +kernel
theorem zd_Draft_appendTrue_2 : decode ze_Draft_appendTrue 2 = .ok (.invokevirtual 26, 3) := by decide +kernel
theorem zd_Draft_appendTrue_5 : decode ze_Draft_appendTrue 5 = .ok (.pop, 1) := by decide +kernel
theorem zd_Draft_appendTrue_6 : decode ze_Draft_appendTrue 6 = .ok (.aload_n 0, 1) := by decide +kernel
theorem zd_Draft_appendTrue_7 : decode ze_Draft_appendTrue 7 = .ok (.iconst 1, 1) := by decide +kernel
theorem zd_Draft_appendTrue_8 : decode ze_Draft_appendTrue 8 = .ok (.invokevirtual 26, 3) := by decide +kernel
theorem zd_Draft_appendTrue_11 : decode ze_Draft_appendTrue 11 = .ok (.pop, 1) := by decide +kernel
theorem zd_Draft_appendTrue_12 : decode ze_Draft_appendTrue 12 = .ok (.aload_n 0, 1) := by decide +kernel
theorem zd_Draft_appendTrue_13 : decode ze_Draft_appendTrue 13 = .ok (.sipush 255, 3) := by decide +kernel
theorem zd_Draft_appendTrue_16 : decode ze_Draft_appendTrue 16 = .ok (.invokevirtual 26, 3) := by decide +kernel
theorem zd_Draft_appendTrue_19 : decode ze_Draft_appendTrue 19 = .ok (.pop, 1) := by decide +kernel
theorem zd_Draft_appendTrue_20 : decode ze_Draft_appendTrue 20 = .ok (.return_, 1) := by decide +kernel
theorem zd_Tool_writeRealm_0 : decode ze_Tool_writeRealm 0 = .ok (.aload_n 1, 1) := by decide +kernel
theorem zd_Tool_writeRealm_1 : decode ze_Tool_writeRealm 1 = .ok (.getfield 77, 3) := by decide +kernel
theorem zd_Tool_writeRealm_4 : decode ze_Tool_writeRealm 4 = .ok (.istore_n 2, 1) := by decide +kernel
theorem zd_Tool_writeRealm_5 : decode ze_Tool_writeRealm 5 = .ok (.aload_n 1, 1) := by decide +kernel
theorem zd_Tool_writeRealm_6 : decode ze_Tool_writeRealm 6 = .ok (.ldc2_w 107, 3) := by decide +kernel
theorem zd_Tool_writeRealm_9 : decode ze_Tool_writeRealm 9 = .ok (.invokevirtual 55, 3) := by decide +kernel
theorem zd_Tool_writeRealm_12 : decode ze_Tool_writeRealm 12 = .ok (.aload_n 1, 1) := by decide +kernel
theorem zd_Tool_writeRealm_13 : decode ze_Tool_writeRealm 13 = .ok (.invokevirtual 104, 3) := by decide +kernel
theorem zd_Tool_writeRealm_16 : decode ze_Tool_writeRealm 16 = .ok (.aload_n 1, 1) := by decide +kernel
theorem zd_Tool_writeRealm_17 : decode ze_Tool_writeRealm 17 = .ok (.getfield 77, 3) := by decide +kernel
theorem zd_Tool_writeRealm_20 : decode ze_Tool_writeRealm 20 = .ok (.istore_n 3, 1) := by decide +kernel
theorem zd_Tool_writeRealm_21 : decode ze_Tool_writeRealm 21 = .ok (.aload_n 0, 1) := by decide +kernel
theorem zd_Tool_writeRealm_22 : decode ze_Tool_writeRealm 22 = .ok (.getfield 13, 3) := by decide +kernel
theorem zd_Tool_writeRealm_25 : decode ze_Tool_writeRealm 25 = .ok (.bipush 9, 2) := by decide +kernel
theorem zd_Tool_writeRealm_27 : decode ze_Tool_writeRealm 27 = .ok (.laload, 1) := by decide +kernel
theorem zd_Tool_writeRealm_28 : decode ze_Tool_writeRealm 28 = .ok (.lconst 0, 1) := by decide +kernel
theorem zd_Tool_writeRealm_29 : decode ze_Tool_writeRealm 29 = .ok (.lcmp, 1) := by decide +kernel
theorem zd_Tool_writeRealm_30 : decode ze_Tool_writeRealm 30 = .ok (.ifCond .eq 17, 3) := by decide +kernel
theorem zd_Tool_writeRealm_33 : decode ze_Tool_writeRealm 33 = .ok (.aload_n 1, 1) := by decide +kernel
theorem zd_Tool_writeRealm_34 : decode ze_Tool_writeRealm 34 = .ok (.sipush 128, 3) := by decide +kernel
theorem zd_Tool_writeRealm_37 : decode ze_Tool_writeRealm 37 = .ok (.aload_n 0, 1) := by decide +kernel
theorem zd_Tool_writeRealm_38 : decode ze_Tool_writeRealm 38 = .ok (.getfield 13, 3) := by decide +kernel
theorem zd_Tool_writeRealm_41 : decode ze_Tool_writeRealm 41 = .ok (.bipush 9, 2) := by decide +kernel
theorem zd_Tool_writeRealm_43 : decode ze_Tool_writeRealm 43 = .ok (.laload, 1) := by decide +kernel
theorem zd_Tool_writeRealm_44 : decode ze_Tool_writeRealm 44 = .ok (.invokevirtual 59, 3) := by decide +kernel
theorem zd_Tool_writeRealm_47 : decode ze_Tool_writeRealm 47 = .ok (.aload_n 0, 1) := by decide +kernel
theorem zd_Tool_writeRealm_48 : decode ze_Tool_writeRealm 48 = .ok (.getfield 13, 3) := by decide +kernel
theorem zd_Tool_writeRealm_51 : decode ze_Tool_writeRealm 51 = .ok (.bipush 10, 2) := by decide +kernel
theorem zd_Tool_writeRealm_53 : decode ze_Tool_writeRealm 53 = .ok (.laload, 1) := by decide +kernel
theorem zd_Tool_writeRealm_54 : decode ze_Tool_writeRealm 54 = .ok (.lconst 0, 1) := by decide +kernel
theorem zd_Tool_writeRealm_55 : decode ze_Tool_writeRealm 55 = .ok (.lcmp, 1) := by decide +kernel
theorem zd_Tool_writeRealm_56 : decode ze_Tool_writeRealm 56 = .ok (.ifCond .eq 17, 3) := by decide +kernel
theorem zd_Tool_writeRealm_59 : decode ze_Tool_writeRealm 59 = .ok (.aload_n 1, 1) := by decide +kernel
theorem zd_Tool_writeRealm_60 : decode ze_Tool_writeRealm 60 = .ok (.sipush 129, 3) := by decide +kernel
theorem zd_Tool_writeRealm_63 : decode ze_Tool_writeRealm 63 = .ok (.aload_n 0, 1) := by decide +kernel
theorem zd_Tool_writeRealm_64 : decode ze_Tool_writeRealm 64 = .ok (.getfield 13, 3) := by decide +kernel
theorem zd_Tool_writeRealm_67 : decode ze_Tool_writeRealm 67 = .ok (.bipush 10, 2) := by decide +kernel
theorem zd_Tool_writeRealm_69 : decode ze_Tool_writeRealm 69 = .ok (.laload, 1) := by decide +kernel
theorem zd_Tool_writeRealm_70 : decode ze_Tool_writeRealm 70 = .ok (.invokevirtual 59, 3) := by decide +kernel
theorem zd_Tool_writeRealm_73 : decode ze_Tool_writeRealm 73 = .ok (.aload_n 1, 1) := by decide +kernel
theorem zd_Tool_writeRealm_74 : decode ze_Tool_writeRealm 74 = .ok (.iload_n 3, 1) := by decide +kernel
theorem zd_Tool_writeRealm_75 : decode ze_Tool_writeRealm 75 = .ok (.bipush 48, 2) := by decide +kernel
theorem zd_Tool_writeRealm_77 : decode ze_Tool_writeRealm 77 = .ok (.invokevirtual 80, 3) := by decide +kernel
theorem zd_Tool_writeRealm_80 : decode ze_Tool_writeRealm 80 = .ok (.aload_n 1, 1) := by decide +kernel
theorem zd_Tool_writeRealm_81 : decode ze_Tool_writeRealm 81 = .ok (.iload_n 2, 1) := by decide +kernel
theorem zd_Tool_writeRealm_82 : decode ze_Tool_writeRealm 82 = .ok (.bipush 48, 2) := by decide +kernel
theorem zd_Tool_writeRealm_84 : decode ze_Tool_writeRealm 84 = .ok (.invokevirtual 80, 3) := by decide +kernel
theorem zd_Tool_writeRealm_87 : decode ze_Tool_writeRealm 87 = .ok (.return_, 1) := by decide +kernel
theorem zd_Tool_writeOwnExtension_0 : decode ze_Tool_writeOwnExtension 0 = .ok (.aload_n 1, 1) := by decide +kernel
theorem zd_Tool_writeOwnExtension_1 : decode ze_Tool_writeOwnExtension 1 = .ok (.getfield 77, 3) := by decide +kernel
theorem zd_Tool_writeOwnExtension_4 : decode ze_Tool_writeOwnExtension 4 = .ok (.istore_n 2, 1) := by decide +kernel
theorem zd_Tool_writeOwnExtension_5 : decode ze_Tool_writeOwnExtension 5 = .ok (.aload_n 1, 1) := by decide +kernel
theorem zd_Tool_writeOwnExtension_6 : decode ze_Tool_writeOwnExtension 6 = .ok (.ldc2_w 44, 3) := by decide +kernel
theorem zd_Tool_writeOwnExtension_9 : decode ze_Tool_writeOwnExtension 9 = .ok (.invokevirtual 55, 3) := by decide +kernel
theorem zd_Tool_writeOwnExtension_12 : decode ze_Tool_writeOwnExtension 12 = .ok (.aload_n 0, 1) := by decide +kernel
theorem zd_Tool_writeOwnExtension_13 : decode ze_Tool_writeOwnExtension 13 = .ok (.getfield 13, 3) := by decide +kernel
theorem zd_Tool_writeOwnExtension_16 : decode ze_Tool_writeOwnExtension 16 = .ok (.bipush 11, 2) := by decide +kernel
theorem zd_Tool_writeOwnExtension_18 : decode ze_Tool_writeOwnExtension 18 = .ok (.laload, 1) := by decide +kernel
theorem zd_Tool_writeOwnExtension_19 : decode ze_Tool_writeOwnExtension 19 = .ok (.ldc2_w 48, 3) := by decide +kernel
theorem zd_Tool_writeOwnExtension_22 : decode ze_Tool_writeOwnExtension 22 = .ok (.lcmp, 1) := by decide +kernel
theorem zd_Tool_writeOwnExtension_23 : decode ze_Tool_writeOwnExtension 23 = .ok (.ifCond .ne 7, 3) := by decide +kernel
theorem zd_Tool_writeOwnExtension_26 : decode ze_Tool_writeOwnExtension 26 = .ok (.aload_n 1, 1) := by decide +kernel
theorem zd_Tool_writeOwnExtension_27 : decode ze_Tool_writeOwnExtension 27 = .ok (.invokevirtual 104, 3) := by decide +kernel
theorem zd_Tool_writeOwnExtension_30 : decode ze_Tool_writeOwnExtension 30 = .ok (.aload_n 1, 1) := by decide +kernel
theorem zd_Tool_writeOwnExtension_31 : decode ze_Tool_writeOwnExtension 31 = .ok (.aload_n 1, 1) := by decide +kernel
theorem zd_Tool_writeOwnExtension_32 : decode ze_Tool_writeOwnExtension 32 = .ok (.getfield 77, 3) := by decide +kernel
theorem zd_Tool_writeOwnExtension_35 : decode ze_Tool_writeOwnExtension 35 = .ok (.iconst 4, 1) := by decide +kernel
theorem zd_Tool_writeOwnExtension_36 : decode ze_Tool_writeOwnExtension 36 = .ok (.invokevirtual 80, 3) := by decide +kernel
theorem zd_Tool_writeOwnExtension_39 : decode ze_Tool_writeOwnExtension 39 = .ok (.aload_n 1, 1) := by decide +kernel
theorem zd_Tool_writeOwnExtension_40 : decode ze_Tool_writeOwnExtension 40 = .ok (.iload_n 2, 1) := by decide +kernel
theorem zd_Tool_writeOwnExtension_41 : decode ze_Tool_writeOwnExtension 41 = .ok (.bipush 48, 2) := by decide +kernel
theorem zd_Tool_writeOwnExtension_43 : decode ze_Tool_writeOwnExtension 43 = .ok (.invokevirtual 80, 3) := by decide +kernel
theorem zd_Tool_writeOwnExtension_46 : decode ze_Tool_writeOwnExtension 46 = .ok (.return_, 1) := by decide +kernel
theorem zd_Tool_writeUsage_0 : decode ze_Tool_writeUsage 0 = .ok (.aload_n 1, 1) := by decide +kernel
theorem zd_Tool_writeUsage_1 : decode ze_Tool_writeUsage 1 = .ok (.getfield 77, 3) := by decide +kernel
theorem zd_Tool_writeUsage_4 : decode ze_Tool_writeUsage 4 = .ok (.istore_n 2, 1) := by decide +kernel
theorem zd_Tool_writeUsage_5 : decode ze_Tool_writeUsage 5 = .ok (.aload_n 1, 1) := by decide +kernel
theorem zd_Tool_writeUsage_6 : decode ze_Tool_writeUsage 6 = .ok (.ldc2_w 48, 3) := by decide +kernel
theorem zd_Tool_writeUsage_9 : decode ze_Tool_writeUsage 9 = .ok (.invokevirtual 55, 3) := by decide +kernel
theorem zd_Tool_writeUsage_12 : decode ze_Tool_writeUsage 12 = .ok (.aload_n 1, 1) := by decide +kernel
theorem zd_Tool_writeUsage_13 : decode ze_Tool_writeUsage 13 = .ok (.invokevirtual 104, 3) := by decide +kernel
theorem zd_Tool_writeUsage_16 : decode ze_Tool_writeUsage 16 = .ok (.aload_n 1, 1) := by decide +kernel
theorem zd_Tool_writeUsage_17 : decode ze_Tool_writeUsage 17 = .ok (.aload_n 0, 1) := by decide +kernel
theorem zd_Tool_writeUsage_18 : decode ze_Tool_writeUsage 18 = .ok (.getfield 13, 3) := by decide +kernel
theorem zd_Tool_writeUsage_21 : decode ze_Tool_writeUsage 21 = .ok (.bipush 8, 2) := by decide +kernel
theorem zd_Tool_writeUsage_23 : decode ze_Tool_writeUsage 23 = .ok (.laload, 1) := by decide +kernel
theorem zd_Tool_writeUsage_24 : decode ze_Tool_writeUsage 24 = .ok (.invokevirtual 55, 3) := by decide +kernel
theorem zd_Tool_writeUsage_27 : decode ze_Tool_writeUsage 27 = .ok (.aload_n 1, 1) := by decide +kernel
theorem zd_Tool_writeUsage_28 : decode ze_Tool_writeUsage 28 = .ok (.iload_n 2, 1) := by decide +kernel
theorem zd_Tool_writeUsage_29 : decode ze_Tool_writeUsage 29 = .ok (.bipush 48, 2) := by decide +kernel
theorem zd_Tool_writeUsage_31 : decode ze_Tool_writeUsage 31 = .ok (.invokevirtual 80, 3) := by decide +kernel
theorem zd_Tool_writeUsage_34 : decode ze_Tool_writeUsage 34 = .ok (.return_, 1) := by decide +kernel
theorem zd_Tool_writeBasic_0 : decode ze_Tool_writeBasic 0 = .ok (.aload_n 1, 1) := by decide +kernel
theorem zd_Tool_writeBasic_1 : decode ze_Tool_writeBasic 1 = .ok (.getfield 77, 3) := by decide +kernel
theorem zd_Tool_writeBasic_4 : decode ze_Tool_writeBasic 4 = .ok (.istore_n 2, 1) := by decide +kernel
theorem zd_Tool_writeBasic_5 : decode ze_Tool_writeBasic 5 = .ok (.aload_n 1, 1) := by decide +kernel
theorem zd_Tool_writeBasic_6 : decode ze_Tool_writeBasic 6 = .ok (.lconst 1, 1) := by decide +kernel
theorem zd_Tool_writeBasic_7 : decode ze_Tool_writeBasic 7 = .ok (.invokevirtual 55, 3) := by decide +kernel
theorem zd_Tool_writeBasic_10 : decode ze_Tool_writeBasic 10 = .ok (.aload_n 1, 1) := by decide +kernel
theorem zd_Tool_writeBasic_11 : decode ze_Tool_writeBasic 11 = .ok (.invokevirtual 104, 3) := by decide +kernel
theorem zd_Tool_writeBasic_14 : decode ze_Tool_writeBasic 14 = .ok (.aload_n 1, 1) := by decide +kernel
theorem zd_Tool_writeBasic_15 : decode ze_Tool_writeBasic 15 = .ok (.getfield 77, 3) := by decide +kernel
theorem zd_Tool_writeBasic_18 : decode ze_Tool_writeBasic 18 = .ok (.istore_n 3, 1) := by decide +kernel
theorem zd_Tool_writeBasic_19 : decode ze_Tool_writeBasic 19 = .ok (.aload_n 0, 1) := by decide +kernel
theorem zd_Tool_writeBasic_20 : decode ze_Tool_writeBasic 20 = .ok (.getfield 13, 3) := by decide +kernel
theorem zd_Tool_writeBasic_23 : decode ze_Tool_writeBasic 23 = .ok (.bipush 6, 2) := by decide +kernel
theorem zd_Tool_writeBasic_25 : decode ze_Tool_writeBasic 25 = .ok (.laload, 1) := by decide +kernel
theorem zd_Tool_writeBasic_26 : decode ze_Tool_writeBasic 26 = .ok (.lconst 1, 1) := by decide +kernel
theorem zd_Tool_writeBasic_27 : decode ze_Tool_writeBasic 27 = .ok (.lcmp, 1) := by decide +kernel
theorem zd_Tool_writeBasic_28 : decode ze_Tool_writeBasic 28 = .ok (.ifCond .ne 30, 3) := by decide +kernel
theorem zd_Tool_writeBasic_31 : decode ze_Tool_writeBasic 31 = .ok (.aload_n 1, 1) := by decide +kernel
theorem zd_Tool_writeBasic_32 : decode ze_Tool_writeBasic 32 = .ok (.invokevirtual 104, 3) := by decide +kernel
theorem zd_Tool_writeBasic_35 : decode ze_Tool_writeBasic 35 = .ok (.aload_n 0, 1) := by decide +kernel
theorem zd_Tool_writeBasic_36 : decode ze_Tool_writeBasic 36 = .ok (.getfield 13, 3) := by decide +kernel
theorem zd_Tool_writeBasic_39 : decode ze_Tool_writeBasic 39 = .ok (.bipush 7, 2) := by decide +kernel
theorem zd_Tool_writeBasic_41 : decode ze_Tool_writeBasic 41 = .ok (.laload, 1) := by decide +kernel
theorem zd_Tool_writeBasic_42 : decode ze_Tool_writeBasic 42 = .ok (.lconst 0, 1) := by decide +kernel
theorem zd_Tool_writeBasic_43 : decode ze_Tool_writeBasic 43 = .ok (.lcmp, 1) := by decide +kernel
theorem zd_Tool_writeBasic_44 : decode ze_Tool_writeBasic 44 = .ok (.ifCond .lt 14, 3) := by decide +kernel
theorem zd_Tool_writeBasic_47 : decode ze_Tool_writeBasic 47 = .ok (.aload_n 1, 1) := by decide +kernel
theorem zd_Tool_writeBasic_48 : decode ze_Tool_writeBasic 48 = .ok (.aload_n 0, 1) := by decide +kernel
theorem zd_Tool_writeBasic_49 : decode ze_Tool_writeBasic 49 = .ok (.getfield 13, 3) := by decide +kernel
theorem zd_Tool_writeBasic_52 : decode ze_Tool_writeBasic 52 = .ok (.bipush 7, 2) := by decide +kernel
theorem zd_Tool_writeBasic_54 : decode ze_Tool_writeBasic 54 = .ok (.laload, 1) := by decide +kernel
theorem zd_Tool_writeBasic_55 : decode ze_Tool_writeBasic 55 = .ok (.invokevirtual 55, 3) := by decide +kernel
theorem zd_Tool_writeBasic_58 : decode ze_Tool_writeBasic 58 = .ok (.aload_n 1, 1) := by decide +kernel
theorem zd_Tool_writeBasic_59 : decode ze_Tool_writeBasic 59 = .ok (.iload_n 3, 1) := by decide +kernel
theorem zd_Tool_writeBasic_60 : decode ze_Tool_writeBasic 60 = .ok (.bipush 48, 2) := by decide +kernel
theorem zd_Tool_writeBasic_62 : decode ze_Tool_writeBasic 62 = .ok (.invokevirtual 80, 3) := by decide +kernel
theorem zd_Tool_writeBasic_65 : decode ze_Tool_writeBasic 65 = .ok (.aload_n 1, 1) := by decide +kernel
theorem zd_Tool_writeBasic_66 : decode ze_Tool_writeBasic 66 = .ok (.iload_n 2, 1) := by decide +kernel
theorem zd_Tool_writeBasic_67 : decode ze_Tool_writeBasic 67 = .ok (.bipush 48, 2) := by decide +kernel
theorem zd_Tool_writeBasic_69 : decode ze_Tool_writeBasic 69 = .ok (.invokevirtual 80, 3) := by decide +kernel
theorem zd_Tool_writeBasic_72 : decode ze_Tool_writeBasic 72 = .ok (.return_, 1) := by decide +kernel
theorem zd_Tool_writeExtensions_0 : decode ze_Tool_writeExtensions 0 = .ok (.aload_n 1, 1) := by decide +kernel
theorem zd_Tool_writeExtensions_1 : decode ze_Tool_writeExtensions 1 = .ok (.getfield 77, 3) := by decide +kernel
theorem zd_Tool_writeExtensions_4 : decode ze_Tool_writeExtensions 4 = .ok (.istore_n 2, 1) := by decide +kernel
theorem zd_Tool_writeExtensions_5 : decode ze_Tool_writeExtensions 5 = .ok (.aload_n 0, 1) := by decide +kernel
theorem zd_Tool_writeExtensions_6 : decode ze_Tool_writeExtensions 6 = .ok (.getfield 13, 3) := by decide +kernel
theorem zd_Tool_writeExtensions_9 : decode ze_Tool_writeExtensions 9 = .ok (.bipush 6, 2) := by decide +kernel
theorem zd_Tool_writeExtensions_11 : decode ze_Tool_writeExtensions 11 = .ok (.laload, 1) := by decide +kernel
theorem zd_Tool_writeExtensions_12 : decode ze_Tool_writeExtensions 12 = .ok (.lconst 0, 1) := by decide +kernel
theorem zd_Tool_writeExtensions_13 : decode ze_Tool_writeExtensions 13 = .ok (.lcmp, 1) := by decide +kernel
theorem zd_Tool_writeExtensions_14 : decode ze_Tool_writeExtensions 14 = .ok (.ifCond .lt 8, 3) := by decide +kernel
theorem zd_Tool_writeExtensions_17 : decode ze_Tool_writeExtensions 17 = .ok (.aload_n 0, 1) := by decide +kernel
theorem zd_Tool_writeExtensions_18 : decode ze_Tool_writeExtensions 18 = .ok (.aload_n 1, 1) := by decide +kernel
theorem zd_Tool_writeExtensions_19 : decode ze_Tool_writeExtensions 19 = .ok (.invokevirtual 92, 3) := by decide +kernel
theorem zd_Tool_writeExtensions_22 : decode ze_Tool_writeExtensions 22 = .ok (.aload_n 0, 1) := by decide +kernel
theorem zd_Tool_writeExtensions_23 : decode ze_Tool_writeExtensions 23 = .ok (.getfield 13, 3) := by decide +kernel
theorem zd_Tool_writeExtensions_26 : decode ze_Tool_writeExtensions 26 = .ok (.bipush 8, 2) := by decide +kernel
theorem zd_Tool_writeExtensions_28 : decode ze_Tool_writeExtensions 28 = .ok (.laload, 1) := by decide +kernel
theorem zd_Tool_writeExtensions_29 : decode ze_Tool_writeExtensions 29 = .ok (.lconst 0, 1) := by decide +kernel
theorem zd_Tool_writeExtensions_30 : decode ze_Tool_writeExtensions 30 = .ok (.lcmp, 1) := by decide +kernel
theorem zd_Tool_writeExtensions_31 : decode ze_Tool_writeExtensions 31 = .ok (.ifCond .lt 8, 3) := by decide +kernel
theorem zd_Tool_writeExtensions_34 : decode ze_Tool_writeExtensions 34 = .ok (.aload_n 0, 1) := by decide +kernel
theorem zd_Tool_writeExtensions_35 : decode ze_Tool_writeExtensions 35 = .ok (.aload_n 1, 1) := by decide +kernel
theorem zd_Tool_writeExtensions_36 : decode ze_Tool_writeExtensions 36 = .ok (.invokevirtual 95, 3) := by decide +kernel
theorem zd_Tool_writeExtensions_39 : decode ze_Tool_writeExtensions 39 = .ok (.aload_n 0, 1) := by decide +kernel
theorem zd_Tool_writeExtensions_40 : decode ze_Tool_writeExtensions 40 = .ok (.getfield 13, 3) := by decide +kernel
theorem zd_Tool_writeExtensions_43 : decode ze_Tool_writeExtensions 43 = .ok (.bipush 9, 2) := by decide +kernel
theorem zd_Tool_writeExtensions_45 : decode ze_Tool_writeExtensions 45 = .ok (.laload, 1) := by decide +kernel
theorem zd_Tool_writeExtensions_46 : decode ze_Tool_writeExtensions 46 = .ok (.lconst 0, 1) := by decide +kernel
theorem zd_Tool_writeExtensions_47 : decode ze_Tool_writeExtensions 47 = .ok (.lcmp, 1) := by decide +kernel
theorem zd_Tool_writeExtensions_48 : decode ze_Tool_writeExtensions 48 = .ok (.ifCond .ne 15, 3) := by decide +kernel
theorem zd_Tool_writeExtensions_51 : decode ze_Tool_writeExtensions 51 = .ok (.aload_n 0, 1) := by decide +kernel
theorem zd_Tool_writeExtensions_52 : decode ze_Tool_writeExtensions 52 = .ok (.getfield 13, 3) := by decide +kernel
theorem zd_Tool_writeExtensions_55 : decode ze_Tool_writeExtensions 55 = .ok (.bipush 10, 2) := by decide +kernel
theorem zd_Tool_writeExtensions_57 : decode ze_Tool_writeExtensions 57 = .ok (.laload, 1) := by decide +kernel
theorem zd_Tool_writeExtensions_58 : decode ze_Tool_writeExtensions 58 = .ok (.lconst 0, 1) := by decide +kernel
theorem zd_Tool_writeExtensions_59 : decode ze_Tool_writeExtensions 59 = .ok (.lcmp, 1) := by decide +kernel
theorem zd_Tool_writeExtensions_60 : decode ze_Tool_writeExtensions 60 = .ok (.ifCond .eq 8, 3) := by decide +kernel
theorem zd_Tool_writeExtensions_63 : decode ze_Tool_writeExtensions 63 = .ok (.aload_n 0, 1) := by decide +kernel
theorem zd_Tool_writeExtensions_64 : decode ze_Tool_writeExtensions 64 = .ok (.aload_n 1, 1) := by decide +kernel
theorem zd_Tool_writeExtensions_65 : decode ze_Tool_writeExtensions 65 = .ok (.invokevirtual 98, 3) := by decide +kernel
theorem zd_Tool_writeExtensions_68 : decode ze_Tool_writeExtensions 68 = .ok (.aload_n 0, 1) := by decide +kernel
theorem zd_Tool_writeExtensions_69 : decode ze_Tool_writeExtensions 69 = .ok (.getfield 13, 3) := by decide +kernel
theorem zd_Tool_writeExtensions_72 : decode ze_Tool_writeExtensions 72 = .ok (.bipush 11, 2) := by decide +kernel
theorem zd_Tool_writeExtensions_74 : decode ze_Tool_writeExtensions 74 = .ok (.laload, 1) := by decide +kernel
theorem zd_Tool_writeExtensions_75 : decode ze_Tool_writeExtensions 75 = .ok (.lconst 0, 1) := by decide +kernel
theorem zd_Tool_writeExtensions_76 : decode ze_Tool_writeExtensions 76 = .ok (.lcmp, 1) := by decide +kernel
theorem zd_Tool_writeExtensions_77 : decode ze_Tool_writeExtensions 77 = .ok (.ifCond .le 8, 3) := by decide +kernel
theorem zd_Tool_writeExtensions_80 : decode ze_Tool_writeExtensions 80 = .ok (.aload_n 0, 1) := by decide +kernel
theorem zd_Tool_writeExtensions_81 : decode ze_Tool_writeExtensions 81 = .ok (.aload_n 1, 1) := by decide +kernel
theorem zd_Tool_writeExtensions_82 : decode ze_Tool_writeExtensions 82 = .ok (.invokevirtual 101, 3) := by decide +kernel
theorem zd_Tool_writeExtensions_85 : decode ze_Tool_writeExtensions 85 = .ok (.aload_n 1, 1) := by decide +kernel
theorem zd_Tool_writeExtensions_86 : decode ze_Tool_writeExtensions 86 = .ok (.getfield 77, 3) := by decide +kernel
theorem zd_Tool_writeExtensions_89 : decode ze_Tool_writeExtensions 89 = .ok (.iload_n 2, 1) := by decide +kernel
theorem zd_Tool_writeExtensions_90 : decode ze_Tool_writeExtensions 90 = .ok (.if_icmp .le 10, 3) := by decide +kernel
theorem zd_Tool_writeExtensions_93 : decode ze_Tool_writeExtensions 93 = .ok (.aload_n 1, 1) := by decide +kernel
theorem zd_Tool_writeExtensions_94 : decode ze_Tool_writeExtensions 94 = .ok (.iload_n 2, 1) := by decide +kernel
theorem zd_Tool_writeExtensions_95 : decode ze_Tool_writeExtensions 95 = .ok (.bipush 48, 2) := by decide +kernel
theorem zd_Tool_writeExtensions_97 : decode ze_Tool_writeExtensions 97 = .ok (.invokevirtual 80, 3) := by decide +kernel
theorem zd_Tool_writeExtensions_100 : decode ze_Tool_writeExtensions 100 = .ok (.return_, 1) := by decide +kernel
theorem zd_Tool_writeCertificate_0 : decode ze_Tool_writeCertificate 0 = .ok (.aload_n 0, 1) := by decide +kernel
theorem zd_Tool_writeCertificate_1 : decode ze_Tool_writeCertificate 1 = .ok (.getfield 13, 3) := by decide +kernel
theorem zd_Tool_writeCertificate_4 : decode ze_Tool_writeCertificate 4 = .ok (.iconst 5, 1) := by decide +kernel
theorem zd_Tool_writeCertificate_5 : decode ze_Tool_writeCertificate 5 = .ok (.laload, 1) := by decide +kernel
theorem zd_Tool_writeCertificate_6 : decode ze_Tool_writeCertificate 6 = .ok (.l2i, 1) := by decide +kernel
theorem zd_Tool_writeCertificate_7 : decode ze_Tool_writeCertificate 7 = .ok (.istore_n 2, 1) := by decide +kernel
theorem zd_Tool_writeCertificate_8 : decode ze_Tool_writeCertificate 8 = .ok (.aload_n 1, 1) := by decide +kernel
theorem zd_Tool_writeCertificate_9 : decode ze_Tool_writeCertificate 9 = .ok (.invokevirtual 50, 3) := by decide +kernel
theorem zd_Tool_writeCertificate_12 : decode ze_Tool_writeCertificate 12 = .ok (.aload_n 1, 1) := by decide +kernel
theorem zd_Tool_writeCertificate_13 : decode ze_Tool_writeCertificate 13 = .ok (.aload_n 0, 1) := by decide +kernel
theorem zd_Tool_writeCertificate_14 : decode ze_Tool_writeCertificate 14 = .ok (.getfield 13, 3) := by decide +kernel
theorem zd_Tool_writeCertificate_17 : decode ze_Tool_writeCertificate 17 = .ok (.iconst 0, 1) := by decide +kernel
theorem zd_Tool_writeCertificate_18 : decode ze_Tool_writeCertificate 18 = .ok (.laload, 1) := by decide +kernel
theorem zd_Tool_writeCertificate_19 : decode ze_Tool_writeCertificate 19 = .ok (.invokevirtual 55, 3) := by decide +kernel
theorem zd_Tool_writeCertificate_22 : decode ze_Tool_writeCertificate 22 = .ok (.aload_n 1, 1) := by decide +kernel
theorem zd_Tool_writeCertificate_23 : decode ze_Tool_writeCertificate 23 = .ok (.bipush 19, 2) := by decide +kernel
theorem zd_Tool_writeCertificate_25 : decode ze_Tool_writeCertificate 25 = .ok (.aload_n 0, 1) := by decide +kernel
theorem zd_Tool_writeCertificate_26 : decode ze_Tool_writeCertificate 26 = .ok (.getfield 13, 3) := by decide +kernel
theorem zd_Tool_writeCertificate_29 : decode ze_Tool_writeCertificate 29 = .ok (.iconst 1, 1) := by decide +kernel
theorem zd_Tool_writeCertificate_30 : decode ze_Tool_writeCertificate 30 = .ok (.laload, 1) := by decide +kernel
theorem zd_Tool_writeCertificate_31 : decode ze_Tool_writeCertificate 31 = .ok (.invokevirtual 59, 3) := by decide +kernel
theorem zd_Tool_writeCertificate_34 : decode ze_Tool_writeCertificate 34 = .ok (.aload_n 1, 1) := by decide +kernel
theorem zd_Tool_writeCertificate_35 : decode ze_Tool_writeCertificate 35 = .ok (.aload_n 0, 1) := by decide +kernel
theorem zd_Tool_writeCertificate_36 : decode ze_Tool_writeCertificate 36 = .ok (.getfield 13, 3) := by decide +kernel
theorem zd_Tool_writeCertificate_39 : decode ze_Tool_writeCertificate 39 = .ok (.iconst 2, 1) := by decide +kernel
theorem zd_Tool_writeCertificate_40 : decode ze_Tool_writeCertificate 40 = .ok (.laload, 1) := by decide +kernel
theorem zd_Tool_writeCertificate_41 : decode ze_Tool_writeCertificate 41 = .ok (.invokevirtual 55, 3) := by decide +kernel
theorem zd_Tool_writeCertificate_44 : decode ze_Tool_writeCertificate 44 = .ok (.aload_n 1, 1) := by decide +kernel
theorem zd_Tool_writeCertificate_45 : decode ze_Tool_writeCertificate 45 = .ok (.aload_n 0, 1) := by decide +kernel
theorem zd_Tool_writeCertificate_46 : decode ze_Tool_writeCertificate 46 = .ok (.getfield 13, 3) := by decide +kernel
theorem zd_Tool_writeCertificate_49 : decode ze_Tool_writeCertificate 49 = .ok (.iconst 3, 1) := by decide +kernel
theorem zd_Tool_writeCertificate_50 : decode ze_Tool_writeCertificate 50 = .ok (.laload, 1) := by decide +kernel
theorem zd_Tool_writeCertificate_51 : decode ze_Tool_writeCertificate 51 = .ok (.invokevirtual 55, 3) := by decide +kernel
theorem zd_Tool_writeCertificate_54 : decode ze_Tool_writeCertificate 54 = .ok (.aload_n 1, 1) := by decide +kernel
theorem zd_Tool_writeCertificate_55 : decode ze_Tool_writeCertificate 55 = .ok (.bipush 19, 2) := by decide +kernel
theorem zd_Tool_writeCertificate_57 : decode ze_Tool_writeCertificate 57 = .ok (.aload_n 0, 1) := by decide +kernel
theorem zd_Tool_writeCertificate_58 : decode ze_Tool_writeCertificate 58 = .ok (.getfield 13, 3) := by decide +kernel
theorem zd_Tool_writeCertificate_61 : decode ze_Tool_writeCertificate 61 = .ok (.iconst 4, 1) := by decide +kernel
theorem zd_Tool_writeCertificate_62 : decode ze_Tool_writeCertificate 62 = .ok (.laload, 1) := by decide +kernel
theorem zd_Tool_writeCertificate_63 : decode ze_Tool_writeCertificate 63 = .ok (.invokevirtual 59, 3) := by decide +kernel
theorem zd_Tool_writeCertificate_66 : decode ze_Tool_writeCertificate 66 = .ok (.aload_n 1, 1) := by decide +kernel
theorem zd_Tool_writeCertificate_67 : decode ze_Tool_writeCertificate 67 = .ok (.getstatic 63, 3) := by decide +kernel
theorem zd_Tool_writeCertificate_70 : decode ze_Tool_writeCertificate 70 = .ok (.iload_n 2, 1) := by decide +kernel
theorem zd_Tool_writeCertificate_71 : decode ze_Tool_writeCertificate 71 = .ok (.laload, 1) := by decide +kernel
theorem zd_Tool_writeCertificate_72 : decode ze_Tool_writeCertificate 72 = .ok (.invokevirtual 55, 3) := by decide +kernel
theorem zd_Tool_writeCertificate_75 : decode ze_Tool_writeCertificate 75 = .ok (.aload_n 1, 1) := by decide +kernel
theorem zd_Tool_writeCertificate_76 : decode ze_Tool_writeCertificate 76 = .ok (.getstatic 66, 3) := by decide +kernel
theorem zd_Tool_writeCertificate_79 : decode ze_Tool_writeCertificate 79 = .ok (.iload_n 2, 1) := by decide +kernel
theorem zd_Tool_writeCertificate_80 : decode ze_Tool_writeCertificate 80 = .ok (.laload, 1) := by decide +kernel
theorem zd_Tool_writeCertificate_81 : decode ze_Tool_writeCertificate 81 = .ok (.invokevirtual 55, 3) := by decide +kernel
theorem zd_Tool_writeCertificate_84 : decode ze_Tool_writeCertificate 84 = .ok (.aload_n 0, 1) := by decide +kernel
theorem zd_Tool_writeCertificate_85 : decode ze_Tool_writeCertificate 85 = .ok (.aload_n 1, 1) := by decide +kernel
theorem zd_Tool_writeCertificate_86 : decode ze_Tool_writeCertificate 86 = .ok (.invokevirtual 69, 3) := by decide +kernel
theorem zd_Tool_writeCertificate_89 : decode ze_Tool_writeCertificate 89 = .ok (.aload_n 0, 1) := by decide +kernel
theorem zd_Tool_writeCertificate_90 : decode ze_Tool_writeCertificate 90 = .ok (.aload_n 1, 1) := by decide +kernel
theorem zd_Tool_writeCertificate_91 : decode ze_Tool_writeCertificate 91 = .ok (.invokevirtual 73, 3) := by decide +kernel
theorem zd_Tool_writeCertificate_94 : decode ze_Tool_writeCertificate 94 = .ok (.ireturn, 1) := by decide +kernel
theorem zd_V_compose_0 : decode ze_V_compose 0 = .ok (.aload_n 0, 1) := by decide +kernel
theorem zd_V_compose_1 : decode ze_V_compose 1 = .ok (.getfield 19, 3) := by decide +kernel
theorem zd_V_compose_4 : decode ze_V_compose 4 = .ok (.aload_n 0, 1) := by decide +kernel
theorem zd_V_compose_5 : decode ze_V_compose 5 = .ok (.getfield 10, 3) := by decide +kernel
theorem zd_V_compose_8 : decode ze_V_compose 8 = .ok (.invokevirtual 67, 3) := by decide +kernel
theorem zd_V_compose_11 : decode ze_V_compose 11 = .ok (.ireturn, 1) := by decide +kernel
theorem zd_M_yes_0 : decode ze_M_yes 0 = .ok (.aload_n 0, 1) := by decide +kernel
theorem zd_M_yes_1 : decode ze_M_yes 1 = .ok (.iconst 1, 1) := by decide +kernel
theorem zd_M_yes_2 : decode ze_M_yes 2 = .ok (.invokevirtual 156, 3) := by decide +kernel
theorem zd_M_yes_5 : decode ze_M_yes 5 = .ok (.aload_n 0, 1) := by decide +kernel
theorem zd_M_yes_6 : decode ze_M_yes 6 = .ok (.iconst 1, 1) := by decide +kernel
theorem zd_M_yes_7 : decode ze_M_yes 7 = .ok (.invokevirtual 156, 3) := by decide +kernel
theorem zd_M_yes_10 : decode ze_M_yes 10 = .ok (.aload_n 0, 1) := by decide +kernel
theorem zd_M_yes_11 : decode ze_M_yes 11 = .ok (.sipush 255, 3) := by decide +kernel
theorem zd_M_yes_14 : decode ze_M_yes 14 = .ok (.invokevirtual 156, 3) := by decide +kernel
theorem zd_M_yes_17 : decode ze_M_yes 17 = .ok (.return_, 1) := by decide +kernel
theorem zd_M_open_0 : decode ze_M_open 0 = .ok (.aload_n 0, 1) := by decide +kernel
theorem zd_M_open_1 : decode ze_M_open 1 = .ok (.getfield 141, 3) := by decide +kernel
theorem zd_M_open_4 : decode ze_M_open 4 = .ok (.istore_n 3, 1) := by decide +kernel
theorem zd_M_open_5 : decode ze_M_open 5 = .ok (.aload_n 0, 1) := by decide +kernel
theorem zd_M_open_6 : decode ze_M_open 6 = .ok (.iload_n 1, 1) := by decide +kernel
theorem zd_M_open_7 : decode ze_M_open 7 = .ok (.i2l, 1) := by decide +kernel
theorem zd_M_open_8 : decode ze_M_open 8 = .ok (.invokevirtual 172, 3) := by decide +kernel
theorem zd_M_open_11 : decode ze_M_open 11 = .ok (.iload_n 2, 1) := by decide +kernel
theorem zd_M_open_12 : decode ze_M_open 12 = .ok (.ifCond .eq 7, 3) := by decide +kernel
theorem zd_M_open_15 : decode ze_M_open 15 = .ok (.aload_n 0, 1) := by decide +kernel
theorem zd_M_open_16 : decode ze_M_open 16 = .ok (.invokevirtual 176, 3) := by decide +kernel
theorem zd_M_open_19 : decode ze_M_open 19 = .ok (.iload_n 3, 1) := by decide +kernel
theorem zd_M_open_20 : decode ze_M_open 20 = .ok (.ireturn, 1) := by decide +kernel
theorem zd_M_extensions_0 : decode ze_M_extensions 0 = .ok (.aload_n 0, 1) := by decide +kernel
theorem zd_M_extensions_1 : decode ze_M_extensions 1 = .ok (.getfield 141, 3) := by decide +kernel
theorem zd_M_extensions_4 : decode ze_M_extensions 4 = .ok (.istore_n 1, 1) := by decide +kernel
theorem zd_M_extensions_5 : decode ze_M_extensions 5 = .ok (.aload_n 0, 1) := by decide +kernel
theorem zd_M_extensions_6 : decode ze_M_extensions 6 = .ok (.getfield 13, 3) := by decide +kernel
theorem zd_M_extensions_9 : decode ze_M_extensions 9 = .ok (.bipush 6, 2) := by decide +kernel
theorem zd_M_extensions_11 : decode ze_M_extensions 11 = .ok (.laload, 1) := by decide +kernel
theorem zd_M_extensions_12 : decode ze_M_extensions 12 = .ok (.lconst 0, 1) := by decide +kernel
theorem zd_M_extensions_13 : decode ze_M_extensions 13 = .ok (.lcmp, 1) := by decide +kernel
theorem zd_M_extensions_14 : decode ze_M_extensions 14 = .ok (.ifCond .lt 80, 3) := by decide +kernel
theorem zd_M_extensions_17 : decode ze_M_extensions 17 = .ok (.aload_n 0, 1) := by decide +kernel
theorem zd_M_extensions_18 : decode ze_M_extensions 18 = .ok (.iconst 1, 1) := by decide +kernel
theorem zd_M_extensions_19 : decode ze_M_extensions 19 = .ok (.iconst 1, 1) := by decide +kernel
theorem zd_M_extensions_20 : decode ze_M_extensions 20 = .ok (.invokevirtual 179, 3) := by decide +kernel
theorem zd_M_extensions_23 : decode ze_M_extensions 23 = .ok (.istore_n 2, 1) := by decide +kernel
theorem zd_M_extensions_24 : decode ze_M_extensions 24 = .ok (.aload_n 0, 1) := by decide +kernel
theorem zd_M_extensions_25 : decode ze_M_extensions 25 = .ok (.getfield 141, 3) := by decide +kernel
theorem zd_M_extensions_28 : decode ze_M_extensions 28 = .ok (.istore_n 3, 1) := by decide +kernel
theorem zd_M_extensions_29 : decode ze_M_extensions 29 = .ok (.aload_n 0, 1) := by decide +kernel
theorem zd_M_extensions_30 : decode ze_M_extensions 30 = .ok (.getfield 13, 3) := by decide +kernel
theorem zd_M_extensions_33 : decode ze_M_extensions 33 = .ok (.bipush 6, 2) := by decide +kernel
theorem zd_M_extensions_35 : decode ze_M_extensions 35 = .ok (.laload, 1) := by decide +kernel
theorem zd_M_extensions_36 : decode ze_M_extensions 36 = .ok (.lconst 1, 1) := by decide +kernel
theorem zd_M_extensions_37 : decode ze_M_extensions 37 = .ok (.lcmp, 1) := by decide +kernel
theorem zd_M_extensions_38 : decode ze_M_extensions 38 = .ok (.ifCond .ne 7, 3) := by decide +kernel
theorem zd_M_extensions_41 : decode ze_M_extensions 41 = .ok (.aload_n 0, 1) := by decide +kernel
theorem zd_M_extensions_42 : decode ze_M_extensions 42 = .ok (.invokevirtual 176, 3) := by decide +kernel
theorem zd_M_extensions_45 : decode ze_M_extensions 45 = .ok (.aload_n 0, 1) := by decide +kernel
theorem zd_M_extensions_46 : decode ze_M_extensions 46 = .ok (.getfield 13, 3) := by decide +kernel
theorem zd_M_extensions_49 : decode ze_M_extensions 49 = .ok (.bipush 6, 2) := by decide +kernel
theorem zd_M_extensions_51 : decode ze_M_extensions 51 = .ok (.laload, 1) := by decide +kernel
theorem zd_M_extensions_52 : decode ze_M_extensions 52 = .ok (.lconst 1, 1) := by decide +kernel
theorem zd_M_extensions_53 : decode ze_M_extensions 53 = .ok (.lcmp, 1) := by decide +kernel
theorem zd_M_extensions_54 : decode ze_M_extensions 54 = .ok (.ifCond .ne 26, 3) := by decide +kernel
theorem zd_M_extensions_57 : decode ze_M_extensions 57 = .ok (.aload_n 0, 1) := by decide +kernel
theorem zd_M_extensions_58 : decode ze_M_extensions 58 = .ok (.getfield 13, 3) := by decide +kernel
theorem zd_M_extensions_61 : decode ze_M_extensions 61 = .ok (.bipush 7, 2) := by decide +kernel
theorem zd_M_extensions_63 : decode ze_M_extensions 63 = .ok (.laload, 1) := by decide +kernel
theorem zd_M_extensions_64 : decode ze_M_extensions 64 = .ok (.lconst 0, 1) := by decide +kernel
theorem zd_M_extensions_65 : decode ze_M_extensions 65 = .ok (.lcmp, 1) := by decide +kernel
theorem zd_M_extensions_66 : decode ze_M_extensions 66 = .ok (.ifCond .lt 14, 3) := by decide +kernel
theorem zd_M_extensions_69 : decode ze_M_extensions 69 = .ok (.aload_n 0, 1) := by decide +kernel
theorem zd_M_extensions_70 : decode ze_M_extensions 70 = .ok (.aload_n 0, 1) := by decide +kernel
theorem zd_M_extensions_71 : decode ze_M_extensions 71 = .ok (.getfield 13, 3) := by decide +kernel
theorem zd_M_extensions_74 : decode ze_M_extensions 74 = .ok (.bipush 7, 2) := by decide +kernel
theorem zd_M_extensions_76 : decode ze_M_extensions 76 = .ok (.laload, 1) := by decide +kernel
theorem zd_M_extensions_77 : decode ze_M_extensions 77 = .ok (.invokevirtual 172, 3) := by decide +kernel
theorem zd_M_extensions_80 : decode ze_M_extensions 80 = .ok (.aload_n 0, 1) := by decide +kernel
theorem zd_M_extensions_81 : decode ze_M_extensions 81 = .ok (.iload_n 3, 1) := by decide +kernel
theorem zd_M_extensions_82 : decode ze_M_extensions 82 = .ok (.bipush 48, 2) := by decide +kernel
theorem zd_M_extensions_84 : decode ze_M_extensions 84 = .ok (.invokevirtual 160, 3) := by decide +kernel
theorem zd_M_extensions_87 : decode ze_M_extensions 87 = .ok (.aload_n 0, 1) := by decide +kernel
theorem zd_M_extensions_88 : decode ze_M_extensions 88 = .ok (.iload_n 2, 1) := by decide +kernel
theorem zd_M_extensions_89 : decode ze_M_extensions 89 = .ok (.bipush 48, 2) := by decide +kernel
theorem zd_M_extensions_91 : decode ze_M_extensions 91 = .ok (.invokevirtual 160, 3) := by decide +kernel
theorem zd_M_extensions_94 : decode ze_M_extensions 94 = .ok (.aload_n 0, 1) := by decide +kernel
theorem zd_M_extensions_95 : decode ze_M_extensions 95 = .ok (.getfield 13, 3) := by decide +kernel
theorem zd_M_extensions_98 : decode ze_M_extensions 98 = .ok (.bipush 8, 2) := by decide +kernel
theorem zd_M_extensions_100 : decode ze_M_extensions 100 = .ok (.laload, 1) := by decide +kernel
theorem zd_M_extensions_101 : decode ze_M_extensions 101 = .ok (.lconst 0, 1) := by decide +kernel
theorem zd_M_extensions_102 : decode ze_M_extensions 102 = .ok (.lcmp, 1) := by decide +kernel
theorem zd_M_extensions_103 : decode ze_M_extensions 103 = .ok (.ifCond .le 28, 3) := by decide +kernel
theorem zd_M_extensions_106 : decode ze_M_extensions 106 = .ok (.aload_n 0, 1) := by decide +kernel
theorem zd_M_extensions_107 : decode ze_M_extensions 107 = .ok (.iconst 2, 1) := by decide +kernel
theorem zd_M_extensions_108 : decode ze_M_extensions 108 = .ok (.iconst 1, 1) := by decide +kernel
theorem zd_M_extensions_109 : decode ze_M_extensions 109 = .ok (.invokevirtual 179, 3) := by decide +kernel
theorem zd_M_extensions_112 : decode ze_M_extensions 112 = .ok (.istore_n 2, 1) := by decide +kernel
theorem zd_M_extensions_113 : decode ze_M_extensions 113 = .ok (.aload_n 0, 1) := by decide +kernel
theorem zd_M_extensions_114 : decode ze_M_extensions 114 = .ok (.aload_n 0, 1) := by decide +kernel
theorem zd_M_extensions_115 : decode ze_M_extensions 115 = .ok (.getfield 13, 3) := by decide +kernel
theorem zd_M_extensions_118 : decode ze_M_extensions 118 = .ok (.bipush 8, 2) := by decide +kernel
theorem zd_M_extensions_120 : decode ze_M_extensions 120 = .ok (.laload, 1) := by decide +kernel
theorem zd_M_extensions_121 : decode ze_M_extensions 121 = .ok (.invokevirtual 172, 3) := by decide +kernel
theorem zd_M_extensions_124 : decode ze_M_extensions 124 = .ok (.aload_n 0, 1) := by decide +kernel
theorem zd_M_extensions_125 : decode ze_M_extensions 125 = .ok (.iload_n 2, 1) := by decide +kernel
theorem zd_M_extensions_126 : decode ze_M_extensions 126 = .ok (.bipush 48, 2) := by decide +kernel
theorem zd_M_extensions_128 : decode ze_M_extensions 128 = .ok (.invokevirtual 160, 3) := by decide +kernel
theorem zd_M_extensions_131 : decode ze_M_extensions 131 = .ok (.aload_n 0, 1) := by decide +kernel
theorem zd_M_extensions_132 : decode ze_M_extensions 132 = .ok (.getfield 13, 3) := by decide +kernel
theorem zd_M_extensions_135 : decode ze_M_extensions 135 = .ok (.bipush 9, 2) := by decide +kernel
theorem zd_M_extensions_137 : decode ze_M_extensions 137 = .ok (.laload, 1) := by decide +kernel
theorem zd_M_extensions_138 : decode ze_M_extensions 138 = .ok (.lconst 0, 1) := by decide +kernel
theorem zd_M_extensions_139 : decode ze_M_extensions 139 = .ok (.lcmp, 1) := by decide +kernel
theorem zd_M_extensions_140 : decode ze_M_extensions 140 = .ok (.ifCond .ne 15, 3) := by decide +kernel
theorem zd_M_extensions_143 : decode ze_M_extensions 143 = .ok (.aload_n 0, 1) := by decide +kernel
theorem zd_M_extensions_144 : decode ze_M_extensions 144 = .ok (.getfield 13, 3) := by decide +kernel
theorem zd_M_extensions_147 : decode ze_M_extensions 147 = .ok (.bipush 10, 2) := by decide +kernel
theorem zd_M_extensions_149 : decode ze_M_extensions 149 = .ok (.laload, 1) := by decide +kernel
theorem zd_M_extensions_150 : decode ze_M_extensions 150 = .ok (.lconst 0, 1) := by decide +kernel
theorem zd_M_extensions_151 : decode ze_M_extensions 151 = .ok (.lcmp, 1) := by decide +kernel
theorem zd_M_extensions_152 : decode ze_M_extensions 152 = .ok (.ifCond .eq 81, 3) := by decide +kernel
theorem zd_M_extensions_155 : decode ze_M_extensions 155 = .ok (.aload_n 0, 1) := by decide +kernel
theorem zd_M_extensions_156 : decode ze_M_extensions 156 = .ok (.iconst 3, 1) := by decide +kernel
theorem zd_M_extensions_157 : decode ze_M_extensions 157 = .ok (.iconst 1, 1) := by decide +kernel
theorem zd_M_extensions_158 : decode ze_M_extensions 158 = .ok (.invokevirtual 179, 3) := by decide +kernel
theorem zd_M_extensions_161 : decode ze_M_extensions 161 = .ok (.istore_n 2, 1) := by decide +kernel
theorem zd_M_extensions_162 : decode ze_M_extensions 162 = .ok (.aload_n 0, 1) := by decide +kernel
theorem zd_M_extensions_163 : decode ze_M_extensions 163 = .ok (.getfield 141, 3) := by decide +kernel
theorem zd_M_extensions_166 : decode ze_M_extensions 166 = .ok (.istore_n 3, 1) := by decide +kernel
theorem zd_M_extensions_167 : decode ze_M_extensions 167 = .ok (.aload_n 0, 1) := by decide +kernel
theorem zd_M_extensions_168 : decode ze_M_extensions 168 = .ok (.getfield 13, 3) := by decide +kernel
theorem zd_M_extensions_171 : decode ze_M_extensions 171 = .ok (.bipush 9, 2) := by decide +kernel
theorem zd_M_extensions_173 : decode ze_M_extensions 173 = .ok (.laload, 1) := by decide +kernel
theorem zd_M_extensions_174 : decode ze_M_extensions 174 = .ok (.lconst 0, 1) := by decide +kernel
theorem zd_M_extensions_175 : decode ze_M_extensions 175 = .ok (.lcmp, 1) := by decide +kernel
theorem zd_M_extensions_176 : decode ze_M_extensions 176 = .ok (.ifCond .eq 17, 3) := by decide +kernel
theorem zd_M_extensions_179 : decode ze_M_extensions 179 = .ok (.aload_n 0, 1) := by decide +kernel
theorem zd_M_extensions_180 : decode ze_M_extensions 180 = .ok (.sipush 128, 3) := by decide +kernel
theorem zd_M_extensions_183 : decode ze_M_extensions 183 = .ok (.aload_n 0, 1) := by decide +kernel
theorem zd_M_extensions_184 : decode ze_M_extensions 184 = .ok (.getfield 13, 3) := by decide +kernel
theorem zd_M_extensions_187 : decode ze_M_extensions 187 = .ok (.bipush 9, 2) := by decide +kernel
theorem zd_M_extensions_189 : decode ze_M_extensions 189 = .ok (.laload, 1) := by decide +kernel
theorem zd_M_extensions_190 : decode ze_M_extensions 190 = .ok (.invokevirtual 183, 3) := by decide +kernel
theorem zd_M_extensions_193 : decode ze_M_extensions 193 = .ok (.aload_n 0, 1) := by decide +kernel
theorem zd_M_extensions_194 : decode ze_M_extensions 194 = .ok (.getfield 13, 3) := by decide +kernel
theorem zd_M_extensions_197 : decode ze_M_extensions 197 = .ok (.bipush 10, 2) := by decide +kernel
theorem zd_M_extensions_199 : decode ze_M_extensions 199 = .ok (.laload, 1) := by decide +kernel
theorem zd_M_extensions_200 : decode ze_M_extensions 200 = .ok (.lconst 0, 1) := by decide +kernel
theorem zd_M_extensions_201 : decode ze_M_extensions 201 = .ok (.lcmp, 1) := by decide +kernel
theorem zd_M_extensions_202 : decode ze_M_extensions 202 = .ok (.ifCond .eq 17, 3) := by decide +kernel
theorem zd_M_extensions_205 : decode ze_M_extensions 205 = .ok (.aload_n 0, 1) := by decide +kernel
theorem zd_M_extensions_206 : decode ze_M_extensions 206 = .ok (.sipush 129, 3) := by decide +kernel
theorem zd_M_extensions_209 : decode ze_M_extensions 209 = .ok (.aload_n 0, 1) := by decide +kernel
theorem zd_M_extensions_210 : decode ze_M_extensions 210 = .ok (.getfield 13, 3) := by decide +kernel
theorem zd_M_extensions_213 : decode ze_M_extensions 213 = .ok (.bipush 10, 2) := by decide +kernel
theorem zd_M_extensions_215 : decode ze_M_extensions 215 = .ok (.laload, 1) := by decide +kernel
theorem zd_M_extensions_216 : decode ze_M_extensions 216 = .ok (.invokevirtual 183, 3) := by decide +kernel
theorem zd_M_extensions_219 : decode ze_M_extensions 219 = .ok (.aload_n 0, 1) := by decide +kernel
theorem zd_M_extensions_220 : decode ze_M_extensions 220 = .ok (.iload_n 3, 1) := by decide +kernel
theorem zd_M_extensions_221 : decode ze_M_extensions 221 = .ok (.bipush 48, 2) := by decide +kernel
theorem zd_M_extensions_223 : decode ze_M_extensions 223 = .ok (.invokevirtual 160, 3) := by decide +kernel
theorem zd_M_extensions_226 : decode ze_M_extensions 226 = .ok (.aload_n 0, 1) := by decide +kernel
theorem zd_M_extensions_227 : decode ze_M_extensions 227 = .ok (.iload_n 2, 1) := by decide +kernel
theorem zd_M_extensions_228 : decode ze_M_extensions 228 = .ok (.bipush 48, 2) := by decide +kernel
theorem zd_M_extensions_230 : decode ze_M_extensions 230 = .ok (.invokevirtual 160, 3) := by decide +kernel
theorem zd_M_extensions_233 : decode ze_M_extensions 233 = .ok (.aload_n 0, 1) := by decide +kernel
theorem zd_M_extensions_234 : decode ze_M_extensions 234 = .ok (.getfield 13, 3) := by decide +kernel
theorem zd_M_extensions_237 : decode ze_M_extensions 237 = .ok (.bipush 11, 2) := by decide +kernel
theorem zd_M_extensions_239 : decode ze_M_extensions 239 = .ok (.laload, 1) := by decide +kernel
theorem zd_M_extensions_240 : decode ze_M_extensions 240 = .ok (.lconst 0, 1) := by decide +kernel
theorem zd_M_extensions_241 : decode ze_M_extensions 241 = .ok (.lcmp, 1) := by decide +kernel
theorem zd_M_extensions_242 : decode ze_M_extensions 242 = .ok (.ifCond .le 46, 3) := by decide +kernel
theorem zd_M_extensions_245 : decode ze_M_extensions 245 = .ok (.aload_n 0, 1) := by decide +kernel
theorem zd_M_extensions_246 : decode ze_M_extensions 246 = .ok (.bipush 9, 2) := by decide +kernel
theorem zd_M_extensions_248 : decode ze_M_extensions 248 = .ok (.aload_n 0, 1) := by decide +kernel
theorem zd_M_extensions_249 : decode ze_M_extensions 249 = .ok (.getfield 13, 3) := by decide +kernel
theorem zd_M_extensions_252 : decode ze_M_extensions 252 = .ok (.bipush 11, 2) := by decide +kernel
theorem zd_M_extensions_254 : decode ze_M_extensions 254 = .ok (.laload, 1) := by decide +kernel
theorem zd_M_extensions_255 : decode ze_M_extensions 255 = .ok (.ldc2_w 119, 3) := by decide +kernel
theorem zd_M_extensions_258 : decode ze_M_extensions 258 = .ok (.lcmp, 1) := by decide +kernel
theorem zd_M_extensions_259 : decode ze_M_extensions 259 = .ok (.ifCond .ne 7, 3) := by decide +kernel
theorem zd_M_extensions_262 : decode ze_M_extensions 262 = .ok (.iconst 1, 1) := by decide +kernel
theorem zd_M_extensions_263 : decode ze_M_extensions 263 = .ok (.goto 4, 3) := by decide +kernel
theorem zd_M_extensions_266 : decode ze_M_extensions 266 = .ok (.iconst 0, 1) := by decide +kernel
theorem zd_M_extensions_267 : decode ze_M_extensions 267 = .ok (.invokevirtual 179, 3) := by decide +kernel
theorem zd_M_extensions_270 : decode ze_M_extensions 270 = .ok (.istore_n 2, 1) := by decide +kernel
theorem zd_M_extensions_271 : decode ze_M_extensions 271 = .ok (.aload_n 0, 1) := by decide +kernel
theorem zd_M_extensions_272 : decode ze_M_extensions 272 = .ok (.iconst 4, 1) := by decide +kernel
theorem zd_M_extensions_273 : decode ze_M_extensions 273 = .ok (.invokevirtual 156, 3) := by decide +kernel
theorem zd_M_extensions_276 : decode ze_M_extensions 276 = .ok (.aload_n 0, 1) := by decide +kernel
theorem zd_M_extensions_277 : decode ze_M_extensions 277 = .ok (.iconst 0, 1) := by decide +kernel
theorem zd_M_extensions_278 : decode ze_M_extensions 278 = .ok (.invokevirtual 156, 3) := by decide +kernel
theorem zd_M_extensions_281 : decode ze_M_extensions 281 = .ok (.aload_n 0, 1) := by decide +kernel
theorem zd_M_extensions_282 : decode ze_M_extensions 282 = .ok (.iload_n 2, 1) := by decide +kernel
theorem zd_M_extensions_283 : decode ze_M_extensions 283 = .ok (.bipush 48, 2) := by decide +kernel
theorem zd_M_extensions_285 : decode ze_M_extensions 285 = .ok (.invokevirtual 160, 3) := by decide +kernel
theorem zd_M_extensions_288 : decode ze_M_extensions 288 = .ok (.aload_n 0, 1) := by decide +kernel
theorem zd_M_extensions_289 : decode ze_M_extensions 289 = .ok (.getfield 141, 3) := by decide +kernel
theorem zd_M_extensions_292 : decode ze_M_extensions 292 = .ok (.iload_n 1, 1) := by decide +kernel
theorem zd_M_extensions_293 : decode ze_M_extensions 293 = .ok (.if_icmp .le 10, 3) := by decide +kernel
theorem zd_M_extensions_296 : decode ze_M_extensions 296 = .ok (.aload_n 0, 1) := by decide +kernel
theorem zd_M_extensions_297 : decode ze_M_extensions 297 = .ok (.iload_n 1, 1) := by decide +kernel
theorem zd_M_extensions_298 : decode ze_M_extensions 298 = .ok (.bipush 48, 2) := by decide +kernel
theorem zd_M_extensions_300 : decode ze_M_extensions 300 = .ok (.invokevirtual 160, 3) := by decide +kernel
theorem zd_M_extensions_303 : decode ze_M_extensions 303 = .ok (.return_, 1) := by decide +kernel
theorem zd_M_compose_0 : decode ze_M_compose 0 = .ok (.aload_n 0, 1) := by decide +kernel
theorem zd_M_compose_1 : decode ze_M_compose 1 = .ok (.iconst 0, 1) := by decide +kernel
theorem zd_M_compose_2 : decode ze_M_compose 2 = .ok (.putfield 141, 3) := by decide +kernel
theorem zd_M_compose_5 : decode ze_M_compose 5 = .ok (.aload_n 0, 1) := by decide +kernel
theorem zd_M_compose_6 : decode ze_M_compose 6 = .ok (.aload_n 0, 1) := by decide +kernel
theorem zd_M_compose_7 : decode ze_M_compose 7 = .ok (.getfield 13, 3) := by decide +kernel
theorem zd_M_compose_10 : decode ze_M_compose 10 = .ok (.iconst 0, 1) := by decide +kernel
theorem zd_M_compose_11 : decode ze_M_compose 11 = .ok (.laload, 1) := by decide +kernel
theorem zd_M_compose_12 : decode ze_M_compose 12 = .ok (.invokevirtual 172, 3) := by decide +kernel
theorem zd_M_compose_15 : decode ze_M_compose 15 = .ok (.aload_n 0, 1) := by decide +kernel
theorem zd_M_compose_16 : decode ze_M_compose 16 = .ok (.bipush 19, 2) := by decide +kernel
theorem zd_M_compose_18 : decode ze_M_compose 18 = .ok (.aload_n 0, 1) := by decide +kernel
theorem zd_M_compose_19 : decode ze_M_compose 19 = .ok (.getfield 13, 3) := by decide +kernel
theorem zd_M_compose_22 : decode ze_M_compose 22 = .ok (.iconst 1, 1) := by decide +kernel
theorem zd_M_compose_23 : decode ze_M_compose 23 = .ok (.laload, 1) := by decide +kernel
theorem zd_M_compose_24 : decode ze_M_compose 24 = .ok (.invokevirtual 183, 3) := by decide +kernel
theorem zd_M_compose_27 : decode ze_M_compose 27 = .ok (.aload_n 0, 1) := by decide +kernel
theorem zd_M_compose_28 : decode ze_M_compose 28 = .ok (.aload_n 0, 1) := by decide +kernel
theorem zd_M_compose_29 : decode ze_M_compose 29 = .ok (.getfield 13, 3) := by decide +kernel
theorem zd_M_compose_32 : decode ze_M_compose 32 = .ok (.iconst 2, 1) := by decide +kernel
theorem zd_M_compose_33 : decode ze_M_compose 33 = .ok (.laload, 1) := by decide +kernel
theorem zd_M_compose_34 : decode ze_M_compose 34 = .ok (.invokevirtual 172, 3) := by decide +kernel
theorem zd_M_compose_37 : decode ze_M_compose 37 = .ok (.aload_n 0, 1) := by decide +kernel
theorem zd_M_compose_38 : decode ze_M_compose 38 = .ok (.aload_n 0, 1) := by decide +kernel
theorem zd_M_compose_39 : decode ze_M_compose 39 = .ok (.getfield 13, 3) := by decide +kernel
theorem zd_M_compose_42 : decode ze_M_compose 42 = .ok (.iconst 3, 1) := by decide +kernel
theorem zd_M_compose_43 : decode ze_M_compose 43 = .ok (.laload, 1) := by decide +kernel
theorem zd_M_compose_44 : decode ze_M_compose 44 = .ok (.invokevirtual 172, 3) := by decide +kernel
theorem zd_M_compose_47 : decode ze_M_compose 47 = .ok (.aload_n 0, 1) := by decide +kernel
theorem zd_M_compose_48 : decode ze_M_compose 48 = .ok (.bipush 19, 2) := by decide +kernel
theorem zd_M_compose_50 : decode ze_M_compose 50 = .ok (.aload_n 0, 1) := by decide +kernel
theorem zd_M_compose_51 : decode ze_M_compose 51 = .ok (.getfield 13, 3) := by decide +kernel
theorem zd_M_compose_54 : decode ze_M_compose 54 = .ok (.iconst 4, 1) := by decide +kernel
theorem zd_M_compose_55 : decode ze_M_compose 55 = .ok (.laload, 1) := by decide +kernel
theorem zd_M_compose_56 : decode ze_M_compose 56 = .ok (.invokevirtual 183, 3) := by decide +kernel
theorem zd_M_compose_59 : decode ze_M_compose 59 = .ok (.aload_n 0, 1) := by decide +kernel
theorem zd_M_compose_60 : decode ze_M_compose 60 = .ok (.aload_n 0, 1) := by decide +kernel
theorem zd_M_compose_61 : decode ze_M_compose 61 = .ok (.getfield 35, 3) := by decide +kernel
theorem zd_M_compose_64 : decode ze_M_compose 64 = .ok (.aload_n 0, 1) := by decide +kernel
theorem zd_M_compose_65 : decode ze_M_compose 65 = .ok (.getfield 13, 3) := by decide +kernel
theorem zd_M_compose_68 : decode ze_M_compose 68 = .ok (.iconst 5, 1) := by decide +kernel
theorem zd_M_compose_69 : decode ze_M_compose 69 = .ok (.laload, 1) := by decide +kernel
theorem zd_M_compose_70 : decode ze_M_compose 70 = .ok (.l2i, 1) := by decide +kernel
theorem zd_M_compose_71 : decode ze_M_compose 71 = .ok (.laload, 1) := by decide +kernel
theorem zd_M_compose_72 : decode ze_M_compose 72 = .ok (.invokevirtual 172, 3) := by decide +kernel
theorem zd_M_compose_75 : decode ze_M_compose 75 = .ok (.aload_n 0, 1) := by decide +kernel
theorem zd_M_compose_76 : decode ze_M_compose 76 = .ok (.aload_n 0, 1) := by decide +kernel
theorem zd_M_compose_77 : decode ze_M_compose 77 = .ok (.getfield 50, 3) := by decide +kernel
theorem zd_M_compose_80 : decode ze_M_compose 80 = .ok (.aload_n 0, 1) := by decide +kernel
theorem zd_M_compose_81 : decode ze_M_compose 81 = .ok (.getfield 13, 3) := by decide +kernel
theorem zd_M_compose_84 : decode ze_M_compose 84 = .ok (.iconst 5, 1) := by decide +kernel
theorem zd_M_compose_85 : decode ze_M_compose 85 = .ok (.laload, 1) := by decide +kernel
theorem zd_M_compose_86 : decode ze_M_compose 86 = .ok (.l2i, 1) := by decide +kernel
theorem zd_M_compose_87 : decode ze_M_compose 87 = .ok (.laload, 1) := by decide +kernel
theorem zd_M_compose_88 : decode ze_M_compose 88 = .ok (.invokevirtual 172, 3) := by decide +kernel
theorem zd_M_compose_91 : decode ze_M_compose 91 = .ok (.aload_n 0, 1) := by decide +kernel
theorem zd_M_compose_92 : decode ze_M_compose 92 = .ok (.invokevirtual 187, 3) := by decide +kernel
theorem zd_M_compose_95 : decode ze_M_compose 95 = .ok (.aload_n 0, 1) := by decide +kernel
theorem zd_M_compose_96 : decode ze_M_compose 96 = .ok (.invokevirtual 190, 3) := by decide +kernel
theorem zd_M_compose_99 : decode ze_M_compose 99 = .ok (.ireturn, 1) := by decide +kernel
theorem zd_Tool_dropRevoked_0 : decode ze_Tool_dropRevoked 0 = .ok (.aload_n 0, 1) := by decide +kernel
theorem zd_Tool_dropRevoked_1 : decode ze_Tool_dropRevoked 1 = .ok (.iconst 0, 1) := by decide +kernel
theorem zd_Tool_dropRevoked_2 : decode ze_Tool_dropRevoked 2 = .ok (.putfield 25, 3) := by decide +kernel
theorem zd_Tool_dropRevoked_5 : decode ze_Tool_dropRevoked 5 = .ok (.return_, 1) := by decide +kernel
theorem zd_V_forgive_0 : decode ze_V_forgive 0 = .ok (.aload_n 0, 1) := by decide +kernel
theorem zd_V_forgive_1 : decode ze_V_forgive 1 = .ok (.getfield 19, 3) := by decide +kernel
theorem zd_V_forgive_4 : decode ze_V_forgive 4 = .ok (.invokevirtual 64, 3) := by decide +kernel
theorem zd_V_forgive_7 : decode ze_V_forgive 7 = .ok (.return_, 1) := by decide +kernel
theorem zd_M_forgive_0 : decode ze_M_forgive 0 = .ok (.aload_n 0, 1) := by decide +kernel
theorem zd_M_forgive_1 : decode ze_M_forgive 1 = .ok (.iconst 0, 1) := by decide +kernel
theorem zd_M_forgive_2 : decode ze_M_forgive 2 = .ok (.putfield 153, 3) := by decide +kernel
theorem zd_M_forgive_5 : decode ze_M_forgive 5 = .ok (.return_, 1) := by decide +kernel
theorem zd_Tool_addRevoked_0 : decode ze_Tool_addRevoked 0 = .ok (.lload_n 1, 1) := by decide +kernel
theorem zd_Tool_addRevoked_1 : decode ze_Tool_addRevoked 1 = .ok (.lconst 0, 1) := by decide +kernel
theorem zd_Tool_addRevoked_2 : decode ze_Tool_addRevoked 2 = .ok (.lcmp, 1) := by decide +kernel
theorem zd_Tool_addRevoked_3 : decode ze_Tool_addRevoked 3 = .ok (.ifCond .lt 17, 3) := by decide +kernel
theorem zd_Tool_addRevoked_6 : decode ze_Tool_addRevoked 6 = .ok (.lload_n 3, 1) := by decide +kernel
theorem zd_Tool_addRevoked_7 : decode ze_Tool_addRevoked 7 = .ok (.lconst 0, 1) := by decide +kernel
theorem zd_Tool_addRevoked_8 : decode ze_Tool_addRevoked 8 = .ok (.lcmp, 1) := by decide +kernel
theorem zd_Tool_addRevoked_9 : decode ze_Tool_addRevoked 9 = .ok (.ifCond .lt 11, 3) := by decide +kernel
theorem zd_Tool_addRevoked_12 : decode ze_Tool_addRevoked 12 = .ok (.aload_n 0, 1) := by decide +kernel
theorem zd_Tool_addRevoked_13 : decode ze_Tool_addRevoked 13 = .ok (.getfield 25, 3) := by decide +kernel
theorem zd_Tool_addRevoked_16 : decode ze_Tool_addRevoked 16 = .ok (.iconst 4, 1) := by decide +kernel
theorem zd_Tool_addRevoked_17 : decode ze_Tool_addRevoked 17 = .ok (.if_icmp .lt 5, 3) := by decide +kernel
theorem zd_Tool_addRevoked_20 : decode ze_Tool_addRevoked 20 = .ok (.iconst 0, 1) := by decide +kernel
theorem zd_Tool_addRevoked_21 : decode ze_Tool_addRevoked 21 = .ok (.ireturn, 1) := by decide +kernel
theorem zd_Tool_addRevoked_22 : decode ze_Tool_addRevoked 22 = .ok (.aload_n 0, 1) := by decide +kernel
theorem zd_Tool_addRevoked_23 : decode ze_Tool_addRevoked 23 = .ok (.getfield 19, 3) := by decide +kernel
theorem zd_Tool_addRevoked_26 : decode ze_Tool_addRevoked 26 = .ok (.aload_n 0, 1) := by decide +kernel
theorem zd_Tool_addRevoked_27 : decode ze_Tool_addRevoked 27 = .ok (.getfield 25, 3) := by decide +kernel
theorem zd_Tool_addRevoked_30 : decode ze_Tool_addRevoked 30 = .ok (.lload_n 1, 1) := by decide +kernel
theorem zd_Tool_addRevoked_31 : decode ze_Tool_addRevoked 31 = .ok (.lastore, 1) := by decide +kernel
theorem zd_Tool_addRevoked_32 : decode ze_Tool_addRevoked 32 = .ok (.aload_n 0, 1) := by decide +kernel
theorem zd_Tool_addRevoked_33 : decode ze_Tool_addRevoked 33 = .ok (.getfield 22, 3) := by decide +kernel
theorem zd_Tool_addRevoked_36 : decode ze_Tool_addRevoked 36 = .ok (.aload_n 0, 1) := by decide +kernel
theorem zd_Tool_addRevoked_37 : decode ze_Tool_addRevoked 37 = .ok (.getfield 25, 3) := by decide +kernel
theorem zd_Tool_addRevoked_40 : decode ze_Tool_addRevoked 40 = .ok (.lload_n 3, 1) := by decide +kernel
theorem zd_Tool_addRevoked_41 : decode ze_Tool_addRevoked 41 = .ok (.lastore, 1) := by decide +kernel
theorem zd_Tool_addRevoked_42 : decode ze_Tool_addRevoked 42 = .ok (.aload_n 0, 1) := by decide +kernel
theorem zd_Tool_addRevoked_43 : decode ze_Tool_addRevoked 43 = .ok (.dup, 1) := by decide +kernel
theorem zd_Tool_addRevoked_44 : decode ze_Tool_addRevoked 44 = .ok (.getfield 25, 3) := by decide +kernel
theorem zd_Tool_addRevoked_47 : decode ze_Tool_addRevoked 47 = .ok (.iconst 1, 1) := by decide +kernel
theorem zd_Tool_addRevoked_48 : decode ze_Tool_addRevoked 48 = .ok (.iadd, 1) := by decide +kernel
theorem zd_Tool_addRevoked_49 : decode ze_Tool_addRevoked 49 = .ok (.putfield 25, 3) := by decide +kernel
theorem zd_Tool_addRevoked_52 : decode ze_Tool_addRevoked 52 = .ok (.iconst 1, 1) := by decide +kernel
theorem zd_Tool_addRevoked_53 : decode ze_Tool_addRevoked 53 = .ok (.ireturn, 1) := by decide +kernel
theorem zd_V_revoke_0 : decode ze_V_revoke 0 = .ok (.aload_n 0, 1) := by decide +kernel
theorem zd_V_revoke_1 : decode ze_V_revoke 1 = .ok (.getfield 19, 3) := by decide +kernel
theorem zd_V_revoke_4 : decode ze_V_revoke 4 = .ok (.lload_n 1, 1) := by decide +kernel
theorem zd_V_revoke_5 : decode ze_V_revoke 5 = .ok (.lload_n 3, 1) := by decide +kernel
theorem zd_V_revoke_6 : decode ze_V_revoke 6 = .ok (.invokevirtual 60, 3) := by decide +kernel
theorem zd_V_revoke_9 : decode ze_V_revoke 9 = .ok (.ireturn, 1) := by decide +kernel
theorem zd_M_revoke_0 : decode ze_M_revoke 0 = .ok (.lload_n 1, 1) := by decide +kernel
theorem zd_M_revoke_1 : decode ze_M_revoke 1 = .ok (.lconst 0, 1) := by decide +kernel
theorem zd_M_revoke_2 : decode ze_M_revoke 2 = .ok (.lcmp, 1) := by decide +kernel
theorem zd_M_revoke_3 : decode ze_M_revoke 3 = .ok (.ifCond .lt 17, 3) := by decide +kernel
theorem zd_M_revoke_6 : decode ze_M_revoke 6 = .ok (.lload_n 3, 1) := by decide +kernel
theorem zd_M_revoke_7 : decode ze_M_revoke 7 = .ok (.lconst 0, 1) := by decide +kernel
theorem zd_M_revoke_8 : decode ze_M_revoke 8 = .ok (.lcmp, 1) := by decide +kernel
theorem zd_M_revoke_9 : decode ze_M_revoke 9 = .ok (.ifCond .lt 11, 3) := by decide +kernel
theorem zd_M_revoke_12 : decode ze_M_revoke 12 = .ok (.aload_n 0, 1) := by decide +kernel
theorem zd_M_revoke_13 : decode ze_M_revoke 13 = .ok (.getfield 153, 3) := by decide +kernel
theorem zd_M_revoke_16 : decode ze_M_revoke 16 = .ok (.iconst 4, 1) := by decide +kernel
theorem zd_M_revoke_17 : decode ze_M_revoke 17 = .ok (.if_icmp .ne 5, 3) := by decide +kernel
theorem zd_M_revoke_20 : decode ze_M_revoke 20 = .ok (.iconst 0, 1) := by decide +kernel
theorem zd_M_revoke_21 : decode ze_M_revoke 21 = .ok (.ireturn, 1) := by decide +kernel
theorem zd_M_revoke_22 : decode ze_M_revoke 22 = .ok (.aload_n 0, 1) := by decide +kernel
theorem zd_M_revoke_23 : decode ze_M_revoke 23 = .ok (.getfield 17, 3) := by decide +kernel
theorem zd_M_revoke_26 : decode ze_M_revoke 26 = .ok (.aload_n 0, 1) := by decide +kernel
theorem zd_M_revoke_27 : decode ze_M_revoke 27 = .ok (.getfield 153, 3) := by decide +kernel
theorem zd_M_revoke_30 : decode ze_M_revoke 30 = .ok (.lload_n 1, 1) := by decide +kernel
theorem zd_M_revoke_31 : decode ze_M_revoke 31 = .ok (.lastore, 1) := by decide +kernel
theorem zd_M_revoke_32 : decode ze_M_revoke 32 = .ok (.aload_n 0, 1) := by decide +kernel
theorem zd_M_revoke_33 : decode ze_M_revoke 33 = .ok (.getfield 20, 3) := by decide +kernel
theorem zd_M_revoke_36 : decode ze_M_revoke 36 = .ok (.aload_n 0, 1) := by decide +kernel
theorem zd_M_revoke_37 : decode ze_M_revoke 37 = .ok (.getfield 153, 3) := by decide +kernel
theorem zd_M_revoke_40 : decode ze_M_revoke 40 = .ok (.lload_n 3, 1) := by decide +kernel
theorem zd_M_revoke_41 : decode ze_M_revoke 41 = .ok (.lastore, 1) := by decide +kernel
theorem zd_M_revoke_42 : decode ze_M_revoke 42 = .ok (.aload_n 0, 1) := by decide +kernel
theorem zd_M_revoke_43 : decode ze_M_revoke 43 = .ok (.dup, 1) := by decide +kernel
theorem zd_M_revoke_44 : decode ze_M_revoke 44 = .ok (.getfield 153, 3) := by decide +kernel
theorem zd_M_revoke_47 : decode ze_M_revoke 47 = .ok (.iconst 1, 1) := by decide +kernel
theorem zd_M_revoke_48 : decode ze_M_revoke 48 = .ok (.iadd, 1) := by decide +kernel
theorem zd_M_revoke_49 : decode ze_M_revoke 49 = .ok (.putfield 153, 3) := by decide +kernel
theorem zd_M_revoke_52 : decode ze_M_revoke 52 = .ok (.iconst 1, 1) := by decide +kernel
theorem zd_M_revoke_53 : decode ze_M_revoke 53 = .ok (.ireturn, 1) := by decide +kernel
theorem zd_Tool_isAllowed_0 : decode ze_Tool_isAllowed 0 = .ok (.iload_n 0, 1) := by decide +kernel
theorem zd_Tool_isAllowed_1 : decode ze_Tool_isAllowed 1 = .ok (.tableswitch 198 0 12 #[67, 79, 67, 67, 79, 84, 89, 109, 131, 159, 159, 178, 84], 67) := by decide +kernel
theorem zd_Tool_isAllowed_68 : decode ze_Tool_isAllowed 68 = .ok (.lload_n 1, 1) := by decide +kernel
theorem zd_Tool_isAllowed_69 : decode ze_Tool_isAllowed 69 = .ok (.lconst 0, 1) := by decide +kernel
theorem zd_Tool_isAllowed_70 : decode ze_Tool_isAllowed 70 = .ok (.lcmp, 1) := by decide +kernel
theorem zd_Tool_isAllowed_71 : decode ze_Tool_isAllowed 71 = .ok (.ifCond .lt 7, 3) := by decide +kernel
theorem zd_Tool_isAllowed_74 : decode ze_Tool_isAllowed 74 = .ok (.iconst 1, 1) := by decide +kernel
theorem zd_Tool_isAllowed_75 : decode ze_Tool_isAllowed 75 = .ok (.goto 4, 3) := by decide +kernel
theorem zd_Tool_isAllowed_78 : decode ze_Tool_isAllowed 78 = .ok (.iconst 0, 1) := by decide +kernel
theorem zd_Tool_isAllowed_79 : decode ze_Tool_isAllowed 79 = .ok (.ireturn, 1) := by decide +kernel
theorem zd_Tool_isAllowed_80 : decode ze_Tool_isAllowed 80 = .ok (.lload_n 1, 1) := by decide +kernel
theorem zd_Tool_isAllowed_81 : decode ze_Tool_isAllowed 81 = .ok (.invokestatic 33, 3) := by decide +kernel
theorem zd_Tool_isAllowed_84 : decode ze_Tool_isAllowed 84 = .ok (.ireturn, 1) := by decide +kernel
theorem zd_Tool_isAllowed_85 : decode ze_Tool_isAllowed 85 = .ok (.lload_n 1, 1) := by decide +kernel
theorem zd_Tool_isAllowed_86 : decode ze_Tool_isAllowed 86 = .ok (.invokestatic 39, 3) := by decide +kernel
theorem zd_Tool_isAllowed_89 : decode ze_Tool_isAllowed 89 = .ok (.ireturn, 1) := by decide +kernel
theorem zd_Tool_isAllowed_90 : decode ze_Tool_isAllowed 90 = .ok (.lload_n 1, 1) := by decide +kernel
theorem zd_Tool_isAllowed_91 : decode ze_Tool_isAllowed 91 = .ok (.ldc2_w 11, 3) := by decide +kernel
theorem zd_Tool_isAllowed_94 : decode ze_Tool_isAllowed 94 = .ok (.lcmp, 1) := by decide +kernel
theorem zd_Tool_isAllowed_95 : decode ze_Tool_isAllowed 95 = .ok (.ifCond .lt 13, 3) := by decide +kernel
theorem zd_Tool_isAllowed_98 : decode ze_Tool_isAllowed 98 = .ok (.lload_n 1, 1) := by decide +kernel
theorem zd_Tool_isAllowed_99 : decode ze_Tool_isAllowed 99 = .ok (.lconst 1, 1) := by decide +kernel
theorem zd_Tool_isAllowed_100 : decode ze_Tool_isAllowed 100 = .ok (.lcmp, 1) := by decide +kernel
theorem zd_Tool_isAllowed_101 : decode ze_Tool_isAllowed 101 = .ok (.ifCond .gt 7, 3) := by decide +kernel
theorem zd_Tool_isAllowed_104 : decode ze_Tool_isAllowed 104 = .ok (.iconst 1, 1) := by decide +kernel
theorem zd_Tool_isAllowed_105 : decode ze_Tool_isAllowed 105 = .ok (.goto 4, 3) := by decide +kernel
theorem zd_Tool_isAllowed_108 : decode ze_Tool_isAllowed 108 = .ok (.iconst 0, 1) := by decide +kernel
theorem zd_Tool_isAllowed_109 : decode ze_Tool_isAllowed 109 = .ok (.ireturn, 1) := by decide +kernel
theorem zd_Tool_isAllowed_110 : decode ze_Tool_isAllowed 110 = .ok (.lload_n 1, 1) := by decide +kernel
theorem zd_Tool_isAllowed_111 : decode ze_Tool_isAllowed 111 = .ok (.ldc2_w 11, 3) := by decide +kernel
theorem zd_Tool_isAllowed_114 : decode ze_Tool_isAllowed 114 = .ok (.lcmp, 1) := by decide +kernel
theorem zd_Tool_isAllowed_115 : decode ze_Tool_isAllowed 115 = .ok (.ifCond .lt 15, 3) := by decide +kernel
theorem zd_Tool_isAllowed_118 : decode ze_Tool_isAllowed 118 = .ok (.lload_n 1, 1) := by decide +kernel
theorem zd_Tool_isAllowed_119 : decode ze_Tool_isAllowed 119 = .ok (.ldc2_w 44, 3) := by decide +kernel
theorem zd_Tool_isAllowed_122 : decode ze_Tool_isAllowed 122 = .ok (.lcmp, 1) := by decide +kernel
theorem zd_Tool_isAllowed_123 : decode ze_Tool_isAllowed 123 = .ok (.ifCond .gt 7, 3) := by decide +kernel
theorem zd_Tool_isAllowed_126 : decode ze_Tool_isAllowed 126 = .ok (.iconst 1, 1) := by decide +kernel
theorem zd_Tool_isAllowed_127 : decode ze_Tool_isAllowed 127 = .ok (.goto 4, 3) := by decide +kernel
theorem zd_Tool_isAllowed_130 : decode ze_Tool_isAllowed 130 = .ok (.iconst 0, 1) := by decide +kernel
theorem zd_Tool_isAllowed_131 : decode ze_Tool_isAllowed 131 = .ok (.ireturn, 1) := by decide +kernel
theorem zd_Tool_isAllowed_132 : decode ze_Tool_isAllowed 132 = .ok (.lload_n 1, 1) := by decide +kernel
theorem zd_Tool_isAllowed_133 : decode ze_Tool_isAllowed 133 = .ok (.ldc2_w 11, 3) := by decide +kernel
theorem zd_Tool_isAllowed_136 : decode ze_Tool_isAllowed 136 = .ok (.lcmp, 1) := by decide +kernel
theorem zd_Tool_isAllowed_137 : decode ze_Tool_isAllowed 137 = .ok (.ifCond .eq 17, 3) := by decide +kernel
theorem zd_Tool_isAllowed_140 : decode ze_Tool_isAllowed 140 = .ok (.lload_n 1, 1) := by decide +kernel
theorem zd_Tool_isAllowed_141 : decode ze_Tool_isAllowed 141 = .ok (.lconst 1, 1) := by decide +kernel
theorem zd_Tool_isAllowed_142 : decode ze_Tool_isAllowed 142 = .ok (.lcmp, 1) := by decide +kernel
theorem zd_Tool_isAllowed_143 : decode ze_Tool_isAllowed 143 = .ok (.ifCond .lt 15, 3) := by decide +kernel
theorem zd_Tool_isAllowed_146 : decode ze_Tool_isAllowed 146 = .ok (.lload_n 1, 1) := by decide +kernel
theorem zd_Tool_isAllowed_147 : decode ze_Tool_isAllowed 147 = .ok (.ldc2_w 46, 3) := by decide +kernel
theorem zd_Tool_isAllowed_150 : decode ze_Tool_isAllowed 150 = .ok (.lcmp, 1) := by decide +kernel
theorem zd_Tool_isAllowed_151 : decode ze_Tool_isAllowed 151 = .ok (.ifCond .gt 7, 3) := by decide +kernel
theorem zd_Tool_isAllowed_154 : decode ze_Tool_isAllowed 154 = .ok (.iconst 1, 1) := by decide +kernel
theorem zd_Tool_isAllowed_155 : decode ze_Tool_isAllowed 155 = .ok (.goto 4, 3) := by decide +kernel
theorem zd_Tool_isAllowed_158 : decode ze_Tool_isAllowed 158 = .ok (.iconst 0, 1) := by decide +kernel
theorem zd_Tool_isAllowed_159 : decode ze_Tool_isAllowed 159 = .ok (.ireturn, 1) := by decide +kernel
theorem zd_Tool_isAllowed_160 : decode ze_Tool_isAllowed 160 = .ok (.lload_n 1, 1) := by decide +kernel
theorem zd_Tool_isAllowed_161 : decode ze_Tool_isAllowed 161 = .ok (.lconst 0, 1) := by decide +kernel
theorem zd_Tool_isAllowed_162 : decode ze_Tool_isAllowed 162 = .ok (.lcmp, 1) := by decide +kernel
theorem zd_Tool_isAllowed_163 : decode ze_Tool_isAllowed 163 = .ok (.ifCond .eq 10, 3) := by decide +kernel
theorem zd_Tool_isAllowed_166 : decode ze_Tool_isAllowed 166 = .ok (.lload_n 1, 1) := by decide +kernel
theorem zd_Tool_isAllowed_167 : decode ze_Tool_isAllowed 167 = .ok (.invokestatic 33, 3) := by decide +kernel
theorem zd_Tool_isAllowed_170 : decode ze_Tool_isAllowed 170 = .ok (.ifCond .eq 7, 3) := by decide +kernel
theorem zd_Tool_isAllowed_173 : decode ze_Tool_isAllowed 173 = .ok (.iconst 1, 1) := by decide +kernel
theorem zd_Tool_isAllowed_174 : decode ze_Tool_isAllowed 174 = .ok (.goto 4, 3) := by decide +kernel
theorem zd_Tool_isAllowed_177 : decode ze_Tool_isAllowed 177 = .ok (.iconst 0, 1) := by decide +kernel
theorem zd_Tool_isAllowed_178 : decode ze_Tool_isAllowed 178 = .ok (.ireturn, 1) := by decide +kernel
theorem zd_Tool_isAllowed_179 : decode ze_Tool_isAllowed 179 = .ok (.lload_n 1, 1) := by decide +kernel
theorem zd_Tool_isAllowed_180 : decode ze_Tool_isAllowed 180 = .ok (.lconst 0, 1) := by decide +kernel
theorem zd_Tool_isAllowed_181 : decode ze_Tool_isAllowed 181 = .ok (.lcmp, 1) := by decide +kernel
theorem zd_Tool_isAllowed_182 : decode ze_Tool_isAllowed 182 = .ok (.ifCond .lt 15, 3) := by decide +kernel
theorem zd_Tool_isAllowed_185 : decode ze_Tool_isAllowed 185 = .ok (.lload_n 1, 1) := by decide +kernel
theorem zd_Tool_isAllowed_186 : decode ze_Tool_isAllowed 186 = .ok (.ldc2_w 48, 3) := by decide +kernel
theorem zd_Tool_isAllowed_189 : decode ze_Tool_isAllowed 189 = .ok (.lcmp, 1) := by decide +kernel
theorem zd_Tool_isAllowed_190 : decode ze_Tool_isAllowed 190 = .ok (.ifCond .gt 7, 3) := by decide +kernel
theorem zd_Tool_isAllowed_193 : decode ze_Tool_isAllowed 193 = .ok (.iconst 1, 1) := by decide +kernel
theorem zd_Tool_isAllowed_194 : decode ze_Tool_isAllowed 194 = .ok (.goto 4, 3) := by decide +kernel
theorem zd_Tool_isAllowed_197 : decode ze_Tool_isAllowed 197 = .ok (.iconst 0, 1) := by decide +kernel
theorem zd_Tool_isAllowed_198 : decode ze_Tool_isAllowed 198 = .ok (.ireturn, 1) := by decide +kernel
theorem zd_Tool_isAllowed_199 : decode ze_Tool_isAllowed 199 = .ok (.iconst 0, 1) := by decide +kernel
theorem zd_Tool_isAllowed_200 : decode ze_Tool_isAllowed 200 = .ok (.ireturn, 1) := by decide +kernel
theorem zd_Tool_accept_0 : decode ze_Tool_accept 0 = .ok (.iload_n 1, 1) := by decide +kernel
theorem zd_Tool_accept_1 : decode ze_Tool_accept 1 = .ok (.lload_n 2, 1) := by decide +kernel
theorem zd_Tool_accept_2 : decode ze_Tool_accept 2 = .ok (.invokestatic 29, 3) := by decide +kernel
theorem zd_Tool_accept_5 : decode ze_Tool_accept 5 = .ok (.ifCond .ne 5, 3) := by decide +kernel
theorem zd_Tool_accept_8 : decode ze_Tool_accept 8 = .ok (.iconst 0, 1) := by decide +kernel
theorem zd_Tool_accept_9 : decode ze_Tool_accept 9 = .ok (.ireturn, 1) := by decide +kernel
theorem zd_Tool_accept_10 : decode ze_Tool_accept 10 = .ok (.aload_n 0, 1) := by decide +kernel
theorem zd_Tool_accept_11 : decode ze_Tool_accept 11 = .ok (.getfield 13, 3) := by decide +kernel
theorem zd_Tool_accept_14 : decode ze_Tool_accept 14 = .ok (.iload_n 1, 1) := by decide +kernel
theorem zd_Tool_accept_15 : decode ze_Tool_accept 15 = .ok (.lload_n 2, 1) := by decide +kernel
theorem zd_Tool_accept_16 : decode ze_Tool_accept 16 = .ok (.lastore, 1) := by decide +kernel
theorem zd_Tool_accept_17 : decode ze_Tool_accept 17 = .ok (.iconst 1, 1) := by decide +kernel
theorem zd_Tool_accept_18 : decode ze_Tool_accept 18 = .ok (.ireturn, 1) := by decide +kernel
theorem zd_V_set_0 : decode ze_V_set 0 = .ok (.aload_n 0, 1) := by decide +kernel
theorem zd_V_set_1 : decode ze_V_set 1 = .ok (.getfield 19, 3) := by decide +kernel
theorem zd_V_set_4 : decode ze_V_set 4 = .ok (.iload_n 1, 1) := by decide +kernel
theorem zd_V_set_5 : decode ze_V_set 5 = .ok (.lload_n 2, 1) := by decide +kernel
theorem zd_V_set_6 : decode ze_V_set 6 = .ok (.invokevirtual 56, 3) := by decide +kernel
theorem zd_V_set_9 : decode ze_V_set 9 = .ok (.ireturn, 1) := by decide +kernel
theorem zd_M_set_0 : decode ze_M_set 0 = .ok (.iload_n 1, 1) := by decide +kernel
theorem zd_M_set_1 : decode ze_M_set 1 = .ok (.tableswitch 198 0 12 #[67, 83, 67, 67, 83, 92, 105, 118, 133, 162, 162, 185, 92], 67) := by decide +kernel
theorem zd_M_set_68 : decode ze_M_set 68 = .ok (.lload_n 2, 1) := by decide +kernel
theorem zd_M_set_69 : decode ze_M_set 69 = .ok (.lconst 0, 1) := by decide +kernel
theorem zd_M_set_70 : decode ze_M_set 70 = .ok (.lcmp, 1) := by decide +kernel
theorem zd_M_set_71 : decode ze_M_set 71 = .ok (.ifCond .lt 7, 3) := by decide +kernel
theorem zd_M_set_74 : decode ze_M_set 74 = .ok (.iconst 1, 1) := by decide +kernel
theorem zd_M_set_75 : decode ze_M_set 75 = .ok (.goto 4, 3) := by decide +kernel
theorem zd_M_set_78 : decode ze_M_set 78 = .ok (.iconst 0, 1) := by decide +kernel
theorem zd_M_set_79 : decode ze_M_set 79 = .ok (.istore 4, 2) := by decide +kernel
theorem zd_M_set_81 : decode ze_M_set 81 = .ok (.goto 120, 3) := by decide +kernel
theorem zd_M_set_84 : decode ze_M_set 84 = .ok (.lload_n 2, 1) := by decide +kernel
theorem zd_M_set_85 : decode ze_M_set 85 = .ok (.invokestatic 145, 3) := by decide +kernel
theorem zd_M_set_88 : decode ze_M_set 88 = .ok (.istore 4, 2) := by decide +kernel
theorem zd_M_set_90 : decode ze_M_set 90 = .ok (.goto 111, 3) := by decide +kernel
theorem zd_M_set_93 : decode ze_M_set 93 = .ok (.lload_n 2, 1) := by decide +kernel
theorem zd_M_set_94 : decode ze_M_set 94 = .ok (.lconst 0, 1) := by decide +kernel
theorem zd_M_set_95 : decode ze_M_set 95 = .ok (.ldc2_w 46, 3) := by decide +kernel
theorem zd_M_set_98 : decode ze_M_set 98 = .ok (.invokestatic 125, 3) := by decide +kernel
theorem zd_M_set_101 : decode ze_M_set 101 = .ok (.istore 4, 2) := by decide +kernel
theorem zd_M_set_103 : decode ze_M_set 103 = .ok (.goto 98, 3) := by decide +kernel
theorem zd_M_set_106 : decode ze_M_set 106 = .ok (.lload_n 2, 1) := by decide +kernel
theorem zd_M_set_107 : decode ze_M_set 107 = .ok (.ldc2_w 100, 3) := by decide +kernel
theorem zd_M_set_110 : decode ze_M_set 110 = .ok (.lconst 1, 1) := by decide +kernel
theorem zd_M_set_111 : decode ze_M_set 111 = .ok (.invokestatic 125, 3) := by decide +kernel
theorem zd_M_set_114 : decode ze_M_set 114 = .ok (.istore 4, 2) := by decide +kernel
theorem zd_M_set_116 : decode ze_M_set 116 = .ok (.goto 85, 3) := by decide +kernel
theorem zd_M_set_119 : decode ze_M_set 119 = .ok (.lload_n 2, 1) := by decide +kernel
theorem zd_M_set_120 : decode ze_M_set 120 = .ok (.ldc2_w 100, 3) := by decide +kernel
theorem zd_M_set_123 : decode ze_M_set 123 = .ok (.ldc2_w 149, 3) := by decide +kernel
theorem zd_M_set_126 : decode ze_M_set 126 = .ok (.invokestatic 125, 3) := by decide +kernel
theorem zd_M_set_129 : decode ze_M_set 129 = .ok (.istore 4, 2) := by decide +kernel
theorem zd_M_set_131 : decode ze_M_set 131 = .ok (.goto 70, 3) := by decide +kernel
theorem zd_M_set_134 : decode ze_M_set 134 = .ok (.lload_n 2, 1) := by decide +kernel
theorem zd_M_set_135 : decode ze_M_set 135 = .ok (.ldc2_w 100, 3) := by decide +kernel
theorem zd_M_set_138 : decode ze_M_set 138 = .ok (.lcmp, 1) := by decide +kernel
theorem zd_M_set_139 : decode ze_M_set 139 = .ok (.ifCond .eq 14, 3) := by decide +kernel
theorem zd_M_set_142 : decode ze_M_set 142 = .ok (.lload_n 2, 1) := by decide +kernel
theorem zd_M_set_143 : decode ze_M_set 143 = .ok (.lconst 1, 1) := by decide +kernel
theorem zd_M_set_144 : decode ze_M_set 144 = .ok (.ldc2_w 151, 3) := by decide +kernel
theorem zd_M_set_147 : decode ze_M_set 147 = .ok (.invokestatic 125, 3) := by decide +kernel
theorem zd_M_set_150 : decode ze_M_set 150 = .ok (.ifCond .eq 7, 3) := by decide +kernel
theorem zd_M_set_153 : decode ze_M_set 153 = .ok (.iconst 1, 1) := by decide +kernel
theorem zd_M_set_154 : decode ze_M_set 154 = .ok (.goto 4, 3) := by decide +kernel
theorem zd_M_set_157 : decode ze_M_set 157 = .ok (.iconst 0, 1) := by decide +kernel
theorem zd_M_set_158 : decode ze_M_set 158 = .ok (.istore 4, 2) := by decide +kernel
theorem zd_M_set_160 : decode ze_M_set 160 = .ok (.goto 41, 3) := by decide +kernel
theorem zd_M_set_163 : decode ze_M_set 163 = .ok (.lload_n 2, 1) := by decide +kernel
theorem zd_M_set_164 : decode ze_M_set 164 = .ok (.lconst 0, 1) := by decide +kernel
theorem zd_M_set_165 : decode ze_M_set 165 = .ok (.lcmp, 1) := by decide +kernel
theorem zd_M_set_166 : decode ze_M_set 166 = .ok (.ifCond .eq 10, 3) := by decide +kernel
theorem zd_M_set_169 : decode ze_M_set 169 = .ok (.lload_n 2, 1) := by decide +kernel
theorem zd_M_set_170 : decode ze_M_set 170 = .ok (.invokestatic 145, 3) := by decide +kernel
theorem zd_M_set_173 : decode ze_M_set 173 = .ok (.ifCond .eq 7, 3) := by decide +kernel
theorem zd_M_set_176 : decode ze_M_set 176 = .ok (.iconst 1, 1) := by decide +kernel
theorem zd_M_set_177 : decode ze_M_set 177 = .ok (.goto 4, 3) := by decide +kernel
theorem zd_M_set_180 : decode ze_M_set 180 = .ok (.iconst 0, 1) := by decide +kernel
theorem zd_M_set_181 : decode ze_M_set 181 = .ok (.istore 4, 2) := by decide +kernel
theorem zd_M_set_183 : decode ze_M_set 183 = .ok (.goto 18, 3) := by decide +kernel
theorem zd_M_set_186 : decode ze_M_set 186 = .ok (.lload_n 2, 1) := by decide +kernel
theorem zd_M_set_187 : decode ze_M_set 187 = .ok (.lconst 0, 1) := by decide +kernel
theorem zd_M_set_188 : decode ze_M_set 188 = .ok (.ldc2_w 119, 3) := by decide +kernel
theorem zd_M_set_191 : decode ze_M_set 191 = .ok (.invokestatic 125, 3) := by decide +kernel
theorem zd_M_set_194 : decode ze_M_set 194 = .ok (.istore 4, 2) := by decide +kernel
theorem zd_M_set_196 : decode ze_M_set 196 = .ok (.goto 5, 3) := by decide +kernel
theorem zd_M_set_199 : decode ze_M_set 199 = .ok (.iconst 0, 1) := by decide +kernel
theorem zd_M_set_200 : decode ze_M_set 200 = .ok (.ireturn, 1) := by decide +kernel
theorem zd_M_set_201 : decode ze_M_set 201 = .ok (.iload 4, 2) := by decide +kernel
theorem zd_M_set_203 : decode ze_M_set 203 = .ok (.ifCond .eq 10, 3) := by decide +kernel
theorem zd_M_set_206 : decode ze_M_set 206 = .ok (.aload_n 0, 1) := by decide +kernel
theorem zd_M_set_207 : decode ze_M_set 207 = .ok (.getfield 13, 3) := by decide +kernel
theorem zd_M_set_210 : decode ze_M_set 210 = .ok (.iload_n 1, 1) := by decide +kernel
theorem zd_M_set_211 : decode ze_M_set 211 = .ok (.lload_n 2, 1) := by decide +kernel
theorem zd_M_set_212 : decode ze_M_set 212 = .ok (.lastore, 1) := by decide +kernel
theorem zd_M_set_213 : decode ze_M_set 213 = .ok (.iload 4, 2) := by decide +kernel
theorem zd_M_set_215 : decode ze_M_set 215 = .ok (.ireturn, 1) := by decide +kernel
theorem zd_Draft_has_0 : decode ze_Draft_has 0 = .ok (.iload_n 1, 1) := by decide +kernel
theorem zd_Draft_has_1 : decode ze_Draft_has 1 = .ok (.ifCond .lt 15, 3) := by decide +kernel
theorem zd_Draft_has_4 : decode ze_Draft_has 4 = .ok (.iload_n 1, 1) := by decide +kernel
theorem zd_Draft_has_5 : decode ze_Draft_has 5 = .ok (.aload_n 0, 1) := by decide +kernel
theorem zd_Draft_has_6 : decode ze_Draft_has 6 = .ok (.getfield 15, 3) := by decide +kernel
theorem zd_Draft_has_9 : decode ze_Draft_has 9 = .ok (.if_icmp .ge 7, 3) := by decide +kernel
theorem zd_Draft_has_12 : decode ze_Draft_has 12 = .ok (.iconst 1, 1) := by decide +kernel
theorem zd_Draft_has_13 : decode ze_Draft_has 13 = .ok (.goto 4, 3) := by decide +kernel
theorem zd_Draft_has_16 : decode ze_Draft_has 16 = .ok (.iconst 0, 1) := by decide +kernel
theorem zd_Draft_has_17 : decode ze_Draft_has 17 = .ok (.ireturn, 1) := by decide +kernel
theorem zd_V_at_0 : decode ze_V_at 0 = .ok (.iload_n 1, 1) := by decide +kernel
theorem zd_V_at_1 : decode ze_V_at 1 = .ok (.iconst (-1), 1) := by decide +kernel
theorem zd_V_at_2 : decode ze_V_at 2 = .ok (.if_icmp .ne 11, 3) := by decide +kernel
theorem zd_V_at_5 : decode ze_V_at 5 = .ok (.aload_n 0, 1) := by decide +kernel
theorem zd_V_at_6 : decode ze_V_at 6 = .ok (.getfield 10, 3) := by decide +kernel
theorem zd_V_at_9 : decode ze_V_at 9 = .ok (.getfield 45, 3) := by decide +kernel
theorem zd_V_at_12 : decode ze_V_at 12 = .ok (.ireturn, 1) := by decide +kernel
theorem zd_V_at_13 : decode ze_V_at 13 = .ok (.aload_n 0, 1) := by decide +kernel
theorem zd_V_at_14 : decode ze_V_at 14 = .ok (.getfield 10, 3) := by decide +kernel
theorem zd_V_at_17 : decode ze_V_at 17 = .ok (.iload_n 1, 1) := by decide +kernel
theorem zd_V_at_18 : decode ze_V_at 18 = .ok (.invokevirtual 49, 3) := by decide +kernel
theorem zd_V_at_21 : decode ze_V_at 21 = .ok (.ifCond .eq 15, 3) := by decide +kernel
theorem zd_V_at_24 : decode ze_V_at 24 = .ok (.aload_n 0, 1) := by decide +kernel
theorem zd_V_at_25 : decode ze_V_at 25 = .ok (.getfield 10, 3) := by decide +kernel
theorem zd_V_at_28 : decode ze_V_at 28 = .ok (.getfield 52, 3) := by decide +kernel
theorem zd_V_at_31 : decode ze_V_at 31 = .ok (.iload_n 1, 1) := by decide +kernel
theorem zd_V_at_32 : decode ze_V_at 32 = .ok (.iaload, 1) := by decide +kernel
theorem zd_V_at_33 : decode ze_V_at 33 = .ok (.goto 4, 3) := by decide +kernel
theorem zd_V_at_36 : decode ze_V_at 36 = .ok (.iconst (-1), 1) := by decide +kernel
theorem zd_V_at_37 : decode ze_V_at 37 = .ok (.ireturn, 1) := by decide +kernel
theorem zd_M_at_0 : decode ze_M_at 0 = .ok (.iload_n 1, 1) := by decide +kernel
theorem zd_M_at_1 : decode ze_M_at 1 = .ok (.iconst (-1), 1) := by decide +kernel
theorem zd_M_at_2 : decode ze_M_at 2 = .ok (.if_icmp .ne 10, 3) := by decide +kernel
theorem zd_M_at_5 : decode ze_M_at 5 = .ok (.aload_n 0, 1) := by decide +kernel
theorem zd_M_at_6 : decode ze_M_at 6 = .ok (.getfield 141, 3) := by decide +kernel
theorem zd_M_at_9 : decode ze_M_at 9 = .ok (.goto 25, 3) := by decide +kernel
theorem zd_M_at_12 : decode ze_M_at 12 = .ok (.iload_n 1, 1) := by decide +kernel
theorem zd_M_at_13 : decode ze_M_at 13 = .ok (.ifCond .lt 11, 3) := by decide +kernel
theorem zd_M_at_16 : decode ze_M_at 16 = .ok (.iload_n 1, 1) := by decide +kernel
theorem zd_M_at_17 : decode ze_M_at 17 = .ok (.aload_n 0, 1) := by decide +kernel
theorem zd_M_at_18 : decode ze_M_at 18 = .ok (.getfield 141, 3) := by decide +kernel
theorem zd_M_at_21 : decode ze_M_at 21 = .ok (.if_icmp .lt 7, 3) := by decide +kernel
theorem zd_M_at_24 : decode ze_M_at 24 = .ok (.iconst (-1), 1) := by decide +kernel
theorem zd_M_at_25 : decode ze_M_at 25 = .ok (.goto 9, 3) := by decide +kernel
theorem zd_M_at_28 : decode ze_M_at 28 = .ok (.aload_n 0, 1) := by decide +kernel
theorem zd_M_at_29 : decode ze_M_at 29 = .ok (.getfield 7, 3) := by decide +kernel
theorem zd_M_at_32 : decode ze_M_at 32 = .ok (.iload_n 1, 1) := by decide +kernel
theorem zd_M_at_33 : decode ze_M_at 33 = .ok (.iaload, 1) := by decide +kernel
theorem zd_M_at_34 : decode ze_M_at 34 = .ok (.ireturn, 1) := by decide +kernel
theorem zd_V_clear_0 : decode ze_V_clear 0 = .ok (.aload_n 0, 1) := by decide +kernel
theorem zd_V_clear_1 : decode ze_V_clear 1 = .ok (.getfield 10, 3) := by decide +kernel
theorem zd_V_clear_4 : decode ze_V_clear 4 = .ok (.invokevirtual 42, 3) := by decide +kernel
theorem zd_V_clear_7 : decode ze_V_clear 7 = .ok (.return_, 1) := by decide +kernel
theorem zd_M_clear_0 : decode ze_M_clear 0 = .ok (.aload_n 0, 1) := by decide +kernel
theorem zd_M_clear_1 : decode ze_M_clear 1 = .ok (.iconst 0, 1) := by decide +kernel
theorem zd_M_clear_2 : decode ze_M_clear 2 = .ok (.putfield 141, 3) := by decide +kernel
theorem zd_M_clear_5 : decode ze_M_clear 5 = .ok (.return_, 1) := by decide +kernel
theorem zd_Draft_replace_0 : decode ze_Draft_replace 0 = .ok (.aload_n 0, 1) := by decide +kernel
theorem zd_Draft_replace_1 : decode ze_Draft_replace 1 = .ok (.iload_n 1, 1) := by decide +kernel
theorem zd_Draft_replace_2 : decode ze_Draft_replace 2 = .ok (.invokevirtual 23, 3) := by decide +kernel
theorem zd_Draft_replace_5 : decode ze_Draft_replace 5 = .ok (.ifCond .eq 10, 3) := by decide +kernel
theorem zd_Draft_replace_8 : decode ze_Draft_replace 8 = .ok (.iload_n 2, 1) := by decide +kernel
theorem zd_Draft_replace_9 : decode ze_Draft_replace 9 = .ok (.invokestatic 19, 3) := by decide +kernel
theorem zd_Draft_replace_12 : decode ze_Draft_replace 12 = .ok (.ifCond .ne 5, 3) := by decide +kernel
theorem zd_Draft_replace_15 : decode ze_Draft_replace 15 = .ok (.iconst 0, 1) := by decide +kernel
theorem zd_Draft_replace_16 : decode ze_Draft_replace 16 = .ok (.ireturn, 1) := by decide +kernel
theorem zd_Draft_replace_17 : decode ze_Draft_replace 17 = .ok (.aload_n 0, 1) := by decide +kernel
theorem zd_Draft_replace_18 : decode ze_Draft_replace 18 = .ok (.getfield 11, 3) := by decide +kernel
theorem zd_Draft_replace_21 : decode ze_Draft_replace 21 = .ok (.iload_n 1, 1) := by decide +kernel
theorem zd_Draft_replace_22 : decode ze_Draft_replace 22 = .ok (.iload_n 2, 1) := by decide +kernel
theorem zd_Draft_replace_23 : decode ze_Draft_replace 23 = .ok (.iastore, 1) := by decide +kernel
theorem zd_Draft_replace_24 : decode ze_Draft_replace 24 = .ok (.iconst 1, 1) := by decide +kernel
theorem zd_Draft_replace_25 : decode ze_Draft_replace 25 = .ok (.ireturn, 1) := by decide +kernel
theorem zd_V_poke_0 : decode ze_V_poke 0 = .ok (.aload_n 0, 1) := by decide +kernel
theorem zd_V_poke_1 : decode ze_V_poke 1 = .ok (.getfield 10, 3) := by decide +kernel
theorem zd_V_poke_4 : decode ze_V_poke 4 = .ok (.iload_n 1, 1) := by decide +kernel
theorem zd_V_poke_5 : decode ze_V_poke 5 = .ok (.iload_n 2, 1) := by decide +kernel
theorem zd_V_poke_6 : decode ze_V_poke 6 = .ok (.invokevirtual 38, 3) := by decide +kernel
theorem zd_V_poke_9 : decode ze_V_poke 9 = .ok (.ireturn, 1) := by decide +kernel
theorem zd_M_poke_0 : decode ze_M_poke 0 = .ok (.iload_n 1, 1) := by decide +kernel
theorem zd_M_poke_1 : decode ze_M_poke 1 = .ok (.ifCond .lt 23, 3) := by decide +kernel
theorem zd_M_poke_4 : decode ze_M_poke 4 = .ok (.iload_n 1, 1) := by decide +kernel
theorem zd_M_poke_5 : decode ze_M_poke 5 = .ok (.aload_n 0, 1) := by decide +kernel
theorem zd_M_poke_6 : decode ze_M_poke 6 = .ok (.getfield 141, 3) := by decide +kernel
theorem zd_M_poke_9 : decode ze_M_poke 9 = .ok (.if_icmp .ge 15, 3) := by decide +kernel
theorem zd_M_poke_12 : decode ze_M_poke 12 = .ok (.iload_n 2, 1) := by decide +kernel
theorem zd_M_poke_13 : decode ze_M_poke 13 = .ok (.i2l, 1) := by decide +kernel
theorem zd_M_poke_14 : decode ze_M_poke 14 = .ok (.lconst 0, 1) := by decide +kernel
theorem zd_M_poke_15 : decode ze_M_poke 15 = .ok (.ldc2_w 139, 3) := by decide +kernel
theorem zd_M_poke_18 : decode ze_M_poke 18 = .ok (.invokestatic 125, 3) := by decide +kernel
theorem zd_M_poke_21 : decode ze_M_poke 21 = .ok (.ifCond .ne 5, 3) := by decide +kernel
theorem zd_M_poke_24 : decode ze_M_poke 24 = .ok (.iconst 0, 1) := by decide +kernel
theorem zd_M_poke_25 : decode ze_M_poke 25 = .ok (.ireturn, 1) := by decide +kernel
theorem zd_M_poke_26 : decode ze_M_poke 26 = .ok (.aload_n 0, 1) := by decide +kernel
theorem zd_M_poke_27 : decode ze_M_poke 27 = .ok (.getfield 7, 3) := by decide +kernel
theorem zd_M_poke_30 : decode ze_M_poke 30 = .ok (.iload_n 1, 1) := by decide +kernel
theorem zd_M_poke_31 : decode ze_M_poke 31 = .ok (.iload_n 2, 1) := by decide +kernel
theorem zd_M_poke_32 : decode ze_M_poke 32 = .ok (.iastore, 1) := by decide +kernel
theorem zd_M_poke_33 : decode ze_M_poke 33 = .ok (.iconst 1, 1) := by decide +kernel
theorem zd_M_poke_34 : decode ze_M_poke 34 = .ok (.ireturn, 1) := by decide +kernel
theorem zd_V_put_0 : decode ze_V_put 0 = .ok (.aload_n 0, 1) := by decide +kernel
theorem zd_V_put_1 : decode ze_V_put 1 = .ok (.getfield 10, 3) := by decide +kernel
theorem zd_V_put_4 : decode ze_V_put 4 = .ok (.iload_n 1, 1) := by decide +kernel
theorem zd_V_put_5 : decode ze_V_put 5 = .ok (.invokevirtual 34, 3) := by decide +kernel
theorem zd_V_put_8 : decode ze_V_put 8 = .ok (.ireturn, 1) := by decide +kernel
theorem zd_M_put_0 : decode ze_M_put 0 = .ok (.iload_n 1, 1) := by decide +kernel
theorem zd_M_put_1 : decode ze_M_put 1 = .ok (.i2l, 1) := by decide +kernel
theorem zd_M_put_2 : decode ze_M_put 2 = .ok (.lconst 0, 1) := by decide +kernel
theorem zd_M_put_3 : decode ze_M_put 3 = .ok (.ldc2_w 139, 3) := by decide +kernel
theorem zd_M_put_6 : decode ze_M_put 6 = .ok (.invokestatic 125, 3) := by decide +kernel
theorem zd_M_put_9 : decode ze_M_put 9 = .ok (.ifCond .eq 13, 3) := by decide +kernel
theorem zd_M_put_12 : decode ze_M_put 12 = .ok (.aload_n 0, 1) := by decide +kernel
theorem zd_M_put_13 : decode ze_M_put 13 = .ok (.getfield 141, 3) := by decide +kernel
theorem zd_M_put_16 : decode ze_M_put 16 = .ok (.sipush 200, 3) := by decide +kernel
theorem zd_M_put_19 : decode ze_M_put 19 = .ok (.if_icmp .ne 5, 3) := by decide +kernel
theorem zd_M_put_22 : decode ze_M_put 22 = .ok (.iconst 0, 1) := by decide +kernel
theorem zd_M_put_23 : decode ze_M_put 23 = .ok (.ireturn, 1) := by decide +kernel
theorem zd_M_put_24 : decode ze_M_put 24 = .ok (.aload_n 0, 1) := by decide +kernel
theorem zd_M_put_25 : decode ze_M_put 25 = .ok (.getfield 7, 3) := by decide +kernel
theorem zd_M_put_28 : decode ze_M_put 28 = .ok (.aload_n 0, 1) := by decide +kernel
theorem zd_M_put_29 : decode ze_M_put 29 = .ok (.getfield 141, 3) := by decide +kernel
theorem zd_M_put_32 : decode ze_M_put 32 = .ok (.iload_n 1, 1) := by decide +kernel
theorem zd_M_put_33 : decode ze_M_put 33 = .ok (.iastore, 1) := by decide +kernel
theorem zd_M_put_34 : decode ze_M_put 34 = .ok (.aload_n 0, 1) := by decide +kernel
theorem zd_M_put_35 : decode ze_M_put 35 = .ok (.dup, 1) := by decide +kernel
theorem zd_M_put_36 : decode ze_M_put 36 = .ok (.getfield 141, 3) := by decide +kernel
theorem zd_M_put_39 : decode ze_M_put 39 = .ok (.iconst 1, 1) := by decide +kernel
theorem zd_M_put_40 : decode ze_M_put 40 = .ok (.iadd, 1) := by decide +kernel
theorem zd_M_put_41 : decode ze_M_put 41 = .ok (.putfield 141, 3) := by decide +kernel
