theorem zd_Draft_init_0 : decode ze_Draft_init 0 = .ok (.aload_n 0, 1) := by decide +kernel
theorem zd_Draft_init_1 : decode ze_Draft_init 1 = .ok (.invokespecial 3, 3) := by decide +kernel
theorem zd_Draft_init_4 : decode ze_Draft_init 4 = .ok (.aload_n 0, 1) := by decide +kernel
theorem zd_Draft_init_5 : decode ze_Draft_init 5 = .ok (.sipush 200, 3) := by decide +kernel
theorem zd_Draft_init_8 : decode ze_Draft_init 8 = .ok (.newarray .int, 2) := by decide +kernel
theorem zd_Draft_init_10 : decode ze_Draft_init 10 = .ok (.putfield 11, 3) := by decide +kernel
theorem zd_Draft_init_13 : decode ze_Draft_init 13 = .ok (.aload_n 0, 1) := by decide +kernel
theorem zd_Draft_init_14 : decode ze_Draft_init 14 = .ok (.iconst 0, 1) := by decide +kernel
theorem zd_Draft_init_15 : decode ze_Draft_init 15 = .ok (.putfield 15, 3) := by decide +kernel
theorem zd_Draft_init_18 : decode ze_Draft_init 18 = .ok (.return_, 1) := by decide +kernel
theorem zd_Tool_init_0 : decode ze_Tool_init 0 = .ok (.aload_n 0, 1) := by decide +kernel
theorem zd_Tool_init_1 : decode ze_Tool_init 1 = .ok (.invokespecial 3, 3) := by decide +kernel
theorem zd_Tool_init_4 : decode ze_Tool_init 4 = .ok (.aload_n 0, 1) := by decide +kernel
theorem zd_Tool_init_5 : decode ze_Tool_init 5 = .ok (.bipush 13, 2) := by decide +kernel
theorem zd_Tool_init_7 : decode ze_Tool_init 7 = .ok (.newarray .long, 2) := by decide +kernel
theorem zd_Tool_init_9 : decode ze_Tool_init 9 = .ok (.dup, 1) := by decide +kernel
theorem zd_Tool_init_10 : decode ze_Tool_init 10 = .ok (.iconst 0, 1) := by decide +kernel
theorem zd_Tool_init_11 : decode ze_Tool_init 11 = .ok (.lconst 1, 1) := by decide +kernel
theorem zd_Tool_init_12 : decode ze_Tool_init 12 = .ok (.lastore, 1) := by decide +kernel
theorem zd_Tool_init_13 : decode ze_Tool_init 13 = .ok (.dup, 1) := by decide +kernel
theorem zd_Tool_init_14 : decode ze_Tool_init 14 = .ok (.iconst 1, 1) := by decide +kernel
theorem zd_Tool_init_15 : decode ze_Tool_init 15 = .ok (.lconst 1, 1) := by decide +kernel
theorem zd_Tool_init_16 : decode ze_Tool_init 16 = .ok (.lastore, 1) := by decide +kernel
theorem zd_Tool_init_17 : decode ze_Tool_init 17 = .ok (.dup, 1) := by decide +kernel
theorem zd_Tool_init_18 : decode ze_Tool_init 18 = .ok (.iconst 2, 1) := by decide +kernel
theorem zd_Tool_init_19 : decode ze_Tool_init 19 = .ok (.lconst 0, 1) := by decide +kernel
theorem zd_Tool_init_20 : decode ze_Tool_init 20 = .ok (.lastore, 1) := by decide +kernel
theorem zd_Tool_init_21 : decode ze_Tool_init 21 = .ok (.dup, 1) := by decide +kernel
theorem zd_Tool_init_22 : decode ze_Tool_init 22 = .ok (.iconst 3, 1) := by decide +kernel
theorem zd_Tool_init_23 : decode ze_Tool_init 23 = .ok (.ldc2_w 9, 3) := by decide +kernel
theorem zd_Tool_init_26 : decode ze_Tool_init 26 = .ok (.lastore, 1) := by decide +kernel
theorem zd_Tool_init_27 : decode ze_Tool_init 27 = .ok (.dup, 1) := by decide +kernel
theorem zd_Tool_init_28 : decode ze_Tool_init 28 = .ok (.iconst 4, 1) := by decide +kernel
theorem zd_Tool_init_29 : decode ze_Tool_init 29 = .ok (.lconst 1, 1) := by decide +kernel
theorem zd_Tool_init_30 : decode ze_Tool_init 30 = .ok (.lastore, 1) := by decide +kernel
theorem zd_Tool_init_31 : decode ze_Tool_init 31 = .ok (.dup, 1) := by decide +kernel
theorem zd_Tool_init_32 : decode ze_Tool_init 32 = .ok (.iconst 5, 1) := by decide +kernel
theorem zd_Tool_init_33 : decode ze_Tool_init 33 = .ok (.lconst 0, 1) := by decide +kernel
theorem zd_Tool_init_34 : decode ze_Tool_init 34 = .ok (.lastore, 1) := by decide +kernel
theorem zd_Tool_init_35 : decode ze_Tool_init 35 = .ok (.dup, 1) := by decide +kernel
theorem zd_Tool_init_36 : decode ze_Tool_init 36 = .ok (.bipush 6, 2) := by decide +kernel
theorem zd_Tool_init_38 : decode ze_Tool_init 38 = .ok (.ldc2_w 11, 3) := by decide +kernel
theorem zd_Tool_init_41 : decode ze_Tool_init 41 = .ok (.lastore, 1) := by decide +kernel
theorem zd_Tool_init_42 : decode ze_Tool_init 42 = .ok (.dup, 1) := by decide +kernel
theorem zd_Tool_init_43 : decode ze_Tool_init 43 = .ok (.bipush 7, 2) := by decide +kernel
theorem zd_Tool_init_45 : decode ze_Tool_init 45 = .ok (.ldc2_w 11, 3) := by decide +kernel
theorem zd_Tool_init_48 : decode ze_Tool_init 48 = .ok (.lastore, 1) := by decide +kernel
theorem zd_Tool_init_49 : decode ze_Tool_init 49 = .ok (.dup, 1) := by decide +kernel
theorem zd_Tool_init_50 : decode ze_Tool_init 50 = .ok (.bipush 8, 2) := by decide +kernel
theorem zd_Tool_init_52 : decode ze_Tool_init 52 = .ok (.ldc2_w 11, 3) := by decide +kernel
theorem zd_Tool_init_55 : decode ze_Tool_init 55 = .ok (.lastore, 1) := by decide +kernel
theorem zd_Tool_init_56 : decode ze_Tool_init 56 = .ok (.dup, 1) := by decide +kernel
theorem zd_Tool_init_57 : decode ze_Tool_init 57 = .ok (.bipush 9, 2) := by decide +kernel
theorem zd_Tool_init_59 : decode ze_Tool_init 59 = .ok (.lconst 0, 1) := by decide +kernel
theorem zd_Tool_init_60 : decode ze_Tool_init 60 = .ok (.lastore, 1) := by decide +kernel
theorem zd_Tool_init_61 : decode ze_Tool_init 61 = .ok (.dup, 1) := by decide +kernel
theorem zd_Tool_init_62 : decode ze_Tool_init 62 = .ok (.bipush 10, 2) := by decide +kernel
theorem zd_Tool_init_64 : decode ze_Tool_init 64 = .ok (.lconst 0, 1) := by decide +kernel
theorem zd_Tool_init_65 : decode ze_Tool_init 65 = .ok (.lastore, 1) := by decide +kernel
theorem zd_Tool_init_66 : decode ze_Tool_init 66 = .ok (.dup, 1) := by decide +kernel
theorem zd_Tool_init_67 : decode ze_Tool_init 67 = .ok (.bipush 11, 2) := by decide +kernel
theorem zd_Tool_init_69 : decode ze_Tool_init 69 = .ok (.lconst 0, 1) := by decide +kernel
theorem zd_Tool_init_70 : decode ze_Tool_init 70 = .ok (.lastore, 1) := by decide +kernel
theorem zd_Tool_init_71 : decode ze_Tool_init 71 = .ok (.dup, 1) := by decide +kernel
theorem zd_Tool_init_72 : decode ze_Tool_init 72 = .ok (.bipush 12, 2) := by decide +kernel
theorem zd_Tool_init_74 : decode ze_Tool_init 74 = .ok (.lconst 0, 1) := by decide +kernel
theorem zd_Tool_init_75 : decode ze_Tool_init 75 = .ok (.lastore, 1) := by decide +kernel
theorem zd_Tool_init_76 : decode ze_Tool_init 76 = .ok (.putfield 13, 3) := by decide +kernel
theorem zd_Tool_init_79 : decode ze_Tool_init 79 = .ok (.aload_n 0, 1) := by decide +kernel
theorem zd_Tool_init_80 : decode ze_Tool_init 80 = .ok (.iconst 4, 1) := by decide +kernel
theorem zd_Tool_init_81 : decode ze_Tool_init 81 = .ok (.newarray .long, 2) := by decide +kernel
theorem zd_Tool_init_83 : decode ze_Tool_init 83 = .ok (.putfield 19, 3) := by decide +kernel
theorem zd_Tool_init_86 : decode ze_Tool_init 86 = .ok (.aload_n 0, 1) := by decide +kernel
theorem zd_Tool_init_87 : decode ze_Tool_init 87 = .ok (.iconst 4, 1) := by decide +kernel
theorem zd_Tool_init_88 : decode ze_Tool_init 88 = .ok (.newarray .long, 2) := by decide +kernel
theorem zd_Tool_init_90 : decode ze_Tool_init 90 = .ok (.putfield 22, 3) := by decide +kernel
theorem zd_Tool_init_93 : decode ze_Tool_init 93 = .ok (.aload_n 0, 1) := by decide +kernel
theorem zd_Tool_init_94 : decode ze_Tool_init 94 = .ok (.iconst 0, 1) := by decide +kernel
theorem zd_Tool_init_95 : decode ze_Tool_init 95 = .ok (.putfield 25, 3) := by decide +kernel
theorem zd_Tool_init_98 : decode ze_Tool_init 98 = .ok (.return_, 1) := by decide +kernel
theorem zd_Signed_init_0 : decode ze_Signed_init 0 = .ok (.aload_n 0, 1) := by decide +kernel
theorem zd_Signed_init_1 : decode ze_Signed_init 1 = .ok (.invokespecial 1, 3) := by decide +kernel
theorem zd_Signed_init_4 : decode ze_Signed_init 4 = .ok (.aload_n 0, 1) := by decide +kernel
theorem zd_Signed_init_5 : decode ze_Signed_init 5 = .ok (.iconst 0, 1) := by decide +kernel
theorem zd_Signed_init_6 : decode ze_Signed_init 6 = .ok (.putfield 7, 3) := by decide +kernel
theorem zd_Signed_init_9 : decode ze_Signed_init 9 = .ok (.return_, 1) := by decide +kernel
theorem zd_RevokedList_init_0 : decode ze_RevokedList_init 0 = .ok (.aload_n 0, 1) := by decide +kernel
theorem zd_RevokedList_init_1 : decode ze_RevokedList_init 1 = .ok (.invokespecial 3, 3) := by decide +kernel
theorem zd_RevokedList_init_4 : decode ze_RevokedList_init 4 = .ok (.aload_n 0, 1) := by decide +kernel
theorem zd_RevokedList_init_5 : decode ze_RevokedList_init 5 = .ok (.iconst 4, 1) := by decide +kernel
theorem zd_RevokedList_init_6 : decode ze_RevokedList_init 6 = .ok (.newarray .long, 2) := by decide +kernel
theorem zd_RevokedList_init_8 : decode ze_RevokedList_init 8 = .ok (.putfield 9, 3) := by decide +kernel
theorem zd_RevokedList_init_11 : decode ze_RevokedList_init 11 = .ok (.aload_n 0, 1) := by decide +kernel
theorem zd_RevokedList_init_12 : decode ze_RevokedList_init 12 = .ok (.iconst 4, 1) := by decide +kernel
theorem zd_RevokedList_init_13 : decode ze_RevokedList_init 13 = .ok (.newarray .long, 2) := by decide +kernel
theorem zd_RevokedList_init_15 : decode ze_RevokedList_init 15 = .ok (.putfield 15, 3) := by decide +kernel
theorem zd_RevokedList_init_18 : decode ze_RevokedList_init 18 = .ok (.return_, 1) := by decide +kernel
theorem zd_Certificate_init_0 : decode ze_Certificate_init 0 = .ok (.aload_n 0, 1) := by decide +kernel
theorem zd_Certificate_init_1 : decode ze_Certificate_init 1 = .ok (.invokespecial 3, 3) := by decide +kernel
theorem zd_Certificate_init_4 : decode ze_Certificate_init 4 = .ok (.return_, 1) := by decide +kernel
theorem zd_Shelf_init_0 : decode ze_Shelf_init 0 = .ok (.aload_n 0, 1) := by decide +kernel
theorem zd_Shelf_init_1 : decode ze_Shelf_init 1 = .ok (.invokespecial 3, 3) := by decide +kernel
theorem zd_Shelf_init_4 : decode ze_Shelf_init 4 = .ok (.aload_n 0, 1) := by decide +kernel
theorem zd_Shelf_init_5 : decode ze_Shelf_init 5 = .ok (.bipush 13, 2) := by decide +kernel
theorem zd_Shelf_init_7 : decode ze_Shelf_init 7 = .ok (.anewarray 9, 3) := by decide +kernel
theorem zd_Shelf_init_10 : decode ze_Shelf_init 10 = .ok (.putfield 11, 3) := by decide +kernel
theorem zd_Shelf_init_13 : decode ze_Shelf_init 13 = .ok (.aload_n 0, 1) := by decide +kernel
theorem zd_Shelf_init_14 : decode ze_Shelf_init 14 = .ok (.bipush 7, 2) := by decide +kernel
theorem zd_Shelf_init_16 : decode ze_Shelf_init 16 = .ok (.anewarray 17, 3) := by decide +kernel
theorem zd_Shelf_init_19 : decode ze_Shelf_init 19 = .ok (.putfield 19, 3) := by decide +kernel
theorem zd_Shelf_init_22 : decode ze_Shelf_init 22 = .ok (.aload_n 0, 1) := by decide +kernel
theorem zd_Shelf_init_23 : decode ze_Shelf_init 23 = .ok (.iconst 0, 1) := by decide +kernel
theorem zd_Shelf_init_24 : decode ze_Shelf_init 24 = .ok (.putfield 23, 3) := by decide +kernel
theorem zd_Shelf_init_27 : decode ze_Shelf_init 27 = .ok (.aload_n 0, 1) := by decide +kernel
theorem zd_Shelf_init_28 : decode ze_Shelf_init 28 = .ok (.iconst 0, 1) := by decide +kernel
theorem zd_Shelf_init_29 : decode ze_Shelf_init 29 = .ok (.putfield 27, 3) := by decide +kernel
theorem zd_Shelf_init_32 : decode ze_Shelf_init 32 = .ok (.iconst 0, 1) := by decide +kernel
theorem zd_Shelf_init_33 : decode ze_Shelf_init 33 = .ok (.istore_n 1, 1) := by decide +kernel
theorem zd_Shelf_init_34 : decode ze_Shelf_init 34 = .ok (.iload_n 1, 1) := by decide +kernel
theorem zd_Shelf_init_35 : decode ze_Shelf_init 35 = .ok (.aload_n 0, 1) := by decide +kernel
theorem zd_Shelf_init_36 : decode ze_Shelf_init 36 = .ok (.getfield 11, 3) := by decide +kernel
theorem zd_Shelf_init_39 : decode ze_Shelf_init 39 = .ok (.arraylength, 1) := by decide +kernel
theorem zd_Shelf_init_40 : decode ze_Shelf_init 40 = .ok (.if_icmp .ge 22, 3) := by decide +kernel
theorem zd_Shelf_init_43 : decode ze_Shelf_init 43 = .ok (.aload_n 0, 1) := by decide +kernel
theorem zd_Shelf_init_44 : decode ze_Shelf_init 44 = .ok (.getfield 11, 3) := by decide +kernel
theorem zd_Shelf_init_47 : decode ze_Shelf_init 47 = .ok (.iload_n 1, 1) := by decide +kernel
theorem zd_Shelf_init_48 : decode ze_Shelf_init 48 = .ok (.new 9, 3) := by decide +kernel
theorem zd_Shelf_init_51 : decode ze_Shelf_init 51 = .ok (.dup, 1) := by decide +kernel
theorem zd_Shelf_init_52 : decode ze_Shelf_init 52 = .ok (.invokespecial 30, 3) := by decide +kernel
theorem zd_Shelf_init_55 : decode ze_Shelf_init 55 = .ok (.aastore, 1) := by decide +kernel
theorem zd_Shelf_init_56 : decode ze_Shelf_init 56 = .ok (.iinc 1 1, 3) := by decide +kernel
theorem zd_Shelf_init_59 : decode ze_Shelf_init 59 = .ok (.goto (-25), 3) := by decide +kernel
theorem zd_Shelf_init_62 : decode ze_Shelf_init 62 = .ok (.iconst 0, 1) := by decide +kernel
theorem zd_Shelf_init_63 : decode ze_Shelf_init 63 = .ok (.istore_n 1, 1) := by decide +kernel
theorem zd_Shelf_init_64 : decode ze_Shelf_init 64 = .ok (.iload_n 1, 1) := by decide +kernel
theorem zd_Shelf_init_65 : decode ze_Shelf_init 65 = .ok (.aload_n 0, 1) := by decide +kernel
theorem zd_Shelf_init_66 : decode ze_Shelf_init 66 = .ok (.getfield 19, 3) := by decide +kernel
theorem zd_Shelf_init_69 : decode ze_Shelf_init 69 = .ok (.arraylength, 1) := by decide +kernel
theorem zd_Shelf_init_70 : decode ze_Shelf_init 70 = .ok (.if_icmp .ge 22, 3) := by decide +kernel
theorem zd_Shelf_init_73 : decode ze_Shelf_init 73 = .ok (.aload_n 0, 1) := by decide +kernel
theorem zd_Shelf_init_74 : decode ze_Shelf_init 74 = .ok (.getfield 19, 3) := by decide +kernel
theorem zd_Shelf_init_77 : decode ze_Shelf_init 77 = .ok (.iload_n 1, 1) := by decide +kernel
theorem zd_Shelf_init_78 : decode ze_Shelf_init 78 = .ok (.new 17, 3) := by decide +kernel
theorem zd_Shelf_init_81 : decode ze_Shelf_init 81 = .ok (.dup, 1) := by decide +kernel
theorem zd_Shelf_init_82 : decode ze_Shelf_init 82 = .ok (.invokespecial 31, 3) := by decide +kernel
theorem zd_Shelf_init_85 : decode ze_Shelf_init 85 = .ok (.aastore, 1) := by decide +kernel
theorem zd_Shelf_init_86 : decode ze_Shelf_init 86 = .ok (.iinc 1 1, 3) := by decide +kernel
theorem zd_Shelf_init_89 : decode ze_Shelf_init 89 = .ok (.goto (-25), 3) := by decide +kernel
theorem zd_Shelf_init_92 : decode ze_Shelf_init 92 = .ok (.return_, 1) := by decide +kernel
theorem zd_V_init_0 : decode ze_V_init 0 = .ok (.aload_n 0, 1) := by decide +kernel
theorem zd_V_init_1 : decode ze_V_init 1 = .ok (.invokespecial 1, 3) := by decide +kernel
theorem zd_V_init_4 : decode ze_V_init 4 = .ok (.aload_n 0, 1) := by decide +kernel
theorem zd_V_init_5 : decode ze_V_init 5 = .ok (.new 7, 3) := by decide +kernel
theorem zd_V_init_8 : decode ze_V_init 8 = .ok (.dup, 1) := by decide +kernel
theorem zd_V_init_9 : decode ze_V_init 9 = .ok (.invokespecial 9, 3) := by decide +kernel
theorem zd_V_init_12 : decode ze_V_init 12 = .ok (.putfield 10, 3) := by decide +kernel
theorem zd_V_init_15 : decode ze_V_init 15 = .ok (.aload_n 0, 1) := by decide +kernel
theorem zd_V_init_16 : decode ze_V_init 16 = .ok (.new 16, 3) := by decide +kernel
theorem zd_V_init_19 : decode ze_V_init 19 = .ok (.dup, 1) := by decide +kernel
theorem zd_V_init_20 : decode ze_V_init 20 = .ok (.invokespecial 18, 3) := by decide +kernel
theorem zd_V_init_23 : decode ze_V_init 23 = .ok (.putfield 19, 3) := by decide +kernel
theorem zd_V_init_26 : decode ze_V_init 26 = .ok (.aload_n 0, 1) := by decide +kernel
theorem zd_V_init_27 : decode ze_V_init 27 = .ok (.new 23, 3) := by decide +kernel
theorem zd_V_init_30 : decode ze_V_init 30 = .ok (.dup, 1) := by decide +kernel
theorem zd_V_init_31 : decode ze_V_init 31 = .ok (.invokespecial 25, 3) := by decide +kernel
theorem zd_V_init_34 : decode ze_V_init 34 = .ok (.putfield 26, 3) := by decide +kernel
theorem zd_V_init_37 : decode ze_V_init 37 = .ok (.aload_n 0, 1) := by decide +kernel
theorem zd_V_init_38 : decode ze_V_init 38 = .ok (.aconst_null, 1) := by decide +kernel
theorem zd_V_init_39 : decode ze_V_init 39 = .ok (.putfield 30, 3) := by decide +kernel
theorem zd_V_init_42 : decode ze_V_init 42 = .ok (.return_, 1) := by decide +kernel
theorem zd_M_init_0 : decode ze_M_init 0 = .ok (.aload_n 0, 1) := by decide +kernel
theorem zd_M_init_1 : decode ze_M_init 1 = .ok (.invokespecial 1, 3) := by decide +kernel
theorem zd_M_init_4 : decode ze_M_init 4 = .ok (.aload_n 0, 1) := by decide +kernel
theorem zd_M_init_5 : decode ze_M_init 5 = .ok (.sipush 200, 3) := by decide +kernel
theorem zd_M_init_8 : decode ze_M_init 8 = .ok (.newarray .int, 2) := by decide +kernel
theorem zd_M_init_10 : decode ze_M_init 10 = .ok (.putfield 7, 3) := by decide +kernel
theorem zd_M_init_13 : decode ze_M_init 13 = .ok (.aload_n 0, 1) := by decide +kernel
theorem zd_M_init_14 : decode ze_M_init 14 = .ok (.bipush 13, 2) := by decide +kernel
theorem zd_M_init_16 : decode ze_M_init 16 = .ok (.newarray .long, 2) := by decide +kernel
theorem zd_M_init_18 : decode ze_M_init 18 = .ok (.putfield 13, 3) := by decide +kernel
theorem zd_M_init_21 : decode ze_M_init 21 = .ok (.aload_n 0, 1) := by decide +kernel
theorem zd_M_init_22 : decode ze_M_init 22 = .ok (.iconst 4, 1) := by decide +kernel
theorem zd_M_init_23 : decode ze_M_init 23 = .ok (.newarray .long, 2) := by decide +kernel
theorem zd_M_init_25 : decode ze_M_init 25 = .ok (.putfield 17, 3) := by decide +kernel
theorem zd_M_init_28 : decode ze_M_init 28 = .ok (.aload_n 0, 1) := by decide +kernel
theorem zd_M_init_29 : decode ze_M_init 29 = .ok (.iconst 4, 1) := by decide +kernel
theorem zd_M_init_30 : decode ze_M_init 30 = .ok (.newarray .long, 2) := by decide +kernel
theorem zd_M_init_32 : decode ze_M_init 32 = .ok (.putfield 20, 3) := by decide +kernel
theorem zd_M_init_35 : decode ze_M_init 35 = .ok (.aload_n 0, 1) := by decide +kernel
theorem zd_M_init_36 : decode ze_M_init 36 = .ok (.bipush 6, 2) := by decide +kernel
theorem zd_M_init_38 : decode ze_M_init 38 = .ok (.newarray .long, 2) := by decide +kernel
theorem zd_M_init_40 : decode ze_M_init 40 = .ok (.dup, 1) := by decide +kernel
theorem zd_M_init_41 : decode ze_M_init 41 = .ok (.iconst 0, 1) := by decide +kernel
theorem zd_M_init_42 : decode ze_M_init 42 = .ok (.ldc2_w 23, 3) := by decide +kernel
theorem zd_M_init_45 : decode ze_M_init 45 = .ok (.lastore, 1) := by decide +kernel
theorem zd_M_init_46 : decode ze_M_init 46 = .ok (.dup, 1) := by decide +kernel
theorem zd_M_init_47 : decode ze_M_init 47 = .ok (.iconst 1, 1) := by decide +kernel
theorem zd_M_init_48 : decode ze_M_init 48 = .ok (.ldc2_w 25, 3) := by decide +kernel
theorem zd_M_init_51 : decode ze_M_init 51 = .ok (.lastore, 1) := by decide +kernel
theorem zd_M_init_52 : decode ze_M_init 52 = .ok (.dup, 1) := by decide +kernel
theorem zd_M_init_53 : decode ze_M_init 53 = .ok (.iconst 2, 1) := by decide +kernel
theorem zd_M_init_54 : decode ze_M_init 54 = .ok (.ldc2_w 27, 3) := by decide +kernel
theorem zd_M_init_57 : decode ze_M_init 57 = .ok (.lastore, 1) := by decide +kernel
theorem zd_M_init_58 : decode ze_M_init 58 = .ok (.dup, 1) := by decide +kernel
theorem zd_M_init_59 : decode ze_M_init 59 = .ok (.iconst 3, 1) := by decide +kernel
theorem zd_M_init_60 : decode ze_M_init 60 = .ok (.ldc2_w 29, 3) := by decide +kernel
theorem zd_M_init_63 : decode ze_M_init 63 = .ok (.lastore, 1) := by decide +kernel
theorem zd_M_init_64 : decode ze_M_init 64 = .ok (.dup, 1) := by decide +kernel
theorem zd_M_init_65 : decode ze_M_init 65 = .ok (.iconst 4, 1) := by decide +kernel
theorem zd_M_init_66 : decode ze_M_init 66 = .ok (.ldc2_w 31, 3) := by decide +kernel
theorem zd_M_init_69 : decode ze_M_init 69 = .ok (.lastore, 1) := by decide +kernel
theorem zd_M_init_70 : decode ze_M_init 70 = .ok (.dup, 1) := by decide +kernel
theorem zd_M_init_71 : decode ze_M_init 71 = .ok (.iconst 5, 1) := by decide +kernel
theorem zd_M_init_72 : decode ze_M_init 72 = .ok (.ldc2_w 33, 3) := by decide +kernel
theorem zd_M_init_75 : decode ze_M_init 75 = .ok (.lastore, 1) := by decide +kernel
theorem zd_M_init_76 : decode ze_M_init 76 = .ok (.putfield 35, 3) := by decide +kernel
theorem zd_M_init_79 : decode ze_M_init 79 = .ok (.aload_n 0, 1) := by decide +kernel
theorem zd_M_init_80 : decode ze_M_init 80 = .ok (.bipush 6, 2) := by decide +kernel
theorem zd_M_init_82 : decode ze_M_init 82 = .ok (.newarray .long, 2) := by decide +kernel
theorem zd_M_init_84 : decode ze_M_init 84 = .ok (.dup, 1) := by decide +kernel
theorem zd_M_init_85 : decode ze_M_init 85 = .ok (.iconst 0, 1) := by decide +kernel
theorem zd_M_init_86 : decode ze_M_init 86 = .ok (.ldc2_w 38, 3) := by decide +kernel
theorem zd_M_init_89 : decode ze_M_init 89 = .ok (.lastore, 1) := by decide +kernel
theorem zd_M_init_90 : decode ze_M_init 90 = .ok (.dup, 1) := by decide +kernel
theorem zd_M_init_91 : decode ze_M_init 91 = .ok (.iconst 1, 1) := by decide +kernel
theorem zd_M_init_92 : decode ze_M_init 92 = .ok (.ldc2_w 40, 3) := by decide +kernel
theorem zd_M_init_95 : decode ze_M_init 95 = .ok (.lastore, 1) := by decide +kernel
theorem zd_M_init_96 : decode ze_M_init 96 = .ok (.dup, 1) := by decide +kernel
theorem zd_M_init_97 : decode ze_M_init 97 = .ok (.iconst 2, 1) := by decide +kernel
theorem zd_M_init_98 : decode ze_M_init 98 = .ok (.ldc2_w 42, 3) := by decide +kernel
theorem zd_M_init_101 : decode ze_M_init 101 = .ok (.lastore, 1) := by decide +kernel
theorem zd_M_init_102 : decode ze_M_init 102 = .ok (.dup, 1) := by decide +kernel
theorem zd_M_init_103 : decode ze_M_init 103 = .ok (.iconst 3, 1) := by decide +kernel
theorem zd_M_init_104 : decode ze_M_init 104 = .ok (.ldc2_w 44, 3) := by decide +kernel
theorem zd_M_init_107 : decode ze_M_init 107 = .ok (.lastore, 1) := by decide +kernel
theorem zd_M_init_108 : decode ze_M_init 108 = .ok (.dup, 1) := by decide +kernel
theorem zd_M_init_109 : decode ze_M_init 109 = .ok (.iconst 4, 1) := by decide +kernel
theorem zd_M_init_110 : decode ze_M_init 110 = .ok (.ldc2_w 46, 3) := by decide +kernel
theorem zd_M_init_113 : decode ze_M_init 113 = .ok (.lastore, 1) := by decide +kernel
theorem zd_M_init_114 : decode ze_M_init 114 = .ok (.dup, 1) := by decide +kernel
theorem zd_M_init_115 : decode ze_M_init 115 = .ok (.iconst 5, 1) := by decide +kernel
theorem zd_M_init_116 : decode ze_M_init 116 = .ok (.ldc2_w 48, 3) := by decide +kernel
theorem zd_M_init_119 : decode ze_M_init 119 = .ok (.lastore, 1) := by decide +kernel
theorem zd_M_init_120 : decode ze_M_init 120 = .ok (.putfield 50, 3) := by decide +kernel
theorem zd_M_init_123 : decode ze_M_init 123 = .ok (.aload_n 0, 1) := by decide +kernel
theorem zd_M_init_124 : decode ze_M_init 124 = .ok (.bipush 6, 2) := by decide +kernel
theorem zd_M_init_126 : decode ze_M_init 126 = .ok (.newarray .long, 2) := by decide +kernel
theorem zd_M_init_128 : decode ze_M_init 128 = .ok (.dup, 1) := by decide +kernel
theorem zd_M_init_129 : decode ze_M_init 129 = .ok (.iconst 0, 1) := by decide +kernel
theorem zd_M_init_130 : decode ze_M_init 130 = .ok (.ldc2_w 53, 3) := by decide +kernel
theorem zd_M_init_133 : decode ze_M_init 133 = .ok (.lastore, 1) := by decide +kernel
theorem zd_M_init_134 : decode ze_M_init 134 = .ok (.dup, 1) := by decide +kernel
theorem zd_M_init_135 : decode ze_M_init 135 = .ok (.iconst 1, 1) := by decide +kernel
theorem zd_M_init_136 : decode ze_M_init 136 = .ok (.ldc2_w 55, 3) := by decide +kernel
theorem zd_M_init_139 : decode ze_M_init 139 = .ok (.lastore, 1) := by decide +kernel
theorem zd_M_init_140 : decode ze_M_init 140 = .ok (.dup, 1) := by decide +kernel
theorem zd_M_init_141 : decode ze_M_init 141 = .ok (.iconst 2, 1) := by decide +kernel
theorem zd_M_init_142 : decode ze_M_init 142 = .ok (.ldc2_w 57, 3) := by decide +kernel
theorem zd_M_init_145 : decode ze_M_init 145 = .ok (.lastore, 1) := by decide +kernel
theorem zd_M_init_146 : decode ze_M_init 146 = .ok (.dup, 1) := by decide +kernel
theorem zd_M_init_147 : decode ze_M_init 147 = .ok (.iconst 3, 1) := by decide +kernel
theorem zd_M_init_148 : decode ze_M_init 148 = .ok (.ldc2_w 59, 3) := by decide +kernel
theorem zd_M_init_151 : decode ze_M_init 151 = .ok (.lastore, 1) := by decide +kernel
theorem zd_M_init_152 : decode ze_M_init 152 = .ok (.dup, 1) := by decide +kernel
theorem zd_M_init_153 : decode ze_M_init 153 = .ok (.iconst 4, 1) := by decide +kernel
theorem zd_M_init_154 : decode ze_M_init 154 = .ok (.ldc2_w 61, 3) := by decide +kernel
theorem zd_M_init_157 : decode ze_M_init 157 = .ok (.lastore, 1) := by decide +kernel
theorem zd_M_init_158 : decode ze_M_init 158 = .ok (.dup, 1) := by decide +kernel
theorem zd_M_init_159 : decode ze_M_init 159 = .ok (.iconst 5, 1) := by decide +kernel
theorem zd_M_init_160 : decode ze_M_init 160 = .ok (.ldc2_w 63, 3) := by decide +kernel
theorem zd_M_init_163 : decode ze_M_init 163 = .ok (.lastore, 1) := by decide +kernel
theorem zd_M_init_164 : decode ze_M_init 164 = .ok (.putfield 65, 3) := by decide +kernel
theorem zd_M_init_167 : decode ze_M_init 167 = .ok (.aload_n 0, 1) := by decide +kernel
theorem zd_M_init_168 : decode ze_M_init 168 = .ok (.bipush 15, 2) := by decide +kernel
theorem zd_M_init_170 : decode ze_M_init 170 = .ok (.newarray .long, 2) := by decide +kernel
theorem zd_M_init_172 : decode ze_M_init 172 = .ok (.putfield 68, 3) := by decide +kernel
theorem zd_M_init_175 : decode ze_M_init 175 = .ok (.aload_n 0, 1) := by decide +kernel
theorem zd_M_init_176 : decode ze_M_init 176 = .ok (.iconst 4, 1) := by decide +kernel
theorem zd_M_init_177 : decode ze_M_init 177 = .ok (.newarray .long, 2) := by decide +kernel
theorem zd_M_init_179 : decode ze_M_init 179 = .ok (.putfield 71, 3) := by decide +kernel
theorem zd_M_init_182 : decode ze_M_init 182 = .ok (.aload_n 0, 1) := by decide +kernel
theorem zd_M_init_183 : decode ze_M_init 183 = .ok (.iconst 4, 1) := by decide +kernel
theorem zd_M_init_184 : decode ze_M_init 184 = .ok (.newarray .long, 2) := by decide +kernel
theorem zd_M_init_186 : decode ze_M_init 186 = .ok (.putfield 74, 3) := by decide +kernel
theorem zd_M_init_189 : decode ze_M_init 189 = .ok (.aload_n 0, 1) := by decide +kernel
theorem zd_M_init_190 : decode ze_M_init 190 = .ok (.sipush 180, 3) := by decide +kernel
theorem zd_M_init_193 : decode ze_M_init 193 = .ok (.newarray .long, 2) := by decide +kernel
theorem zd_M_init_195 : decode ze_M_init 195 = .ok (.putfield 77, 3) := by decide +kernel
theorem zd_M_init_198 : decode ze_M_init 198 = .ok (.aload_n 0, 1) := by decide +kernel
theorem zd_M_init_199 : decode ze_M_init 199 = .ok (.bipush 36, 2) := by decide +kernel
theorem zd_M_init_201 : decode ze_M_init 201 = .ok (.newarray .long, 2) := by decide +kernel
theorem zd_M_init_203 : decode ze_M_init 203 = .ok (.putfield 80, 3) := by decide +kernel
theorem zd_M_init_206 : decode ze_M_init 206 = .ok (.aload_n 0, 1) := by decide +kernel
theorem zd_M_init_207 : decode ze_M_init 207 = .ok (.bipush 24, 2) := by decide +kernel
theorem zd_M_init_209 : decode ze_M_init 209 = .ok (.newarray .long, 2) := by decide +kernel
theorem zd_M_init_211 : decode ze_M_init 211 = .ok (.putfield 83, 3) := by decide +kernel
theorem zd_M_init_214 : decode ze_M_init 214 = .ok (.aload_n 0, 1) := by decide +kernel
theorem zd_M_init_215 : decode ze_M_init 215 = .ok (.bipush 24, 2) := by decide +kernel
theorem zd_M_init_217 : decode ze_M_init 217 = .ok (.newarray .long, 2) := by decide +kernel
theorem zd_M_init_219 : decode ze_M_init 219 = .ok (.putfield 86, 3) := by decide +kernel
theorem zd_M_init_222 : decode ze_M_init 222 = .ok (.aload_n 0, 1) := by decide +kernel
theorem zd_M_init_223 : decode ze_M_init 223 = .ok (.iconst 5, 1) := by decide +kernel
theorem zd_M_init_224 : decode ze_M_init 224 = .ok (.newarray .int, 2) := by decide +kernel
theorem zd_M_init_226 : decode ze_M_init 226 = .ok (.putfield 89, 3) := by decide +kernel
theorem zd_M_init_229 : decode ze_M_init 229 = .ok (.aload_n 0, 1) := by decide +kernel
theorem zd_M_init_230 : decode ze_M_init 230 = .ok (.iconst 5, 1) := by decide +kernel
theorem zd_M_init_231 : decode ze_M_init 231 = .ok (.newarray .int, 2) := by decide +kernel
theorem zd_M_init_233 : decode ze_M_init 233 = .ok (.putfield 92, 3) := by decide +kernel
theorem zd_M_init_236 : decode ze_M_init 236 = .ok (.aload_n 0, 1) := by decide +kernel
theorem zd_M_init_237 : decode ze_M_init 237 = .ok (.iconst 5, 1) := by decide +kernel
theorem zd_M_init_238 : decode ze_M_init 238 = .ok (.newarray .int, 2) := by decide +kernel
theorem zd_M_init_240 : decode ze_M_init 240 = .ok (.putfield 95, 3) := by decide +kernel
theorem zd_M_init_243 : decode ze_M_init 243 = .ok (.aload_n 0, 1) := by decide +kernel
theorem zd_M_init_244 : decode ze_M_init 244 = .ok (.getfield 13, 3) := by decide +kernel
theorem zd_M_init_247 : decode ze_M_init 247 = .ok (.iconst 0, 1) := by decide +kernel
theorem zd_M_init_248 : decode ze_M_init 248 = .ok (.lconst 1, 1) := by decide +kernel
theorem zd_M_init_249 : decode ze_M_init 249 = .ok (.lastore, 1) := by decide +kernel
theorem zd_M_init_250 : decode ze_M_init 250 = .ok (.aload_n 0, 1) := by decide +kernel
theorem zd_M_init_251 : decode ze_M_init 251 = .ok (.getfield 13, 3) := by decide +kernel
theorem zd_M_init_254 : decode ze_M_init 254 = .ok (.iconst 1, 1) := by decide +kernel
theorem zd_M_init_255 : decode ze_M_init 255 = .ok (.lconst 1, 1) := by decide +kernel
theorem zd_M_init_256 : decode ze_M_init 256 = .ok (.lastore, 1) := by decide +kernel
theorem zd_M_init_257 : decode ze_M_init 257 = .ok (.aload_n 0, 1) := by decide +kernel
theorem zd_M_init_258 : decode ze_M_init 258 = .ok (.getfield 13, 3) := by decide +kernel
theorem zd_M_init_261 : decode ze_M_init 261 = .ok (.iconst 3, 1) := by decide +kernel
theorem zd_M_init_262 : decode ze_M_init 262 = .ok (.ldc2_w 98, 3) := by decide +kernel
theorem zd_M_init_265 : decode ze_M_init 265 = .ok (.lastore, 1) := by decide +kernel
theorem zd_M_init_266 : decode ze_M_init 266 = .ok (.aload_n 0, 1) := by decide +kernel
theorem zd_M_init_267 : decode ze_M_init 267 = .ok (.getfield 13, 3) := by decide +kernel
theorem zd_M_init_270 : decode ze_M_init 270 = .ok (.iconst 4, 1) := by decide +kernel
theorem zd_M_init_271 : decode ze_M_init 271 = .ok (.lconst 1, 1) := by decide +kernel
theorem zd_M_init_272 : decode ze_M_init 272 = .ok (.lastore, 1) := by decide +kernel
theorem zd_M_init_273 : decode ze_M_init 273 = .ok (.aload_n 0, 1) := by decide +kernel
theorem zd_M_init_274 : decode ze_M_init 274 = .ok (.getfield 13, 3) := by decide +kernel
theorem zd_M_init_277 : decode ze_M_init 277 = .ok (.bipush 6, 2) := by decide +kernel
theorem zd_M_init_279 : decode ze_M_init 279 = .ok (.ldc2_w 100, 3) := by decide +kernel
theorem zd_M_init_282 : decode ze_M_init 282 = .ok (.lastore, 1) := by decide +kernel
theorem zd_M_init_283 : decode ze_M_init 283 = .ok (.aload_n 0, 1) := by decide +kernel
theorem zd_M_init_284 : decode ze_M_init 284 = .ok (.getfield 13, 3) := by decide +kernel
theorem zd_M_init_287 : decode ze_M_init 287 = .ok (.bipush 7, 2) := by decide +kernel
theorem zd_M_init_289 : decode ze_M_init 289 = .ok (.ldc2_w 100, 3) := by decide +kernel
theorem zd_M_init_292 : decode ze_M_init 292 = .ok (.lastore, 1) := by decide +kernel
theorem zd_M_init_293 : decode ze_M_init 293 = .ok (.aload_n 0, 1) := by decide +kernel
theorem zd_M_init_294 : decode ze_M_init 294 = .ok (.getfield 13, 3) := by decide +kernel
theorem zd_M_init_297 : decode ze_M_init 297 = .ok (.bipush 8, 2) := by decide +kernel
theorem zd_M_init_299 : decode ze_M_init 299 = .ok (.ldc2_w 100, 3) := by decide +kernel
theorem zd_M_init_302 : decode ze_M_init 302 = .ok (.lastore, 1) := by decide +kernel
theorem zd_M_init_303 : decode ze_M_init 303 = .ok (.return_, 1) := by decide +kernel
theorem zd_Numbers_lift_0 : decode ze_Numbers_lift 0 = .ok (.lload_n 0, 1) := by decide +kernel
theorem zd_Numbers_lift_1 : decode ze_Numbers_lift 1 = .ok (.lload_n 2, 1) := by decide +kernel
theorem zd_Numbers_lift_2 : decode ze_Numbers_lift 2 = .ok (.bipush 31, 2) := by decide +kernel
theorem zd_Numbers_lift_4 : decode ze_Numbers_lift 4 = .ok (.lshr, 1) := by decide +kernel
theorem zd_Numbers_lift_5 : decode ze_Numbers_lift 5 = .ok (.lconst 1, 1) := by decide +kernel
theorem zd_Numbers_lift_6 : decode ze_Numbers_lift 6 = .ok (.ladd, 1) := by decide +kernel
theorem zd_Numbers_lift_7 : decode ze_Numbers_lift 7 = .ok (.ldiv, 1) := by decide +kernel
theorem zd_Numbers_lift_8 : decode ze_Numbers_lift 8 = .ok (.lstore 4, 2) := by decide +kernel
theorem zd_Numbers_lift_10 : decode ze_Numbers_lift 10 = .ok (.lload_n 0, 1) := by decide +kernel
theorem zd_Numbers_lift_11 : decode ze_Numbers_lift 11 = .ok (.bipush 31, 2) := by decide +kernel
theorem zd_Numbers_lift_13 : decode ze_Numbers_lift 13 = .ok (.lshl, 1) := by decide +kernel
theorem zd_Numbers_lift_14 : decode ze_Numbers_lift 14 = .ok (.lload 4, 2) := by decide +kernel
theorem zd_Numbers_lift_16 : decode ze_Numbers_lift 16 = .ok (.lload_n 2, 1) := by decide +kernel
theorem zd_Numbers_lift_17 : decode ze_Numbers_lift 17 = .ok (.lmul, 1) := by decide +kernel
theorem zd_Numbers_lift_18 : decode ze_Numbers_lift 18 = .ok (.lsub, 1) := by decide +kernel
theorem zd_Numbers_lift_19 : decode ze_Numbers_lift 19 = .ok (.lload_n 2, 1) := by decide +kernel
theorem zd_Numbers_lift_20 : decode ze_Numbers_lift 20 = .ok (.lrem, 1) := by decide +kernel
theorem zd_Numbers_lift_21 : decode ze_Numbers_lift 21 = .ok (.lreturn, 1) := by decide +kernel
theorem zd_Numbers_times_0 : decode ze_Numbers_times 0 = .ok (.lload_n 0, 1) := by decide +kernel
theorem zd_Numbers_times_1 : decode ze_Numbers_times 1 = .ok (.bipush 31, 2) := by decide +kernel
theorem zd_Numbers_times_3 : decode ze_Numbers_times 3 = .ok (.lshr, 1) := by decide +kernel
theorem zd_Numbers_times_4 : decode ze_Numbers_times 4 = .ok (.lstore 6, 2) := by decide +kernel
theorem zd_Numbers_times_6 : decode ze_Numbers_times 6 = .ok (.lload_n 0, 1) := by decide +kernel
theorem zd_Numbers_times_7 : decode ze_Numbers_times 7 = .ok (.ldc2_w 30, 3) := by decide +kernel
theorem zd_Numbers_times_10 : decode ze_Numbers_times 10 = .ok (.land, 1) := by decide +kernel
theorem zd_Numbers_times_11 : decode ze_Numbers_times 11 = .ok (.lstore 8, 2) := by decide +kernel
theorem zd_Numbers_times_13 : decode ze_Numbers_times 13 = .ok (.lload_n 2, 1) := by decide +kernel
theorem zd_Numbers_times_14 : decode ze_Numbers_times 14 = .ok (.bipush 31, 2) := by decide +kernel
theorem zd_Numbers_times_16 : decode ze_Numbers_times 16 = .ok (.lshr, 1) := by decide +kernel
theorem zd_Numbers_times_17 : decode ze_Numbers_times 17 = .ok (.lstore 10, 2) := by decide +kernel
theorem zd_Numbers_times_19 : decode ze_Numbers_times 19 = .ok (.lload_n 2, 1) := by decide +kernel
theorem zd_Numbers_times_20 : decode ze_Numbers_times 20 = .ok (.ldc2_w 30, 3) := by decide +kernel
theorem zd_Numbers_times_23 : decode ze_Numbers_times 23 = .ok (.land, 1) := by decide +kernel
theorem zd_Numbers_times_24 : decode ze_Numbers_times 24 = .ok (.lstore 12, 2) := by decide +kernel
theorem zd_Numbers_times_26 : decode ze_Numbers_times 26 = .ok (.lload 6, 2) := by decide +kernel
theorem zd_Numbers_times_28 : decode ze_Numbers_times 28 = .ok (.lload 10, 2) := by decide +kernel
theorem zd_Numbers_times_30 : decode ze_Numbers_times 30 = .ok (.lmul, 1) := by decide +kernel
theorem zd_Numbers_times_31 : decode ze_Numbers_times 31 = .ok (.lload 4, 2) := by decide +kernel
theorem zd_Numbers_times_33 : decode ze_Numbers_times 33 = .ok (.lrem, 1) := by decide +kernel
theorem zd_Numbers_times_34 : decode ze_Numbers_times 34 = .ok (.lload 4, 2) := by decide +kernel
theorem zd_Numbers_times_36 : decode ze_Numbers_times 36 = .ok (.invokestatic 39, 3) := by decide +kernel
theorem zd_Numbers_times_39 : decode ze_Numbers_times 39 = .ok (.lstore 14, 2) := by decide +kernel
theorem zd_Numbers_times_41 : decode ze_Numbers_times 41 = .ok (.lload 6, 2) := by decide +kernel
theorem zd_Numbers_times_43 : decode ze_Numbers_times 43 = .ok (.lload 12, 2) := by decide +kernel
theorem zd_Numbers_times_45 : decode ze_Numbers_times 45 = .ok (.lmul, 1) := by decide +kernel
theorem zd_Numbers_times_46 : decode ze_Numbers_times 46 = .ok (.lload 8, 2) := by decide +kernel
theorem zd_Numbers_times_48 : decode ze_Numbers_times 48 = .ok (.lload 10, 2) := by decide +kernel
theorem zd_Numbers_times_50 : decode ze_Numbers_times 50 = .ok (.lmul, 1) := by decide +kernel
theorem zd_Numbers_times_51 : decode ze_Numbers_times 51 = .ok (.ladd, 1) := by decide +kernel
theorem zd_Numbers_times_52 : decode ze_Numbers_times 52 = .ok (.lload 4, 2) := by decide +kernel
theorem zd_Numbers_times_54 : decode ze_Numbers_times 54 = .ok (.lrem, 1) := by decide +kernel
theorem zd_Numbers_times_55 : decode ze_Numbers_times 55 = .ok (.lstore 16, 2) := by decide +kernel
theorem zd_Numbers_times_57 : decode ze_Numbers_times 57 = .ok (.lload 14, 2) := by decide +kernel
theorem zd_Numbers_times_59 : decode ze_Numbers_times 59 = .ok (.lload 16, 2) := by decide +kernel
theorem zd_Numbers_times_61 : decode ze_Numbers_times 61 = .ok (.ladd, 1) := by decide +kernel
theorem zd_Numbers_times_62 : decode ze_Numbers_times 62 = .ok (.lload 4, 2) := by decide +kernel
theorem zd_Numbers_times_64 : decode ze_Numbers_times 64 = .ok (.lrem, 1) := by decide +kernel
theorem zd_Numbers_times_65 : decode ze_Numbers_times 65 = .ok (.lload 4, 2) := by decide +kernel
theorem zd_Numbers_times_67 : decode ze_Numbers_times 67 = .ok (.invokestatic 39, 3) := by decide +kernel
theorem zd_Numbers_times_70 : decode ze_Numbers_times 70 = .ok (.lstore 18, 2) := by decide +kernel
theorem zd_Numbers_times_72 : decode ze_Numbers_times 72 = .ok (.lload 18, 2) := by decide +kernel
theorem zd_Numbers_times_74 : decode ze_Numbers_times 74 = .ok (.lload 8, 2) := by decide +kernel
theorem zd_Numbers_times_76 : decode ze_Numbers_times 76 = .ok (.lload 12, 2) := by decide +kernel
theorem zd_Numbers_times_78 : decode ze_Numbers_times 78 = .ok (.lmul, 1) := by decide +kernel
theorem zd_Numbers_times_79 : decode ze_Numbers_times 79 = .ok (.lload 4, 2) := by decide +kernel
theorem zd_Numbers_times_81 : decode ze_Numbers_times 81 = .ok (.lrem, 1) := by decide +kernel
theorem zd_Numbers_times_82 : decode ze_Numbers_times 82 = .ok (.ladd, 1) := by decide +kernel
theorem zd_Numbers_times_83 : decode ze_Numbers_times 83 = .ok (.lload 4, 2) := by decide +kernel
theorem zd_Numbers_times_85 : decode ze_Numbers_times 85 = .ok (.lrem, 1) := by decide +kernel
theorem zd_Numbers_times_86 : decode ze_Numbers_times 86 = .ok (.lreturn, 1) := by decide +kernel
theorem zd_Numbers_power_0 : decode ze_Numbers_power 0 = .ok (.lconst 1, 1) := by decide +kernel
theorem zd_Numbers_power_1 : decode ze_Numbers_power 1 = .ok (.lstore 6, 2) := by decide +kernel
theorem zd_Numbers_power_3 : decode ze_Numbers_power 3 = .ok (.lload_n 0, 1) := by decide +kernel
theorem zd_Numbers_power_4 : decode ze_Numbers_power 4 = .ok (.lstore 8, 2) := by decide +kernel
theorem zd_Numbers_power_6 : decode ze_Numbers_power 6 = .ok (.lload_n 2, 1) := by decide +kernel
theorem zd_Numbers_power_7 : decode ze_Numbers_power 7 = .ok (.lstore 10, 2) := by decide +kernel
theorem zd_Numbers_power_9 : decode ze_Numbers_power 9 = .ok (.lload 10, 2) := by decide +kernel
theorem zd_Numbers_power_11 : decode ze_Numbers_power 11 = .ok (.lconst 0, 1) := by decide +kernel
theorem zd_Numbers_power_12 : decode ze_Numbers_power 12 = .ok (.lcmp, 1) := by decide +kernel
theorem zd_Numbers_power_13 : decode ze_Numbers_power 13 = .ok (.ifCond .le 43, 3) := by decide +kernel
theorem zd_Numbers_power_16 : decode ze_Numbers_power 16 = .ok (.lload 10, 2) := by decide +kernel
theorem zd_Numbers_power_18 : decode ze_Numbers_power 18 = .ok (.lconst 1, 1) := by decide +kernel
theorem zd_Numbers_power_19 : decode ze_Numbers_power 19 = .ok (.land, 1) := by decide +kernel
theorem zd_Numbers_power_20 : decode ze_Numbers_power 20 = .ok (.lconst 1, 1) := by decide +kernel
theorem zd_Numbers_power_21 : decode ze_Numbers_power 21 = .ok (.lcmp, 1) := by decide +kernel
theorem zd_Numbers_power_22 : decode ze_Numbers_power 22 = .ok (.ifCond .ne 14, 3) := by decide +kernel
theorem zd_Numbers_power_25 : decode ze_Numbers_power 25 = .ok (.lload 6, 2) := by decide +kernel
theorem zd_Numbers_power_27 : decode ze_Numbers_power 27 = .ok (.lload 8, 2) := by decide +kernel
theorem zd_Numbers_power_29 : decode ze_Numbers_power 29 = .ok (.lload 4, 2) := by decide +kernel
theorem zd_Numbers_power_31 : decode ze_Numbers_power 31 = .ok (.invokestatic 36, 3) := by decide +kernel
theorem zd_Numbers_power_34 : decode ze_Numbers_power 34 = .ok (.lstore 6, 2) := by decide +kernel
theorem zd_Numbers_power_36 : decode ze_Numbers_power 36 = .ok (.lload 8, 2) := by decide +kernel
theorem zd_Numbers_power_38 : decode ze_Numbers_power 38 = .ok (.lload 8, 2) := by decide +kernel
theorem zd_Numbers_power_40 : decode ze_Numbers_power 40 = .ok (.lload 4, 2) := by decide +kernel
theorem zd_Numbers_power_42 : decode ze_Numbers_power 42 = .ok (.invokestatic 36, 3) := by decide +kernel
theorem zd_Numbers_power_45 : decode ze_Numbers_power 45 = .ok (.lstore 8, 2) := by decide +kernel
theorem zd_Numbers_power_47 : decode ze_Numbers_power 47 = .ok (.lload 10, 2) := by decide +kernel
theorem zd_Numbers_power_49 : decode ze_Numbers_power 49 = .ok (.iconst 1, 1) := by decide +kernel
theorem zd_Numbers_power_50 : decode ze_Numbers_power 50 = .ok (.lshr, 1) := by decide +kernel
theorem zd_Numbers_power_51 : decode ze_Numbers_power 51 = .ok (.lstore 10, 2) := by decide +kernel
theorem zd_Numbers_power_53 : decode ze_Numbers_power 53 = .ok (.goto (-44), 3) := by decide +kernel
theorem zd_Numbers_power_56 : decode ze_Numbers_power 56 = .ok (.lload 6, 2) := by decide +kernel
theorem zd_Numbers_power_58 : decode ze_Numbers_power 58 = .ok (.lreturn, 1) := by decide +kernel
theorem zd_Numbers_block_0 : decode ze_Numbers_block 0 = .ok (.ldc2_w 32, 3) := by decide +kernel
theorem zd_Numbers_block_3 : decode ze_Numbers_block 3 = .ok (.iload_n 0, 1) := by decide +kernel
theorem zd_Numbers_block_4 : decode ze_Numbers_block 4 = .ok (.i2l, 1) := by decide +kernel
theorem zd_Numbers_block_5 : decode ze_Numbers_block 5 = .ok (.ldc2_w 34, 3) := by decide +kernel
theorem zd_Numbers_block_8 : decode ze_Numbers_block 8 = .ok (.land, 1) := by decide +kernel
theorem zd_Numbers_block_9 : decode ze_Numbers_block 9 = .ok (.ladd, 1) := by decide +kernel
theorem zd_Numbers_block_10 : decode ze_Numbers_block 10 = .ok (.lreturn, 1) := by decide +kernel
theorem zd_Numbers_isGood_0 : decode ze_Numbers_isGood 0 = .ok (.lload_n 2, 1) := by decide +kernel
theorem zd_Numbers_isGood_1 : decode ze_Numbers_isGood 1 = .ok (.ldc2_w 24, 3) := by decide +kernel
theorem zd_Numbers_isGood_4 : decode ze_Numbers_isGood 4 = .ok (.lcmp, 1) := by decide +kernel
theorem zd_Numbers_isGood_5 : decode ze_Numbers_isGood 5 = .ok (.ifCond .lt 69, 3) := by decide +kernel
theorem zd_Numbers_isGood_8 : decode ze_Numbers_isGood 8 = .ok (.lload_n 2, 1) := by decide +kernel
theorem zd_Numbers_isGood_9 : decode ze_Numbers_isGood 9 = .ok (.ldc2_w 26, 3) := by decide +kernel
theorem zd_Numbers_isGood_12 : decode ze_Numbers_isGood 12 = .ok (.lcmp, 1) := by decide +kernel
theorem zd_Numbers_isGood_13 : decode ze_Numbers_isGood 13 = .ok (.ifCond .gt 61, 3) := by decide +kernel
theorem zd_Numbers_isGood_16 : decode ze_Numbers_isGood 16 = .ok (.lload_n 2, 1) := by decide +kernel
theorem zd_Numbers_isGood_17 : decode ze_Numbers_isGood 17 = .ok (.lconst 1, 1) := by decide +kernel
theorem zd_Numbers_isGood_18 : decode ze_Numbers_isGood 18 = .ok (.land, 1) := by decide +kernel
theorem zd_Numbers_isGood_19 : decode ze_Numbers_isGood 19 = .ok (.lconst 1, 1) := by decide +kernel
theorem zd_Numbers_isGood_20 : decode ze_Numbers_isGood 20 = .ok (.lcmp, 1) := by decide +kernel
theorem zd_Numbers_isGood_21 : decode ze_Numbers_isGood 21 = .ok (.ifCond .ne 53, 3) := by decide +kernel
theorem zd_Numbers_isGood_24 : decode ze_Numbers_isGood 24 = .ok (.lload 4, 2) := by decide +kernel
theorem zd_Numbers_isGood_26 : decode ze_Numbers_isGood 26 = .ok (.ldc2_w 28, 3) := by decide +kernel
theorem zd_Numbers_isGood_29 : decode ze_Numbers_isGood 29 = .ok (.lcmp, 1) := by decide +kernel
theorem zd_Numbers_isGood_30 : decode ze_Numbers_isGood 30 = .ok (.ifCond .lt 44, 3) := by decide +kernel
theorem zd_Numbers_isGood_33 : decode ze_Numbers_isGood 33 = .ok (.lload 4, 2) := by decide +kernel
theorem zd_Numbers_isGood_35 : decode ze_Numbers_isGood 35 = .ok (.ldc2_w 30, 3) := by decide +kernel
theorem zd_Numbers_isGood_38 : decode ze_Numbers_isGood 38 = .ok (.lcmp, 1) := by decide +kernel
theorem zd_Numbers_isGood_39 : decode ze_Numbers_isGood 39 = .ok (.ifCond .gt 35, 3) := by decide +kernel
theorem zd_Numbers_isGood_42 : decode ze_Numbers_isGood 42 = .ok (.lload_n 0, 1) := by decide +kernel
theorem zd_Numbers_isGood_43 : decode ze_Numbers_isGood 43 = .ok (.lconst 0, 1) := by decide +kernel
theorem zd_Numbers_isGood_44 : decode ze_Numbers_isGood 44 = .ok (.lcmp, 1) := by decide +kernel
theorem zd_Numbers_isGood_45 : decode ze_Numbers_isGood 45 = .ok (.ifCond .lt 29, 3) := by decide +kernel
theorem zd_Numbers_isGood_48 : decode ze_Numbers_isGood 48 = .ok (.lload_n 0, 1) := by decide +kernel
theorem zd_Numbers_isGood_49 : decode ze_Numbers_isGood 49 = .ok (.lload_n 2, 1) := by decide +kernel
theorem zd_Numbers_isGood_50 : decode ze_Numbers_isGood 50 = .ok (.lcmp, 1) := by decide +kernel
theorem zd_Numbers_isGood_51 : decode ze_Numbers_isGood 51 = .ok (.ifCond .ge 23, 3) := by decide +kernel
theorem zd_Numbers_isGood_54 : decode ze_Numbers_isGood 54 = .ok (.lload_n 0, 1) := by decide +kernel
theorem zd_Numbers_isGood_55 : decode ze_Numbers_isGood 55 = .ok (.lload 4, 2) := by decide +kernel
theorem zd_Numbers_isGood_57 : decode ze_Numbers_isGood 57 = .ok (.lload_n 2, 1) := by decide +kernel
theorem zd_Numbers_isGood_58 : decode ze_Numbers_isGood 58 = .ok (.invokestatic 20, 3) := by decide +kernel
theorem zd_Numbers_isGood_61 : decode ze_Numbers_isGood 61 = .ok (.iload 6, 2) := by decide +kernel
theorem zd_Numbers_isGood_63 : decode ze_Numbers_isGood 63 = .ok (.invokestatic 13, 3) := by decide +kernel
theorem zd_Numbers_isGood_66 : decode ze_Numbers_isGood 66 = .ok (.lcmp, 1) := by decide +kernel
theorem zd_Numbers_isGood_67 : decode ze_Numbers_isGood 67 = .ok (.ifCond .ne 7, 3) := by decide +kernel
theorem zd_Numbers_isGood_70 : decode ze_Numbers_isGood 70 = .ok (.iconst 1, 1) := by decide +kernel
theorem zd_Numbers_isGood_71 : decode ze_Numbers_isGood 71 = .ok (.goto 4, 3) := by decide +kernel
theorem zd_Numbers_isGood_74 : decode ze_Numbers_isGood 74 = .ok (.iconst 0, 1) := by decide +kernel
theorem zd_Numbers_isGood_75 : decode ze_Numbers_isGood 75 = .ok (.ireturn, 1) := by decide +kernel
theorem zd_V_good_0 : decode ze_V_good 0 = .ok (.lload_n 1, 1) := by decide +kernel
theorem zd_V_good_1 : decode ze_V_good 1 = .ok (.lload_n 3, 1) := by decide +kernel
theorem zd_V_good_2 : decode ze_V_good 2 = .ok (.lload 5, 2) := by decide +kernel
theorem zd_V_good_4 : decode ze_V_good 4 = .ok (.iload 7, 2) := by decide +kernel
theorem zd_V_good_6 : decode ze_V_good 6 = .ok (.invokestatic 156, 3) := by decide +kernel
theorem zd_V_good_9 : decode ze_V_good 9 = .ok (.ireturn, 1) := by decide +kernel
theorem zd_M_in_0 : decode ze_M_in 0 = .ok (.lload_n 0, 1) := by decide +kernel
theorem zd_M_in_1 : decode ze_M_in 1 = .ok (.lload_n 2, 1) := by decide +kernel
theorem zd_M_in_2 : decode ze_M_in 2 = .ok (.lcmp, 1) := by decide +kernel
theorem zd_M_in_3 : decode ze_M_in 3 = .ok (.ifCond .lt 14, 3) := by decide +kernel
theorem zd_M_in_6 : decode ze_M_in 6 = .ok (.lload_n 0, 1) := by decide +kernel
theorem zd_M_in_7 : decode ze_M_in 7 = .ok (.lload 4, 2) := by decide +kernel
theorem zd_M_in_9 : decode ze_M_in 9 = .ok (.lcmp, 1) := by decide +kernel
theorem zd_M_in_10 : decode ze_M_in 10 = .ok (.ifCond .gt 7, 3) := by decide +kernel
theorem zd_M_in_13 : decode ze_M_in 13 = .ok (.iconst 1, 1) := by decide +kernel
theorem zd_M_in_14 : decode ze_M_in 14 = .ok (.goto 4, 3) := by decide +kernel
theorem zd_M_in_17 : decode ze_M_in 17 = .ok (.iconst 0, 1) := by decide +kernel
theorem zd_M_in_18 : decode ze_M_in 18 = .ok (.ireturn, 1) := by decide +kernel
theorem zd_M_block_0 : decode ze_M_block 0 = .ok (.ldc2_w 106, 3) := by decide +kernel
theorem zd_M_block_3 : decode ze_M_block 3 = .ok (.iload_n 0, 1) := by decide +kernel
theorem zd_M_block_4 : decode ze_M_block 4 = .ok (.i2l, 1) := by decide +kernel
theorem zd_M_block_5 : decode ze_M_block 5 = .ok (.ldc2_w 108, 3) := by decide +kernel
theorem zd_M_block_8 : decode ze_M_block 8 = .ok (.land, 1) := by decide +kernel
theorem zd_M_block_9 : decode ze_M_block 9 = .ok (.ladd, 1) := by decide +kernel
theorem zd_M_block_10 : decode ze_M_block 10 = .ok (.lreturn, 1) := by decide +kernel
theorem zd_M_times_0 : decode ze_M_times 0 = .ok (.lconst 0, 1) := by decide +kernel
theorem zd_M_times_1 : decode ze_M_times 1 = .ok (.lstore 6, 2) := by decide +kernel
theorem zd_M_times_3 : decode ze_M_times 3 = .ok (.lload_n 0, 1) := by decide +kernel
theorem zd_M_times_4 : decode ze_M_times 4 = .ok (.lload 4, 2) := by decide +kernel
theorem zd_M_times_6 : decode ze_M_times 6 = .ok (.lrem, 1) := by decide +kernel
theorem zd_M_times_7 : decode ze_M_times 7 = .ok (.lstore 8, 2) := by decide +kernel
theorem zd_M_times_9 : decode ze_M_times 9 = .ok (.lload_n 2, 1) := by decide +kernel
theorem zd_M_times_10 : decode ze_M_times 10 = .ok (.lstore 10, 2) := by decide +kernel
theorem zd_M_times_12 : decode ze_M_times 12 = .ok (.lload 10, 2) := by decide +kernel
theorem zd_M_times_14 : decode ze_M_times 14 = .ok (.lconst 0, 1) := by decide +kernel
theorem zd_M_times_15 : decode ze_M_times 15 = .ok (.lcmp, 1) := by decide +kernel
theorem zd_M_times_16 : decode ze_M_times 16 = .ok (.ifCond .le 41, 3) := by decide +kernel
theorem zd_M_times_19 : decode ze_M_times 19 = .ok (.lload 10, 2) := by decide +kernel
theorem zd_M_times_21 : decode ze_M_times 21 = .ok (.lconst 1, 1) := by decide +kernel
theorem zd_M_times_22 : decode ze_M_times 22 = .ok (.land, 1) := by decide +kernel
theorem zd_M_times_23 : decode ze_M_times 23 = .ok (.lconst 1, 1) := by decide +kernel
theorem zd_M_times_24 : decode ze_M_times 24 = .ok (.lcmp, 1) := by decide +kernel
theorem zd_M_times_25 : decode ze_M_times 25 = .ok (.ifCond .ne 13, 3) := by decide +kernel
theorem zd_M_times_28 : decode ze_M_times 28 = .ok (.lload 6, 2) := by decide +kernel
theorem zd_M_times_30 : decode ze_M_times 30 = .ok (.lload 8, 2) := by decide +kernel
theorem zd_M_times_32 : decode ze_M_times 32 = .ok (.ladd, 1) := by decide +kernel
theorem zd_M_times_33 : decode ze_M_times 33 = .ok (.lload 4, 2) := by decide +kernel
theorem zd_M_times_35 : decode ze_M_times 35 = .ok (.lrem, 1) := by decide +kernel
theorem zd_M_times_36 : decode ze_M_times 36 = .ok (.lstore 6, 2) := by decide +kernel
theorem zd_M_times_38 : decode ze_M_times 38 = .ok (.lload 8, 2) := by decide +kernel
theorem zd_M_times_40 : decode ze_M_times 40 = .ok (.lload 8, 2) := by decide +kernel
theorem zd_M_times_42 : decode ze_M_times 42 = .ok (.ladd, 1) := by decide +kernel
theorem zd_M_times_43 : decode ze_M_times 43 = .ok (.lload 4, 2) := by decide +kernel
theorem zd_M_times_45 : decode ze_M_times 45 = .ok (.lrem, 1) := by decide +kernel
theorem zd_M_times_46 : decode ze_M_times 46 = .ok (.lstore 8, 2) := by decide +kernel
theorem zd_M_times_48 : decode ze_M_times 48 = .ok (.lload 10, 2) := by decide +kernel
theorem zd_M_times_50 : decode ze_M_times 50 = .ok (.iconst 1, 1) := by decide +kernel
theorem zd_M_times_51 : decode ze_M_times 51 = .ok (.lshr, 1) := by decide +kernel
theorem zd_M_times_52 : decode ze_M_times 52 = .ok (.lstore 10, 2) := by decide +kernel
theorem zd_M_times_54 : decode ze_M_times 54 = .ok (.goto (-42), 3) := by decide +kernel
theorem zd_M_times_57 : decode ze_M_times 57 = .ok (.lload 6, 2) := by decide +kernel
theorem zd_M_times_59 : decode ze_M_times 59 = .ok (.lreturn, 1) := by decide +kernel
theorem zd_M_power_0 : decode ze_M_power 0 = .ok (.lconst 1, 1) := by decide +kernel
theorem zd_M_power_1 : decode ze_M_power 1 = .ok (.lload 4, 2) := by decide +kernel
theorem zd_M_power_3 : decode ze_M_power 3 = .ok (.lrem, 1) := by decide +kernel
theorem zd_M_power_4 : decode ze_M_power 4 = .ok (.lstore 6, 2) := by decide +kernel
theorem zd_M_power_6 : decode ze_M_power 6 = .ok (.lload_n 0, 1) := by decide +kernel
theorem zd_M_power_7 : decode ze_M_power 7 = .ok (.lload 4, 2) := by decide +kernel
theorem zd_M_power_9 : decode ze_M_power 9 = .ok (.lrem, 1) := by decide +kernel
theorem zd_M_power_10 : decode ze_M_power 10 = .ok (.lstore 8, 2) := by decide +kernel
theorem zd_M_power_12 : decode ze_M_power 12 = .ok (.lload_n 2, 1) := by decide +kernel
theorem zd_M_power_13 : decode ze_M_power 13 = .ok (.lstore 10, 2) := by decide +kernel
theorem zd_M_power_15 : decode ze_M_power 15 = .ok (.lload 10, 2) := by decide +kernel
theorem zd_M_power_17 : decode ze_M_power 17 = .ok (.lconst 0, 1) := by decide +kernel
theorem zd_M_power_18 : decode ze_M_power 18 = .ok (.lcmp, 1) := by decide +kernel
theorem zd_M_power_19 : decode ze_M_power 19 = .ok (.ifCond .le 43, 3) := by decide +kernel
theorem zd_M_power_22 : decode ze_M_power 22 = .ok (.lload 10, 2) := by decide +kernel
theorem zd_M_power_24 : decode ze_M_power 24 = .ok (.lconst 1, 1) := by decide +kernel
theorem zd_M_power_25 : decode ze_M_power 25 = .ok (.land, 1) := by decide +kernel
theorem zd_M_power_26 : decode ze_M_power 26 = .ok (.lconst 1, 1) := by decide +kernel
theorem zd_M_power_27 : decode ze_M_power 27 = .ok (.lcmp, 1) := by decide +kernel
theorem zd_M_power_28 : decode ze_M_power 28 = .ok (.ifCond .ne 14, 3) := by decide +kernel
theorem zd_M_power_31 : decode ze_M_power 31 = .ok (.lload 6, 2) := by decide +kernel
theorem zd_M_power_33 : decode ze_M_power 33 = .ok (.lload 8, 2) := by decide +kernel
theorem zd_M_power_35 : decode ze_M_power 35 = .ok (.lload 4, 2) := by decide +kernel
theorem zd_M_power_37 : decode ze_M_power 37 = .ok (.invokestatic 102, 3) := by decide +kernel
theorem zd_M_power_40 : decode ze_M_power 40 = .ok (.lstore 6, 2) := by decide +kernel
theorem zd_M_power_42 : decode ze_M_power 42 = .ok (.lload 8, 2) := by decide +kernel
theorem zd_M_power_44 : decode ze_M_power 44 = .ok (.lload 8, 2) := by decide +kernel
theorem zd_M_power_46 : decode ze_M_power 46 = .ok (.lload 4, 2) := by decide +kernel
theorem zd_M_power_48 : decode ze_M_power 48 = .ok (.invokestatic 102, 3) := by decide +kernel
theorem zd_M_power_51 : decode ze_M_power 51 = .ok (.lstore 8, 2) := by decide +kernel
theorem zd_M_power_53 : decode ze_M_power 53 = .ok (.lload 10, 2) := by decide +kernel
theorem zd_M_power_55 : decode ze_M_power 55 = .ok (.iconst 1, 1) := by decide +kernel
theorem zd_M_power_56 : decode ze_M_power 56 = .ok (.lshr, 1) := by decide +kernel
theorem zd_M_power_57 : decode ze_M_power 57 = .ok (.lstore 10, 2) := by decide +kernel
theorem zd_M_power_59 : decode ze_M_power 59 = .ok (.goto (-44), 3) := by decide +kernel
theorem zd_M_power_62 : decode ze_M_power 62 = .ok (.lload 6, 2) := by decide +kernel
theorem zd_M_power_64 : decode ze_M_power 64 = .ok (.lreturn, 1) := by decide +kernel
theorem zd_M_good_0 : decode ze_M_good 0 = .ok (.lload_n 1, 1) := by decide +kernel
theorem zd_M_good_1 : decode ze_M_good 1 = .ok (.lconst 0, 1) := by decide +kernel
theorem zd_M_good_2 : decode ze_M_good 2 = .ok (.lcmp, 1) := by decide +kernel
theorem zd_M_good_3 : decode ze_M_good 3 = .ok (.ifCond .lt 46, 3) := by decide +kernel
theorem zd_M_good_6 : decode ze_M_good 6 = .ok (.lload_n 3, 1) := by decide +kernel
theorem zd_M_good_7 : decode ze_M_good 7 = .ok (.ldc2_w 119, 3) := by decide +kernel
theorem zd_M_good_10 : decode ze_M_good 10 = .ok (.lrem, 1) := by decide +kernel
theorem zd_M_good_11 : decode ze_M_good 11 = .ok (.lconst 1, 1) := by decide +kernel
theorem zd_M_good_12 : decode ze_M_good 12 = .ok (.lcmp, 1) := by decide +kernel
theorem zd_M_good_13 : decode ze_M_good 13 = .ok (.ifCond .ne 36, 3) := by decide +kernel
theorem zd_M_good_16 : decode ze_M_good 16 = .ok (.lload_n 3, 1) := by decide +kernel
theorem zd_M_good_17 : decode ze_M_good 17 = .ok (.ldc2_w 121, 3) := by decide +kernel
theorem zd_M_good_20 : decode ze_M_good 20 = .ok (.ldc2_w 123, 3) := by decide +kernel
theorem zd_M_good_23 : decode ze_M_good 23 = .ok (.invokestatic 125, 3) := by decide +kernel
theorem zd_M_good_26 : decode ze_M_good 26 = .ok (.ifCond .eq 23, 3) := by decide +kernel
theorem zd_M_good_29 : decode ze_M_good 29 = .ok (.lload 5, 2) := by decide +kernel
theorem zd_M_good_31 : decode ze_M_good 31 = .ok (.ldc2_w 38, 3) := by decide +kernel
theorem zd_M_good_34 : decode ze_M_good 34 = .ok (.ldc2_w 129, 3) := by decide +kernel
theorem zd_M_good_37 : decode ze_M_good 37 = .ok (.invokestatic 125, 3) := by decide +kernel
theorem zd_M_good_40 : decode ze_M_good 40 = .ok (.ifCond .eq 9, 3) := by decide +kernel
theorem zd_M_good_43 : decode ze_M_good 43 = .ok (.lload_n 1, 1) := by decide +kernel
theorem zd_M_good_44 : decode ze_M_good 44 = .ok (.lload_n 3, 1) := by decide +kernel
theorem zd_M_good_45 : decode ze_M_good 45 = .ok (.lcmp, 1) := by decide +kernel
theorem zd_M_good_46 : decode ze_M_good 46 = .ok (.ifCond .lt 5, 3) := by decide +kernel
theorem zd_M_good_49 : decode ze_M_good 49 = .ok (.iconst 0, 1) := by decide +kernel
theorem zd_M_good_50 : decode ze_M_good 50 = .ok (.ireturn, 1) := by decide +kernel
theorem zd_M_good_51 : decode ze_M_good 51 = .ok (.iload 7, 2) := by decide +kernel
theorem zd_M_good_53 : decode ze_M_good 53 = .ok (.invokestatic 112, 3) := by decide +kernel
theorem zd_M_good_56 : decode ze_M_good 56 = .ok (.lstore 8, 2) := by decide +kernel
theorem zd_M_good_58 : decode ze_M_good 58 = .ok (.lload_n 1, 1) := by decide +kernel
theorem zd_M_good_59 : decode ze_M_good 59 = .ok (.lload 5, 2) := by decide +kernel
theorem zd_M_good_61 : decode ze_M_good 61 = .ok (.lload_n 3, 1) := by decide +kernel
theorem zd_M_good_62 : decode ze_M_good 62 = .ok (.invokestatic 116, 3) := by decide +kernel
theorem zd_M_good_65 : decode ze_M_good 65 = .ok (.lload 8, 2) := by decide +kernel
theorem zd_M_good_67 : decode ze_M_good 67 = .ok (.lcmp, 1) := by decide +kernel
theorem zd_M_good_68 : decode ze_M_good 68 = .ok (.ifCond .ne 7, 3) := by decide +kernel
theorem zd_M_good_71 : decode ze_M_good 71 = .ok (.iconst 1, 1) := by decide +kernel
theorem zd_M_good_72 : decode ze_M_good 72 = .ok (.goto 4, 3) := by decide +kernel
theorem zd_M_good_75 : decode ze_M_good 75 = .ok (.iconst 0, 1) := by decide +kernel
theorem zd_M_good_76 : decode ze_M_good 76 = .ok (.ireturn, 1) := by decide +kernel
theorem zd_Numbers_isKey_0 : decode ze_Numbers_isKey 0 = .ok (.lload_n 0, 1) := by decide +kernel
theorem zd_Numbers_isKey_1 : decode ze_Numbers_isKey 1 = .ok (.lconst 0, 1) := by decide +kernel
theorem zd_Numbers_isKey_2 : decode ze_Numbers_isKey 2 = .ok (.lcmp, 1) := by decide +kernel
theorem zd_Numbers_isKey_3 : decode ze_Numbers_isKey 3 = .ok (.ifCond .lt 17, 3) := by decide +kernel
theorem zd_Numbers_isKey_6 : decode ze_Numbers_isKey 6 = .ok (.lload_n 0, 1) := by decide +kernel
theorem zd_Numbers_isKey_7 : decode ze_Numbers_isKey 7 = .ok (.getstatic 9, 3) := by decide +kernel
theorem zd_Numbers_isKey_10 : decode ze_Numbers_isKey 10 = .ok (.arraylength, 1) := by decide +kernel
theorem zd_Numbers_isKey_11 : decode ze_Numbers_isKey 11 = .ok (.i2l, 1) := by decide +kernel
theorem zd_Numbers_isKey_12 : decode ze_Numbers_isKey 12 = .ok (.lcmp, 1) := by decide +kernel
theorem zd_Numbers_isKey_13 : decode ze_Numbers_isKey 13 = .ok (.ifCond .ge 7, 3) := by decide +kernel
theorem zd_Numbers_isKey_16 : decode ze_Numbers_isKey 16 = .ok (.iconst 1, 1) := by decide +kernel
theorem zd_Numbers_isKey_17 : decode ze_Numbers_isKey 17 = .ok (.goto 4, 3) := by decide +kernel
theorem zd_Numbers_isKey_20 : decode ze_Numbers_isKey 20 = .ok (.iconst 0, 1) := by decide +kernel
theorem zd_Numbers_isKey_21 : decode ze_Numbers_isKey 21 = .ok (.ireturn, 1) := by decide +kernel
theorem zd_Numbers_signature_0 : decode ze_Numbers_signature 0 = .ok (.iload_n 1, 1) := by decide +kernel
theorem zd_Numbers_signature_1 : decode ze_Numbers_signature 1 = .ok (.invokestatic 13, 3) := by decide +kernel
theorem zd_Numbers_signature_4 : decode ze_Numbers_signature 4 = .ok (.getstatic 17, 3) := by decide +kernel
theorem zd_Numbers_signature_7 : decode ze_Numbers_signature 7 = .ok (.iload_n 0, 1) := by decide +kernel
theorem zd_Numbers_signature_8 : decode ze_Numbers_signature 8 = .ok (.laload, 1) := by decide +kernel
theorem zd_Numbers_signature_9 : decode ze_Numbers_signature 9 = .ok (.getstatic 9, 3) := by decide +kernel
theorem zd_Numbers_signature_12 : decode ze_Numbers_signature 12 = .ok (.iload_n 0, 1) := by decide +kernel
theorem zd_Numbers_signature_13 : decode ze_Numbers_signature 13 = .ok (.laload, 1) := by decide +kernel
theorem zd_Numbers_signature_14 : decode ze_Numbers_signature 14 = .ok (.invokestatic 20, 3) := by decide +kernel
theorem zd_Numbers_signature_17 : decode ze_Numbers_signature 17 = .ok (.lreturn, 1) := by decide +kernel
theorem zd_V_sign_0 : decode ze_V_sign 0 = .ok (.iload_n 1, 1) := by decide +kernel
theorem zd_V_sign_1 : decode ze_V_sign 1 = .ok (.i2l, 1) := by decide +kernel
theorem zd_V_sign_2 : decode ze_V_sign 2 = .ok (.invokestatic 146, 3) := by decide +kernel
theorem zd_V_sign_5 : decode ze_V_sign 5 = .ok (.ifCond .eq 11, 3) := by decide +kernel
theorem zd_V_sign_8 : decode ze_V_sign 8 = .ok (.iload_n 1, 1) := by decide +kernel
theorem zd_V_sign_9 : decode ze_V_sign 9 = .ok (.iload_n 2, 1) := by decide +kernel
theorem zd_V_sign_10 : decode ze_V_sign 10 = .ok (.invokestatic 152, 3) := by decide +kernel
theorem zd_V_sign_13 : decode ze_V_sign 13 = .ok (.goto 6, 3) := by decide +kernel
theorem zd_V_sign_16 : decode ze_V_sign 16 = .ok (.ldc2_w 122, 3) := by decide +kernel
theorem zd_V_sign_19 : decode ze_V_sign 19 = .ok (.lreturn, 1) := by decide +kernel
theorem zd_M_sign_0 : decode ze_M_sign 0 = .ok (.iload_n 1, 1) := by decide +kernel
theorem zd_M_sign_1 : decode ze_M_sign 1 = .ok (.ifCond .lt 8, 3) := by decide +kernel
theorem zd_M_sign_4 : decode ze_M_sign 4 = .ok (.iload_n 1, 1) := by decide +kernel
theorem zd_M_sign_5 : decode ze_M_sign 5 = .ok (.iconst 5, 1) := by decide +kernel
theorem zd_M_sign_6 : decode ze_M_sign 6 = .ok (.if_icmp .le 7, 3) := by decide +kernel
theorem zd_M_sign_9 : decode ze_M_sign 9 = .ok (.ldc2_w 100, 3) := by decide +kernel
theorem zd_M_sign_12 : decode ze_M_sign 12 = .ok (.lreturn, 1) := by decide +kernel
theorem zd_M_sign_13 : decode ze_M_sign 13 = .ok (.iload_n 2, 1) := by decide +kernel
theorem zd_M_sign_14 : decode ze_M_sign 14 = .ok (.invokestatic 112, 3) := by decide +kernel
theorem zd_M_sign_17 : decode ze_M_sign 17 = .ok (.lstore_n 3, 1) := by decide +kernel
theorem zd_M_sign_18 : decode ze_M_sign 18 = .ok (.lload_n 3, 1) := by decide +kernel
theorem zd_M_sign_19 : decode ze_M_sign 19 = .ok (.aload_n 0, 1) := by decide +kernel
theorem zd_M_sign_20 : decode ze_M_sign 20 = .ok (.getfield 65, 3) := by decide +kernel
theorem zd_M_sign_23 : decode ze_M_sign 23 = .ok (.iload_n 1, 1) := by decide +kernel
theorem zd_M_sign_24 : decode ze_M_sign 24 = .ok (.laload, 1) := by decide +kernel
theorem zd_M_sign_25 : decode ze_M_sign 25 = .ok (.aload_n 0, 1) := by decide +kernel
theorem zd_M_sign_26 : decode ze_M_sign 26 = .ok (.getfield 35, 3) := by decide +kernel
theorem zd_M_sign_29 : decode ze_M_sign 29 = .ok (.iload_n 1, 1) := by decide +kernel
theorem zd_M_sign_30 : decode ze_M_sign 30 = .ok (.laload, 1) := by decide +kernel
theorem zd_M_sign_31 : decode ze_M_sign 31 = .ok (.invokestatic 116, 3) := by decide +kernel
theorem zd_M_sign_34 : decode ze_M_sign 34 = .ok (.lreturn, 1) := by decide +kernel
theorem zd_V_candidates_0 : decode ze_V_candidates 0 = .ok (.aload_n 0, 1) := by decide +kernel
theorem zd_V_candidates_1 : decode ze_V_candidates 1 = .ok (.getfield 30, 3) := by decide +kernel
theorem zd_V_candidates_4 : decode ze_V_candidates 4 = .ok (.ifnonnull 7, 3) := by decide +kernel
theorem zd_V_candidates_7 : decode ze_V_candidates 7 = .ok (.iconst 0, 1) := by decide +kernel
theorem zd_V_candidates_8 : decode ze_V_candidates 8 = .ok (.goto 10, 3) := by decide +kernel
theorem zd_V_candidates_11 : decode ze_V_candidates 11 = .ok (.aload_n 0, 1) := by decide +kernel
theorem zd_V_candidates_12 : decode ze_V_candidates 12 = .ok (.getfield 30, 3) := by decide +kernel
theorem zd_V_candidates_15 : decode ze_V_candidates 15 = .ok (.getfield 143, 3) := by decide +kernel
theorem zd_V_candidates_18 : decode ze_V_candidates 18 = .ok (.ireturn, 1) := by decide +kernel
theorem zd_M_candidates_0 : decode ze_M_candidates 0 = .ok (.aload_n 0, 1) := by decide +kernel
theorem zd_M_candidates_1 : decode ze_M_candidates 1 = .ok (.getfield 299, 3) := by decide +kernel
theorem zd_M_candidates_4 : decode ze_M_candidates 4 = .ok (.ireturn, 1) := by decide +kernel
theorem zd_Search_foundAt_0 : decode ze_Search_foundAt 0 = .ok (.iload_n 1, 1) := by decide +kernel
theorem zd_Search_foundAt_1 : decode ze_Search_foundAt 1 = .ok (.ifCond .lt 27, 3) := by decide +kernel
theorem zd_Search_foundAt_4 : decode ze_Search_foundAt 4 = .ok (.iload_n 1, 1) := by decide +kernel
theorem zd_Search_foundAt_5 : decode ze_Search_foundAt 5 = .ok (.aload_n 0, 1) := by decide +kernel
theorem zd_Search_foundAt_6 : decode ze_Search_foundAt 6 = .ok (.getfield 15, 3) := by decide +kernel
theorem zd_Search_foundAt_9 : decode ze_Search_foundAt 9 = .ok (.if_icmp .ge 19, 3) := by decide +kernel
theorem zd_Search_foundAt_12 : decode ze_Search_foundAt 12 = .ok (.aload_n 0, 1) := by decide +kernel
theorem zd_Search_foundAt_13 : decode ze_Search_foundAt 13 = .ok (.getfield 9, 3) := by decide +kernel
theorem zd_Search_foundAt_16 : decode ze_Search_foundAt 16 = .ok (.aload_n 0, 1) := by decide +kernel
theorem zd_Search_foundAt_17 : decode ze_Search_foundAt 17 = .ok (.getfield 15, 3) := by decide +kernel
theorem zd_Search_foundAt_20 : decode ze_Search_foundAt 20 = .ok (.iconst 1, 1) := by decide +kernel
theorem zd_Search_foundAt_21 : decode ze_Search_foundAt 21 = .ok (.isub, 1) := by decide +kernel
theorem zd_Search_foundAt_22 : decode ze_Search_foundAt 22 = .ok (.iload_n 1, 1) := by decide +kernel
theorem zd_Search_foundAt_23 : decode ze_Search_foundAt 23 = .ok (.isub, 1) := by decide +kernel
theorem zd_Search_foundAt_24 : decode ze_Search_foundAt 24 = .ok (.iaload, 1) := by decide +kernel
theorem zd_Search_foundAt_25 : decode ze_Search_foundAt 25 = .ok (.goto 4, 3) := by decide +kernel
theorem zd_Search_foundAt_28 : decode ze_Search_foundAt 28 = .ok (.iconst (-1), 1) := by decide +kernel
theorem zd_Search_foundAt_29 : decode ze_Search_foundAt 29 = .ok (.ireturn, 1) := by decide +kernel
theorem zd_V_chain_0 : decode ze_V_chain 0 = .ok (.aload_n 0, 1) := by decide +kernel
theorem zd_V_chain_1 : decode ze_V_chain 1 = .ok (.getfield 30, 3) := by decide +kernel
theorem zd_V_chain_4 : decode ze_V_chain 4 = .ok (.ifnonnull 7, 3) := by decide +kernel
theorem zd_V_chain_7 : decode ze_V_chain 7 = .ok (.iconst (-1), 1) := by decide +kernel
theorem zd_V_chain_8 : decode ze_V_chain 8 = .ok (.goto 11, 3) := by decide +kernel
theorem zd_V_chain_11 : decode ze_V_chain 11 = .ok (.aload_n 0, 1) := by decide +kernel
theorem zd_V_chain_12 : decode ze_V_chain 12 = .ok (.getfield 30, 3) := by decide +kernel
theorem zd_V_chain_15 : decode ze_V_chain 15 = .ok (.iload_n 1, 1) := by decide +kernel
theorem zd_V_chain_16 : decode ze_V_chain 16 = .ok (.invokevirtual 140, 3) := by decide +kernel
theorem zd_V_chain_19 : decode ze_V_chain 19 = .ok (.ireturn, 1) := by decide +kernel
theorem zd_M_chain_0 : decode ze_M_chain 0 = .ok (.iload_n 1, 1) := by decide +kernel
theorem zd_M_chain_1 : decode ze_M_chain 1 = .ok (.ifCond .lt 11, 3) := by decide +kernel
theorem zd_M_chain_4 : decode ze_M_chain 4 = .ok (.iload_n 1, 1) := by decide +kernel
theorem zd_M_chain_5 : decode ze_M_chain 5 = .ok (.aload_n 0, 1) := by decide +kernel
theorem zd_M_chain_6 : decode ze_M_chain 6 = .ok (.getfield 313, 3) := by decide +kernel
theorem zd_M_chain_9 : decode ze_M_chain 9 = .ok (.if_icmp .lt 7, 3) := by decide +kernel
theorem zd_M_chain_12 : decode ze_M_chain 12 = .ok (.iconst (-1), 1) := by decide +kernel
theorem zd_M_chain_13 : decode ze_M_chain 13 = .ok (.goto 9, 3) := by decide +kernel
theorem zd_M_chain_16 : decode ze_M_chain 16 = .ok (.aload_n 0, 1) := by decide +kernel
theorem zd_M_chain_17 : decode ze_M_chain 17 = .ok (.getfield 95, 3) := by decide +kernel
theorem zd_M_chain_20 : decode ze_M_chain 20 = .ok (.iload_n 1, 1) := by decide +kernel
theorem zd_M_chain_21 : decode ze_M_chain 21 = .ok (.iaload, 1) := by decide +kernel
theorem zd_M_chain_22 : decode ze_M_chain 22 = .ok (.ireturn, 1) := by decide +kernel
theorem zd_Shelf_hasCertificate_0 : decode ze_Shelf_hasCertificate 0 = .ok (.iload_n 1, 1) := by decide +kernel
theorem zd_Shelf_hasCertificate_1 : decode ze_Shelf_hasCertificate 1 = .ok (.ifCond .lt 15, 3) := by decide +kernel
theorem zd_Shelf_hasCertificate_4 : decode ze_Shelf_hasCertificate 4 = .ok (.iload_n 1, 1) := by decide +kernel
theorem zd_Shelf_hasCertificate_5 : decode ze_Shelf_hasCertificate 5 = .ok (.aload_n 0, 1) := by decide +kernel
theorem zd_Shelf_hasCertificate_6 : decode ze_Shelf_hasCertificate 6 = .ok (.getfield 23, 3) := by decide +kernel
theorem zd_Shelf_hasCertificate_9 : decode ze_Shelf_hasCertificate 9 = .ok (.if_icmp .ge 7, 3) := by decide +kernel
theorem zd_Shelf_hasCertificate_12 : decode ze_Shelf_hasCertificate 12 = .ok (.iconst 1, 1) := by decide +kernel
theorem zd_Shelf_hasCertificate_13 : decode ze_Shelf_hasCertificate 13 = .ok (.goto 4, 3) := by decide +kernel
theorem zd_Shelf_hasCertificate_16 : decode ze_Shelf_hasCertificate 16 = .ok (.iconst 0, 1) := by decide +kernel
theorem zd_Shelf_hasCertificate_17 : decode ze_Shelf_hasCertificate 17 = .ok (.ireturn, 1) := by decide +kernel
theorem zd_Search_init_0 : decode ze_Search_init 0 = .ok (.aload_n 0, 1) := by decide +kernel
theorem zd_Search_init_1 : decode ze_Search_init 1 = .ok (.invokespecial 3, 3) := by decide +kernel
theorem zd_Search_init_4 : decode ze_Search_init 4 = .ok (.aload_n 0, 1) := by decide +kernel
theorem zd_Search_init_5 : decode ze_Search_init 5 = .ok (.iconst 5, 1) := by decide +kernel
theorem zd_Search_init_6 : decode ze_Search_init 6 = .ok (.newarray .int, 2) := by decide +kernel
theorem zd_Search_init_8 : decode ze_Search_init 8 = .ok (.putfield 9, 3) := by decide +kernel
theorem zd_Search_init_11 : decode ze_Search_init 11 = .ok (.aload_n 0, 1) := by decide +kernel
theorem zd_Search_init_12 : decode ze_Search_init 12 = .ok (.iconst 0, 1) := by decide +kernel
theorem zd_Search_init_13 : decode ze_Search_init 13 = .ok (.putfield 15, 3) := by decide +kernel
theorem zd_Search_init_16 : decode ze_Search_init 16 = .ok (.aload_n 0, 1) := by decide +kernel
theorem zd_Search_init_17 : decode ze_Search_init 17 = .ok (.iconst 0, 1) := by decide +kernel
theorem zd_Search_init_18 : decode ze_Search_init 18 = .ok (.putfield 19, 3) := by decide +kernel
theorem zd_Search_init_21 : decode ze_Search_init 21 = .ok (.aload_n 0, 1) := by decide +kernel
theorem zd_Search_init_22 : decode ze_Search_init 22 = .ok (.iconst 0, 1) := by decide +kernel
theorem zd_Search_init_23 : decode ze_Search_init 23 = .ok (.putfield 22, 3) := by decide +kernel
theorem zd_Search_init_26 : decode ze_Search_init 26 = .ok (.aload_n 0, 1) := by decide +kernel
theorem zd_Search_init_27 : decode ze_Search_init 27 = .ok (.aload_n 1, 1) := by decide +kernel
theorem zd_Search_init_28 : decode ze_Search_init 28 = .ok (.putfield 25, 3) := by decide +kernel
theorem zd_Search_init_31 : decode ze_Search_init 31 = .ok (.aload_n 0, 1) := by decide +kernel
theorem zd_Search_init_32 : decode ze_Search_init 32 = .ok (.lload_n 2, 1) := by decide +kernel
theorem zd_Search_init_33 : decode ze_Search_init 33 = .ok (.putfield 29, 3) := by decide +kernel
theorem zd_Search_init_36 : decode ze_Search_init 36 = .ok (.aload_n 0, 1) := by decide +kernel
theorem zd_Search_init_37 : decode ze_Search_init 37 = .ok (.iload 4, 2) := by decide +kernel
theorem zd_Search_init_39 : decode ze_Search_init 39 = .ok (.putfield 33, 3) := by decide +kernel
theorem zd_Search_init_42 : decode ze_Search_init 42 = .ok (.aload_n 0, 1) := by decide +kernel
theorem zd_Search_init_43 : decode ze_Search_init 43 = .ok (.iload 5, 2) := by decide +kernel
theorem zd_Search_init_45 : decode ze_Search_init 45 = .ok (.putfield 36, 3) := by decide +kernel
theorem zd_Search_init_48 : decode ze_Search_init 48 = .ok (.return_, 1) := by decide +kernel
theorem zd_Search_inPart_0 : decode ze_Search_inPart 0 = .ok (.aload_n 0, 1) := by decide +kernel
theorem zd_Search_inPart_1 : decode ze_Search_inPart 1 = .ok (.getfield 25, 3) := by decide +kernel
theorem zd_Search_inPart_4 : decode ze_Search_inPart 4 = .ok (.getfield 68, 3) := by decide +kernel
theorem zd_Search_inPart_7 : decode ze_Search_inPart 7 = .ok (.aload_n 0, 1) := by decide +kernel
theorem zd_Search_inPart_8 : decode ze_Search_inPart 8 = .ok (.getfield 9, 3) := by decide +kernel
theorem zd_Search_inPart_11 : decode ze_Search_inPart 11 = .ok (.iload_n 1, 1) := by decide +kernel
theorem zd_Search_inPart_12 : decode ze_Search_inPart 12 = .ok (.iaload, 1) := by decide +kernel
theorem zd_Search_inPart_13 : decode ze_Search_inPart 13 = .ok (.aaload, 1) := by decide +kernel
theorem zd_Search_inPart_14 : decode ze_Search_inPart 14 = .ok (.areturn, 1) := by decide +kernel
theorem zd_Search_isInPart_0 : decode ze_Search_isInPart 0 = .ok (.iconst 0, 1) := by decide +kernel
theorem zd_Search_isInPart_1 : decode ze_Search_isInPart 1 = .ok (.istore_n 3, 1) := by decide +kernel
theorem zd_Search_isInPart_2 : decode ze_Search_isInPart 2 = .ok (.iload_n 3, 1) := by decide +kernel
theorem zd_Search_isInPart_3 : decode ze_Search_isInPart 3 = .ok (.iload_n 2, 1) := by decide +kernel
theorem zd_Search_isInPart_4 : decode ze_Search_isInPart 4 = .ok (.if_icmp .ge 21, 3) := by decide +kernel
theorem zd_Search_isInPart_7 : decode ze_Search_isInPart 7 = .ok (.aload_n 0, 1) := by decide +kernel
theorem zd_Search_isInPart_8 : decode ze_Search_isInPart 8 = .ok (.getfield 9, 3) := by decide +kernel
theorem zd_Search_isInPart_11 : decode ze_Search_isInPart 11 = .ok (.iload_n 3, 1) := by decide +kernel
theorem zd_Search_isInPart_12 : decode ze_Search_isInPart 12 = .ok (.iaload, 1) := by decide +kernel
theorem zd_Search_isInPart_13 : decode ze_Search_isInPart 13 = .ok (.iload_n 1, 1) := by decide +kernel
theorem zd_Search_isInPart_14 : decode ze_Search_isInPart 14 = .ok (.if_icmp .ne 5, 3) := by decide +kernel
theorem zd_Search_isInPart_17 : decode ze_Search_isInPart 17 = .ok (.iconst 1, 1) := by decide +kernel
theorem zd_Search_isInPart_18 : decode ze_Search_isInPart 18 = .ok (.ireturn, 1) := by decide +kernel
theorem zd_Search_isInPart_19 : decode ze_Search_isInPart 19 = .ok (.iinc 3 1, 3) := by decide +kernel
theorem zd_Search_isInPart_22 : decode ze_Search_isInPart 22 = .ok (.goto (-20), 3) := by decide +kernel
theorem zd_Search_isInPart_25 : decode ze_Search_isInPart 25 = .ok (.iconst 0, 1) := by decide +kernel
theorem zd_Search_isInPart_26 : decode ze_Search_isInPart 26 = .ok (.ireturn, 1) := by decide +kernel
theorem zd_Search_goThrough_0 : decode ze_Search_goThrough 0 = .ok (.aload_n 0, 1) := by decide +kernel
theorem zd_Search_goThrough_1 : decode ze_Search_goThrough 1 = .ok (.iload_n 1, 1) := by decide +kernel
theorem zd_Search_goThrough_2 : decode ze_Search_goThrough 2 = .ok (.iconst 1, 1) := by decide +kernel
theorem zd_Search_goThrough_3 : decode ze_Search_goThrough 3 = .ok (.isub, 1) := by decide +kernel
theorem zd_Search_goThrough_4 : decode ze_Search_goThrough 4 = .ok (.invokevirtual 44, 3) := by decide +kernel
theorem zd_Search_goThrough_7 : decode ze_Search_goThrough 7 = .ok (.getfield 60, 3) := by decide +kernel
theorem zd_Search_goThrough_10 : decode ze_Search_goThrough 10 = .ok (.lstore_n 3, 1) := by decide +kernel
theorem zd_Search_goThrough_11 : decode ze_Search_goThrough 11 = .ok (.iconst 0, 1) := by decide +kernel
theorem zd_Search_goThrough_12 : decode ze_Search_goThrough 12 = .ok (.istore 5, 2) := by decide +kernel
theorem zd_Search_goThrough_14 : decode ze_Search_goThrough 14 = .ok (.iload 5, 2) := by decide +kernel
theorem zd_Search_goThrough_16 : decode ze_Search_goThrough 16 = .ok (.aload_n 0, 1) := by decide +kernel
theorem zd_Search_goThrough_17 : decode ze_Search_goThrough 17 = .ok (.getfield 25, 3) := by decide +kernel
theorem zd_Search_goThrough_20 : decode ze_Search_goThrough 20 = .ok (.getfield 63, 3) := by decide +kernel
theorem zd_Search_goThrough_23 : decode ze_Search_goThrough 23 = .ok (.if_icmp .ge 79, 3) := by decide +kernel
theorem zd_Search_goThrough_26 : decode ze_Search_goThrough 26 = .ok (.aload_n 0, 1) := by decide +kernel
theorem zd_Search_goThrough_27 : decode ze_Search_goThrough 27 = .ok (.getfield 22, 3) := by decide +kernel
theorem zd_Search_goThrough_30 : decode ze_Search_goThrough 30 = .ok (.bipush 40, 2) := by decide +kernel
theorem zd_Search_goThrough_32 : decode ze_Search_goThrough 32 = .ok (.if_icmp .ge 70, 3) := by decide +kernel
theorem zd_Search_goThrough_35 : decode ze_Search_goThrough 35 = .ok (.aload_n 0, 1) := by decide +kernel
theorem zd_Search_goThrough_36 : decode ze_Search_goThrough 36 = .ok (.getfield 25, 3) := by decide +kernel
theorem zd_Search_goThrough_39 : decode ze_Search_goThrough 39 = .ok (.getfield 68, 3) := by decide +kernel
theorem zd_Search_goThrough_42 : decode ze_Search_goThrough 42 = .ok (.iload 5, 2) := by decide +kernel
theorem zd_Search_goThrough_44 : decode ze_Search_goThrough 44 = .ok (.aaload, 1) := by decide +kernel
theorem zd_Search_goThrough_45 : decode ze_Search_goThrough 45 = .ok (.astore 6, 2) := by decide +kernel
theorem zd_Search_goThrough_47 : decode ze_Search_goThrough 47 = .ok (.aload 6, 2) := by decide +kernel
theorem zd_Search_goThrough_49 : decode ze_Search_goThrough 49 = .ok (.getfield 48, 3) := by decide +kernel
theorem zd_Search_goThrough_52 : decode ze_Search_goThrough 52 = .ok (.iload_n 2, 1) := by decide +kernel
theorem zd_Search_goThrough_53 : decode ze_Search_goThrough 53 = .ok (.if_icmp .ne 43, 3) := by decide +kernel
theorem zd_Search_goThrough_56 : decode ze_Search_goThrough 56 = .ok (.aload 6, 2) := by decide +kernel
theorem zd_Search_goThrough_58 : decode ze_Search_goThrough 58 = .ok (.getfield 72, 3) := by decide +kernel
theorem zd_Search_goThrough_61 : decode ze_Search_goThrough 61 = .ok (.lload_n 3, 1) := by decide +kernel
theorem zd_Search_goThrough_62 : decode ze_Search_goThrough 62 = .ok (.lcmp, 1) := by decide +kernel
theorem zd_Search_goThrough_63 : decode ze_Search_goThrough 63 = .ok (.ifCond .ne 33, 3) := by decide +kernel
theorem zd_Search_goThrough_66 : decode ze_Search_goThrough 66 = .ok (.aload_n 0, 1) := by decide +kernel
theorem zd_Search_goThrough_67 : decode ze_Search_goThrough 67 = .ok (.iload 5, 2) := by decide +kernel
theorem zd_Search_goThrough_69 : decode ze_Search_goThrough 69 = .ok (.iload_n 1, 1) := by decide +kernel
theorem zd_Search_goThrough_70 : decode ze_Search_goThrough 70 = .ok (.invokevirtual 75, 3) := by decide +kernel
theorem zd_Search_goThrough_73 : decode ze_Search_goThrough 73 = .ok (.ifCond .ne 23, 3) := by decide +kernel
theorem zd_Search_goThrough_76 : decode ze_Search_goThrough 76 = .ok (.aload_n 0, 1) := by decide +kernel
theorem zd_Search_goThrough_77 : decode ze_Search_goThrough 77 = .ok (.getfield 9, 3) := by decide +kernel
theorem zd_Search_goThrough_80 : decode ze_Search_goThrough 80 = .ok (.iload_n 1, 1) := by decide +kernel
theorem zd_Search_goThrough_81 : decode ze_Search_goThrough 81 = .ok (.iload 5, 2) := by decide +kernel
theorem zd_Search_goThrough_83 : decode ze_Search_goThrough 83 = .ok (.iastore, 1) := by decide +kernel
theorem zd_Search_goThrough_84 : decode ze_Search_goThrough 84 = .ok (.aload_n 0, 1) := by decide +kernel
theorem zd_Search_goThrough_85 : decode ze_Search_goThrough 85 = .ok (.iload_n 1, 1) := by decide +kernel
theorem zd_Search_goThrough_86 : decode ze_Search_goThrough 86 = .ok (.iconst 1, 1) := by decide +kernel
theorem zd_Search_goThrough_87 : decode ze_Search_goThrough 87 = .ok (.iadd, 1) := by decide +kernel
theorem zd_Search_goThrough_88 : decode ze_Search_goThrough 88 = .ok (.invokevirtual 40, 3) := by decide +kernel
theorem zd_Search_goThrough_91 : decode ze_Search_goThrough 91 = .ok (.ifCond .eq 5, 3) := by decide +kernel
theorem zd_Search_goThrough_94 : decode ze_Search_goThrough 94 = .ok (.iconst 1, 1) := by decide +kernel
theorem zd_Search_goThrough_95 : decode ze_Search_goThrough 95 = .ok (.ireturn, 1) := by decide +kernel
theorem zd_Search_goThrough_96 : decode ze_Search_goThrough 96 = .ok (.iinc 5 1, 3) := by decide +kernel
theorem zd_Search_goThrough_99 : decode ze_Search_goThrough 99 = .ok (.goto (-85), 3) := by decide +kernel
theorem zd_Search_goThrough_102 : decode ze_Search_goThrough 102 = .ok (.iconst 0, 1) := by decide +kernel
theorem zd_Search_goThrough_103 : decode ze_Search_goThrough 103 = .ok (.ireturn, 1) := by decide +kernel
theorem zd_Signed_isSignedBy_0 : decode ze_Signed_isSignedBy 0 = .ok (.aload_n 0, 1) := by decide +kernel
theorem zd_Signed_isSignedBy_1 : decode ze_Signed_isSignedBy 1 = .ok (.getfield 7, 3) := by decide +kernel
theorem zd_Signed_isSignedBy_4 : decode ze_Signed_isSignedBy 4 = .ok (.iload_n 1, 1) := by decide +kernel
theorem zd_Signed_isSignedBy_5 : decode ze_Signed_isSignedBy 5 = .ok (.ishr, 1) := by decide +kernel
theorem zd_Signed_isSignedBy_6 : decode ze_Signed_isSignedBy 6 = .ok (.iconst 1, 1) := by decide +kernel
theorem zd_Signed_isSignedBy_7 : decode ze_Signed_isSignedBy 7 = .ok (.iand, 1) := by decide +kernel
theorem zd_Signed_isSignedBy_8 : decode ze_Signed_isSignedBy 8 = .ok (.iconst 1, 1) := by decide +kernel
theorem zd_Signed_isSignedBy_9 : decode ze_Signed_isSignedBy 9 = .ok (.if_icmp .ne 7, 3) := by decide +kernel
theorem zd_Signed_isSignedBy_12 : decode ze_Signed_isSignedBy 12 = .ok (.iconst 1, 1) := by decide +kernel
theorem zd_Signed_isSignedBy_13 : decode ze_Signed_isSignedBy 13 = .ok (.goto 4, 3) := by decide +kernel
theorem zd_Signed_isSignedBy_16 : decode ze_Signed_isSignedBy 16 = .ok (.iconst 0, 1) := by decide +kernel
theorem zd_Signed_isSignedBy_17 : decode ze_Signed_isSignedBy 17 = .ok (.ireturn, 1) := by decide +kernel
theorem zd_Signed_isTimely_0 : decode ze_Signed_isTimely 0 = .ok (.aload_n 0, 1) := by decide +kernel
theorem zd_Signed_isTimely_1 : decode ze_Signed_isTimely 1 = .ok (.getfield 13, 3) := by decide +kernel
theorem zd_Signed_isTimely_4 : decode ze_Signed_isTimely 4 = .ok (.lload_n 1, 1) := by decide +kernel
theorem zd_Signed_isTimely_5 : decode ze_Signed_isTimely 5 = .ok (.lcmp, 1) := by decide +kernel
theorem zd_Signed_isTimely_6 : decode ze_Signed_isTimely 6 = .ok (.ifCond .gt 16, 3) := by decide +kernel
theorem zd_Signed_isTimely_9 : decode ze_Signed_isTimely 9 = .ok (.lload_n 1, 1) := by decide +kernel
theorem zd_Signed_isTimely_10 : decode ze_Signed_isTimely 10 = .ok (.aload_n 0, 1) := by decide +kernel
theorem zd_Signed_isTimely_11 : decode ze_Signed_isTimely 11 = .ok (.getfield 17, 3) := by decide +kernel
theorem zd_Signed_isTimely_14 : decode ze_Signed_isTimely 14 = .ok (.lcmp, 1) := by decide +kernel
theorem zd_Signed_isTimely_15 : decode ze_Signed_isTimely 15 = .ok (.ifCond .gt 7, 3) := by decide +kernel
theorem zd_Signed_isTimely_18 : decode ze_Signed_isTimely 18 = .ok (.iconst 1, 1) := by decide +kernel
theorem zd_Signed_isTimely_19 : decode ze_Signed_isTimely 19 = .ok (.goto 4, 3) := by decide +kernel
theorem zd_Signed_isTimely_22 : decode ze_Signed_isTimely 22 = .ok (.iconst 0, 1) := by decide +kernel
theorem zd_Signed_isTimely_23 : decode ze_Signed_isTimely 23 = .ok (.ireturn, 1) := by decide +kernel
theorem zd_Certificate_isFitFor_0 : decode ze_Certificate_isFitFor 0 = .ok (.aload_n 0, 1) := by decide +kernel
theorem zd_Certificate_isFitFor_1 : decode ze_Certificate_isFitFor 1 = .ok (.getfield 17, 3) := by decide +kernel
theorem zd_Certificate_isFitFor_4 : decode ze_Certificate_isFitFor 4 = .ok (.lconst 0, 1) := by decide +kernel
theorem zd_Certificate_isFitFor_5 : decode ze_Certificate_isFitFor 5 = .ok (.lcmp, 1) := by decide +kernel
theorem zd_Certificate_isFitFor_6 : decode ze_Certificate_isFitFor 6 = .ok (.ifCond .eq 15, 3) := by decide +kernel
theorem zd_Certificate_isFitFor_9 : decode ze_Certificate_isFitFor 9 = .ok (.aload_n 0, 1) := by decide +kernel
theorem zd_Certificate_isFitFor_10 : decode ze_Certificate_isFitFor 10 = .ok (.getfield 17, 3) := by decide +kernel
theorem zd_Certificate_isFitFor_13 : decode ze_Certificate_isFitFor 13 = .ok (.iload_n 1, 1) := by decide +kernel
theorem zd_Certificate_isFitFor_14 : decode ze_Certificate_isFitFor 14 = .ok (.i2l, 1) := by decide +kernel
theorem zd_Certificate_isFitFor_15 : decode ze_Certificate_isFitFor 15 = .ok (.land, 1) := by decide +kernel
theorem zd_Certificate_isFitFor_16 : decode ze_Certificate_isFitFor 16 = .ok (.lconst 0, 1) := by decide +kernel
theorem zd_Certificate_isFitFor_17 : decode ze_Certificate_isFitFor 17 = .ok (.lcmp, 1) := by decide +kernel
theorem zd_Certificate_isFitFor_18 : decode ze_Certificate_isFitFor 18 = .ok (.ifCond .eq 7, 3) := by decide +kernel
theorem zd_Certificate_isFitFor_21 : decode ze_Certificate_isFitFor 21 = .ok (.iconst 1, 1) := by decide +kernel
theorem zd_Certificate_isFitFor_22 : decode ze_Certificate_isFitFor 22 = .ok (.goto 4, 3) := by decide +kernel
theorem zd_Certificate_isFitFor_25 : decode ze_Certificate_isFitFor 25 = .ok (.iconst 0, 1) := by decide +kernel
theorem zd_Certificate_isFitFor_26 : decode ze_Certificate_isFitFor 26 = .ok (.ireturn, 1) := by decide +kernel
theorem zd_Search_takeList_0 : decode ze_Search_takeList 0 = .ok (.aload_n 0, 1) := by decide +kernel
theorem zd_Search_takeList_1 : decode ze_Search_takeList 1 = .ok (.getfield 25, 3) := by decide +kernel
theorem zd_Search_takeList_4 : decode ze_Search_takeList 4 = .ok (.getfield 68, 3) := by decide +kernel
theorem zd_Search_takeList_7 : decode ze_Search_takeList 7 = .ok (.iload_n 2, 1) := by decide +kernel
theorem zd_Search_takeList_8 : decode ze_Search_takeList 8 = .ok (.aaload, 1) := by decide +kernel
theorem zd_Search_takeList_9 : decode ze_Search_takeList 9 = .ok (.iconst 2, 1) := by decide +kernel
theorem zd_Search_takeList_10 : decode ze_Search_takeList 10 = .ok (.invokevirtual 121, 3) := by decide +kernel
theorem zd_Search_takeList_13 : decode ze_Search_takeList 13 = .ok (.ifCond .ne 5, 3) := by decide +kernel
theorem zd_Search_takeList_16 : decode ze_Search_takeList 16 = .ok (.aconst_null, 1) := by decide +kernel
theorem zd_Search_takeList_17 : decode ze_Search_takeList 17 = .ok (.areturn, 1) := by decide +kernel
theorem zd_Search_takeList_18 : decode ze_Search_takeList 18 = .ok (.aconst_null, 1) := by decide +kernel
theorem zd_Search_takeList_19 : decode ze_Search_takeList 19 = .ok (.astore_n 3, 1) := by decide +kernel
theorem zd_Search_takeList_20 : decode ze_Search_takeList 20 = .ok (.iconst 0, 1) := by decide +kernel
theorem zd_Search_takeList_21 : decode ze_Search_takeList 21 = .ok (.istore 4, 2) := by decide +kernel
theorem zd_Search_takeList_23 : decode ze_Search_takeList 23 = .ok (.iload 4, 2) := by decide +kernel
theorem zd_Search_takeList_25 : decode ze_Search_takeList 25 = .ok (.aload_n 0, 1) := by decide +kernel
theorem zd_Search_takeList_26 : decode ze_Search_takeList 26 = .ok (.getfield 25, 3) := by decide +kernel
theorem zd_Search_takeList_29 : decode ze_Search_takeList 29 = .ok (.getfield 124, 3) := by decide +kernel
theorem zd_Search_takeList_32 : decode ze_Search_takeList 32 = .ok (.if_icmp .ge 75, 3) := by decide +kernel
theorem zd_Search_takeList_35 : decode ze_Search_takeList 35 = .ok (.aload_n 0, 1) := by decide +kernel
theorem zd_Search_takeList_36 : decode ze_Search_takeList 36 = .ok (.getfield 25, 3) := by decide +kernel
theorem zd_Search_takeList_39 : decode ze_Search_takeList 39 = .ok (.getfield 127, 3) := by decide +kernel
theorem zd_Search_takeList_42 : decode ze_Search_takeList 42 = .ok (.iload 4, 2) := by decide +kernel
theorem zd_Search_takeList_44 : decode ze_Search_takeList 44 = .ok (.aaload, 1) := by decide +kernel
theorem zd_Search_takeList_45 : decode ze_Search_takeList 45 = .ok (.astore 5, 2) := by decide +kernel
theorem zd_Search_takeList_47 : decode ze_Search_takeList 47 = .ok (.aload 5, 2) := by decide +kernel
theorem zd_Search_takeList_49 : decode ze_Search_takeList 49 = .ok (.getfield 131, 3) := by decide +kernel
theorem zd_Search_takeList_52 : decode ze_Search_takeList 52 = .ok (.aload_n 1, 1) := by decide +kernel
theorem zd_Search_takeList_53 : decode ze_Search_takeList 53 = .ok (.getfield 60, 3) := by decide +kernel
theorem zd_Search_takeList_56 : decode ze_Search_takeList 56 = .ok (.lcmp, 1) := by decide +kernel
theorem zd_Search_takeList_57 : decode ze_Search_takeList 57 = .ok (.ifCond .ne 44, 3) := by decide +kernel
theorem zd_Search_takeList_60 : decode ze_Search_takeList 60 = .ok (.aload 5, 2) := by decide +kernel
theorem zd_Search_takeList_62 : decode ze_Search_takeList 62 = .ok (.aload_n 0, 1) := by decide +kernel
theorem zd_Search_takeList_63 : decode ze_Search_takeList 63 = .ok (.getfield 29, 3) := by decide +kernel
theorem zd_Search_takeList_66 : decode ze_Search_takeList 66 = .ok (.invokevirtual 132, 3) := by decide +kernel
theorem zd_Search_takeList_69 : decode ze_Search_takeList 69 = .ok (.ifCond .eq 32, 3) := by decide +kernel
theorem zd_Search_takeList_72 : decode ze_Search_takeList 72 = .ok (.aload 5, 2) := by decide +kernel
theorem zd_Search_takeList_74 : decode ze_Search_takeList 74 = .ok (.iload_n 2, 1) := by decide +kernel
theorem zd_Search_takeList_75 : decode ze_Search_takeList 75 = .ok (.invokevirtual 133, 3) := by decide +kernel
theorem zd_Search_takeList_78 : decode ze_Search_takeList 78 = .ok (.ifCond .eq 23, 3) := by decide +kernel
theorem zd_Search_takeList_81 : decode ze_Search_takeList 81 = .ok (.aload_n 3, 1) := by decide +kernel
theorem zd_Search_takeList_82 : decode ze_Search_takeList 82 = .ok (.ifnull 16, 3) := by decide +kernel
theorem zd_Search_takeList_85 : decode ze_Search_takeList 85 = .ok (.aload 5, 2) := by decide +kernel
theorem zd_Search_takeList_87 : decode ze_Search_takeList 87 = .ok (.getfield 134, 3) := by decide +kernel
theorem zd_Search_takeList_90 : decode ze_Search_takeList 90 = .ok (.aload_n 3, 1) := by decide +kernel
theorem zd_Search_takeList_91 : decode ze_Search_takeList 91 = .ok (.getfield 134, 3) := by decide +kernel
theorem zd_Search_takeList_94 : decode ze_Search_takeList 94 = .ok (.lcmp, 1) := by decide +kernel
theorem zd_Search_takeList_95 : decode ze_Search_takeList 95 = .ok (.ifCond .le 6, 3) := by decide +kernel
theorem zd_Search_takeList_98 : decode ze_Search_takeList 98 = .ok (.aload 5, 2) := by decide +kernel
theorem zd_Search_takeList_100 : decode ze_Search_takeList 100 = .ok (.astore_n 3, 1) := by decide +kernel
theorem zd_Search_takeList_101 : decode ze_Search_takeList 101 = .ok (.iinc 4 1, 3) := by decide +kernel
theorem zd_Search_takeList_104 : decode ze_Search_takeList 104 = .ok (.goto (-81), 3) := by decide +kernel
theorem zd_Search_takeList_107 : decode ze_Search_takeList 107 = .ok (.aload_n 3, 1) := by decide +kernel
theorem zd_Search_takeList_108 : decode ze_Search_takeList 108 = .ok (.areturn, 1) := by decide +kernel
theorem zd_Names_isWithin_0 : decode ze_Names_isWithin 0 = .ok (.lload_n 0, 1) := by decide +kernel
theorem zd_Names_isWithin_1 : decode ze_Names_isWithin 1 = .ok (.lload_n 2, 1) := by decide +kernel
theorem zd_Names_isWithin_2 : decode ze_Names_isWithin 2 = .ok (.lcmp, 1) := by decide +kernel
theorem zd_Names_isWithin_3 : decode ze_Names_isWithin 3 = .ok (.ifCond .ne 5, 3) := by decide +kernel
theorem zd_Names_isWithin_6 : decode ze_Names_isWithin 6 = .ok (.iconst 1, 1) := by decide +kernel
theorem zd_Names_isWithin_7 : decode ze_Names_isWithin 7 = .ok (.ireturn, 1) := by decide +kernel
theorem zd_Names_isWithin_8 : decode ze_Names_isWithin 8 = .ok (.lload_n 2, 1) := by decide +kernel
theorem zd_Names_isWithin_9 : decode ze_Names_isWithin 9 = .ok (.iconst 5, 1) := by decide +kernel
theorem zd_Names_isWithin_10 : decode ze_Names_isWithin 10 = .ok (.lshl, 1) := by decide +kernel
theorem zd_Names_isWithin_11 : decode ze_Names_isWithin 11 = .ok (.ldc2_w 9, 3) := by decide +kernel
theorem zd_Names_isWithin_14 : decode ze_Names_isWithin 14 = .ok (.lor, 1) := by decide +kernel
theorem zd_Names_isWithin_15 : decode ze_Names_isWithin 15 = .ok (.lstore 4, 2) := by decide +kernel
theorem zd_Names_isWithin_17 : decode ze_Names_isWithin 17 = .ok (.lload_n 0, 1) := by decide +kernel
theorem zd_Names_isWithin_18 : decode ze_Names_isWithin 18 = .ok (.lstore 6, 2) := by decide +kernel
theorem zd_Names_isWithin_20 : decode ze_Names_isWithin 20 = .ok (.lload 6, 2) := by decide +kernel
theorem zd_Names_isWithin_22 : decode ze_Names_isWithin 22 = .ok (.lconst 0, 1) := by decide +kernel
theorem zd_Names_isWithin_23 : decode ze_Names_isWithin 23 = .ok (.lcmp, 1) := by decide +kernel
theorem zd_Names_isWithin_24 : decode ze_Names_isWithin 24 = .ok (.ifCond .eq 22, 3) := by decide +kernel
theorem zd_Names_isWithin_27 : decode ze_Names_isWithin 27 = .ok (.lload 6, 2) := by decide +kernel
theorem zd_Names_isWithin_29 : decode ze_Names_isWithin 29 = .ok (.lload 4, 2) := by decide +kernel
theorem zd_Names_isWithin_31 : decode ze_Names_isWithin 31 = .ok (.lcmp, 1) := by decide +kernel
theorem zd_Names_isWithin_32 : decode ze_Names_isWithin 32 = .ok (.ifCond .ne 5, 3) := by decide +kernel
theorem zd_Names_isWithin_35 : decode ze_Names_isWithin 35 = .ok (.iconst 1, 1) := by decide +kernel
theorem zd_Names_isWithin_36 : decode ze_Names_isWithin 36 = .ok (.ireturn, 1) := by decide +kernel
theorem zd_Names_isWithin_37 : decode ze_Names_isWithin 37 = .ok (.lload 6, 2) := by decide +kernel
theorem zd_Names_isWithin_39 : decode ze_Names_isWithin 39 = .ok (.iconst 5, 1) := by decide +kernel
theorem zd_Names_isWithin_40 : decode ze_Names_isWithin 40 = .ok (.lushr, 1) := by decide +kernel
theorem zd_Names_isWithin_41 : decode ze_Names_isWithin 41 = .ok (.lstore 6, 2) := by decide +kernel
theorem zd_Names_isWithin_43 : decode ze_Names_isWithin 43 = .ok (.goto (-23), 3) := by decide +kernel
theorem zd_Names_isWithin_46 : decode ze_Names_isWithin 46 = .ok (.iconst 0, 1) := by decide +kernel
theorem zd_Names_isWithin_47 : decode ze_Names_isWithin 47 = .ok (.ireturn, 1) := by decide +kernel
theorem zd_Search_isInRealms_0 : decode ze_Search_isInRealms 0 = .ok (.aload_n 0, 1) := by decide +kernel
theorem zd_Search_isInRealms_1 : decode ze_Search_isInRealms 1 = .ok (.iload_n 1, 1) := by decide +kernel
theorem zd_Search_isInRealms_2 : decode ze_Search_isInRealms 2 = .ok (.invokevirtual 44, 3) := by decide +kernel
theorem zd_Search_isInRealms_5 : decode ze_Search_isInRealms 5 = .ok (.getfield 72, 3) := by decide +kernel
theorem zd_Search_isInRealms_8 : decode ze_Search_isInRealms 8 = .ok (.lstore_n 3, 1) := by decide +kernel
theorem zd_Search_isInRealms_9 : decode ze_Search_isInRealms 9 = .ok (.iload_n 1, 1) := by decide +kernel
