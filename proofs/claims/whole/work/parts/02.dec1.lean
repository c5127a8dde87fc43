theorem dX0_init_0 : decode cX0_init 0 = .ok (.aload_n 0, 1) := by decide +kernel
theorem dX0_init_1 : decode cX0_init 1 = .ok (.invokespecial 3, 3) := by decide +kernel
theorem dX0_init_4 : decode cX0_init 4 = .ok (.aload_n 0, 1) := by decide +kernel
theorem dX0_init_5 : decode cX0_init 5 = .ok (.bipush 60, 2) := by decide +kernel
theorem dX0_init_7 : decode cX0_init 7 = .ok (.newarray .int, 2) := by decide +kernel
theorem dX0_init_9 : decode cX0_init 9 = .ok (.putfield 9, 3) := by decide +kernel
theorem dX0_init_12 : decode cX0_init 12 = .ok (.aload_n 0, 1) := by decide +kernel
theorem dX0_init_13 : decode cX0_init 13 = .ok (.bipush 24, 2) := by decide +kernel
theorem dX0_init_15 : decode cX0_init 15 = .ok (.anewarray 15, 3) := by decide +kernel
theorem dX0_init_18 : decode cX0_init 18 = .ok (.putfield 17, 3) := by decide +kernel
theorem dX0_init_21 : decode cX0_init 21 = .ok (.aload_n 0, 1) := by decide +kernel
theorem dX0_init_22 : decode cX0_init 22 = .ok (.bipush 100, 2) := by decide +kernel
theorem dX0_init_24 : decode cX0_init 24 = .ok (.putfield 21, 3) := by decide +kernel
theorem dX0_init_27 : decode cX0_init 27 = .ok (.aload_n 0, 1) := by decide +kernel
theorem dX0_init_28 : decode cX0_init 28 = .ok (.iconst 2, 1) := by decide +kernel
theorem dX0_init_29 : decode cX0_init 29 = .ok (.putfield 25, 3) := by decide +kernel
theorem dX0_init_32 : decode cX0_init 32 = .ok (.aload_n 0, 1) := by decide +kernel
theorem dX0_init_33 : decode cX0_init 33 = .ok (.bipush 50, 2) := by decide +kernel
theorem dX0_init_35 : decode cX0_init 35 = .ok (.putfield 28, 3) := by decide +kernel
theorem dX0_init_38 : decode cX0_init 38 = .ok (.aload_n 0, 1) := by decide +kernel
theorem dX0_init_39 : decode cX0_init 39 = .ok (.bipush 15, 2) := by decide +kernel
theorem dX0_init_41 : decode cX0_init 41 = .ok (.putfield 31, 3) := by decide +kernel
theorem dX0_init_44 : decode cX0_init 44 = .ok (.return_, 1) := by decide +kernel
theorem dX0_addLine_0 : decode cX0_addLine 0 = .ok (.aload_n 0, 1) := by decide +kernel
theorem dX0_addLine_1 : decode cX0_addLine 1 = .ok (.getfield 34, 3) := by decide +kernel
theorem dX0_addLine_4 : decode cX0_addLine 4 = .ok (.aload_n 0, 1) := by decide +kernel
theorem dX0_addLine_5 : decode cX0_addLine 5 = .ok (.getfield 9, 3) := by decide +kernel
theorem dX0_addLine_8 : decode cX0_addLine 8 = .ok (.arraylength, 1) := by decide +kernel
theorem dX0_addLine_9 : decode cX0_addLine 9 = .ok (.if_icmp .lt 5, 3) := by decide +kernel
theorem dX0_addLine_12 : decode cX0_addLine 12 = .ok (.iconst (-1), 1) := by decide +kernel
theorem dX0_addLine_13 : decode cX0_addLine 13 = .ok (.ireturn, 1) := by decide +kernel
theorem dX0_addLine_14 : decode cX0_addLine 14 = .ok (.aload_n 0, 1) := by decide +kernel
theorem dX0_addLine_15 : decode cX0_addLine 15 = .ok (.getfield 9, 3) := by decide +kernel
theorem dX0_addLine_18 : decode cX0_addLine 18 = .ok (.aload_n 0, 1) := by decide +kernel
theorem dX0_addLine_19 : decode cX0_addLine 19 = .ok (.getfield 34, 3) := by decide +kernel
theorem dX0_addLine_22 : decode cX0_addLine 22 = .ok (.iload_n 1, 1) := by decide +kernel
theorem dX0_addLine_23 : decode cX0_addLine 23 = .ok (.iastore, 1) := by decide +kernel
theorem dX0_addLine_24 : decode cX0_addLine 24 = .ok (.aload_n 0, 1) := by decide +kernel
theorem dX0_addLine_25 : decode cX0_addLine 25 = .ok (.dup, 1) := by decide +kernel
theorem dX0_addLine_26 : decode cX0_addLine 26 = .ok (.getfield 34, 3) := by decide +kernel
theorem dX0_addLine_29 : decode cX0_addLine 29 = .ok (.dup_x1, 1) := by decide +kernel
theorem dX0_addLine_30 : decode cX0_addLine 30 = .ok (.iconst 1, 1) := by decide +kernel
theorem dX0_addLine_31 : decode cX0_addLine 31 = .ok (.iadd, 1) := by decide +kernel
theorem dX0_addLine_32 : decode cX0_addLine 32 = .ok (.putfield 34, 3) := by decide +kernel
theorem dX0_addLine_35 : decode cX0_addLine 35 = .ok (.ireturn, 1) := by decide +kernel
theorem dX0_addNote_0 : decode cX0_addNote 0 = .ok (.aload_n 0, 1) := by decide +kernel
theorem dX0_addNote_1 : decode cX0_addNote 1 = .ok (.getfield 37, 3) := by decide +kernel
theorem dX0_addNote_4 : decode cX0_addNote 4 = .ok (.aload_n 0, 1) := by decide +kernel
theorem dX0_addNote_5 : decode cX0_addNote 5 = .ok (.getfield 17, 3) := by decide +kernel
theorem dX0_addNote_8 : decode cX0_addNote 8 = .ok (.arraylength, 1) := by decide +kernel
theorem dX0_addNote_9 : decode cX0_addNote 9 = .ok (.if_icmp .lt 5, 3) := by decide +kernel
theorem dX0_addNote_12 : decode cX0_addNote 12 = .ok (.iconst (-1), 1) := by decide +kernel
theorem dX0_addNote_13 : decode cX0_addNote 13 = .ok (.ireturn, 1) := by decide +kernel
theorem dX0_addNote_14 : decode cX0_addNote 14 = .ok (.aload_n 0, 1) := by decide +kernel
theorem dX0_addNote_15 : decode cX0_addNote 15 = .ok (.getfield 17, 3) := by decide +kernel
theorem dX0_addNote_18 : decode cX0_addNote 18 = .ok (.aload_n 0, 1) := by decide +kernel
theorem dX0_addNote_19 : decode cX0_addNote 19 = .ok (.getfield 37, 3) := by decide +kernel
theorem dX0_addNote_22 : decode cX0_addNote 22 = .ok (.aload_n 1, 1) := by decide +kernel
theorem dX0_addNote_23 : decode cX0_addNote 23 = .ok (.aastore, 1) := by decide +kernel
theorem dX0_addNote_24 : decode cX0_addNote 24 = .ok (.aload_n 0, 1) := by decide +kernel
theorem dX0_addNote_25 : decode cX0_addNote 25 = .ok (.dup, 1) := by decide +kernel
theorem dX0_addNote_26 : decode cX0_addNote 26 = .ok (.getfield 37, 3) := by decide +kernel
theorem dX0_addNote_29 : decode cX0_addNote 29 = .ok (.dup_x1, 1) := by decide +kernel
theorem dX0_addNote_30 : decode cX0_addNote 30 = .ok (.iconst 1, 1) := by decide +kernel
theorem dX0_addNote_31 : decode cX0_addNote 31 = .ok (.iadd, 1) := by decide +kernel
theorem dX0_addNote_32 : decode cX0_addNote 32 = .ok (.putfield 37, 3) := by decide +kernel
theorem dX0_addNote_35 : decode cX0_addNote 35 = .ok (.ireturn, 1) := by decide +kernel
theorem dX0_hasLine_0 : decode cX0_hasLine 0 = .ok (.iload_n 1, 1) := by decide +kernel
theorem dX0_hasLine_1 : decode cX0_hasLine 1 = .ok (.ifCond .lt 15, 3) := by decide +kernel
theorem dX0_hasLine_4 : decode cX0_hasLine 4 = .ok (.iload_n 1, 1) := by decide +kernel
theorem dX0_hasLine_5 : decode cX0_hasLine 5 = .ok (.aload_n 0, 1) := by decide +kernel
theorem dX0_hasLine_6 : decode cX0_hasLine 6 = .ok (.getfield 34, 3) := by decide +kernel
theorem dX0_hasLine_9 : decode cX0_hasLine 9 = .ok (.if_icmp .ge 7, 3) := by decide +kernel
theorem dX0_hasLine_12 : decode cX0_hasLine 12 = .ok (.iconst 1, 1) := by decide +kernel
theorem dX0_hasLine_13 : decode cX0_hasLine 13 = .ok (.goto 4, 3) := by decide +kernel
theorem dX0_hasLine_16 : decode cX0_hasLine 16 = .ok (.iconst 0, 1) := by decide +kernel
theorem dX0_hasLine_17 : decode cX0_hasLine 17 = .ok (.ireturn, 1) := by decide +kernel
theorem dX0_find_0 : decode cX0_find 0 = .ok (.iload_n 1, 1) := by decide +kernel
theorem dX0_find_1 : decode cX0_find 1 = .ok (.ifCond .lt 20, 3) := by decide +kernel
theorem dX0_find_4 : decode cX0_find 4 = .ok (.iload_n 1, 1) := by decide +kernel
theorem dX0_find_5 : decode cX0_find 5 = .ok (.aload_n 0, 1) := by decide +kernel
theorem dX0_find_6 : decode cX0_find 6 = .ok (.getfield 37, 3) := by decide +kernel
theorem dX0_find_9 : decode cX0_find 9 = .ok (.if_icmp .ge 12, 3) := by decide +kernel
theorem dX0_find_12 : decode cX0_find 12 = .ok (.aload_n 0, 1) := by decide +kernel
theorem dX0_find_13 : decode cX0_find 13 = .ok (.getfield 17, 3) := by decide +kernel
theorem dX0_find_16 : decode cX0_find 16 = .ok (.iload_n 1, 1) := by decide +kernel
theorem dX0_find_17 : decode cX0_find 17 = .ok (.aaload, 1) := by decide +kernel
theorem dX0_find_18 : decode cX0_find 18 = .ok (.goto 4, 3) := by decide +kernel
theorem dX0_find_21 : decode cX0_find 21 = .ok (.aconst_null, 1) := by decide +kernel
theorem dX0_find_22 : decode cX0_find 22 = .ok (.areturn, 1) := by decide +kernel
theorem dX0_isShown_0 : decode cX0_isShown 0 = .ok (.aload_n 0, 1) := by decide +kernel
theorem dX0_isShown_1 : decode cX0_isShown 1 = .ok (.getfield 31, 3) := by decide +kernel
theorem dX0_isShown_4 : decode cX0_isShown 4 = .ok (.aload_n 1, 1) := by decide +kernel
theorem dX0_isShown_5 : decode cX0_isShown 5 = .ok (.getfield 40, 3) := by decide +kernel
theorem dX0_isShown_8 : decode cX0_isShown 8 = .ok (.ishr, 1) := by decide +kernel
theorem dX0_isShown_9 : decode cX0_isShown 9 = .ok (.iconst 1, 1) := by decide +kernel
theorem dX0_isShown_10 : decode cX0_isShown 10 = .ok (.iand, 1) := by decide +kernel
theorem dX0_isShown_11 : decode cX0_isShown 11 = .ok (.ifCond .eq 7, 3) := by decide +kernel
theorem dX0_isShown_14 : decode cX0_isShown 14 = .ok (.iconst 1, 1) := by decide +kernel
theorem dX0_isShown_15 : decode cX0_isShown 15 = .ok (.goto 4, 3) := by decide +kernel
theorem dX0_isShown_18 : decode cX0_isShown 18 = .ok (.iconst 0, 1) := by decide +kernel
theorem dX0_isShown_19 : decode cX0_isShown 19 = .ok (.ireturn, 1) := by decide +kernel
theorem dX0_isSet_0 : decode cX0_isSet 0 = .ok (.aload_n 0, 1) := by decide +kernel
theorem dX0_isSet_1 : decode cX0_isSet 1 = .ok (.getfield 43, 3) := by decide +kernel
theorem dX0_isSet_4 : decode cX0_isSet 4 = .ok (.ifCond .ne 11, 3) := by decide +kernel
theorem dX0_isSet_7 : decode cX0_isSet 7 = .ok (.aload_n 0, 1) := by decide +kernel
theorem dX0_isSet_8 : decode cX0_isSet 8 = .ok (.aload_n 1, 1) := by decide +kernel
theorem dX0_isSet_9 : decode cX0_isSet 9 = .ok (.invokevirtual 47, 3) := by decide +kernel
theorem dX0_isSet_12 : decode cX0_isSet 12 = .ok (.ifCond .eq 7, 3) := by decide +kernel
theorem dX0_isSet_15 : decode cX0_isSet 15 = .ok (.iconst 1, 1) := by decide +kernel
theorem dX0_isSet_16 : decode cX0_isSet 16 = .ok (.goto 4, 3) := by decide +kernel
theorem dX0_isSet_19 : decode cX0_isSet 19 = .ok (.iconst 0, 1) := by decide +kernel
theorem dX0_isSet_20 : decode cX0_isSet 20 = .ok (.ireturn, 1) := by decide +kernel
theorem dX1_init_0 : decode cX1_init 0 = .ok (.aload_n 0, 1) := by decide +kernel
theorem dX1_init_1 : decode cX1_init 1 = .ok (.invokespecial 3, 3) := by decide +kernel
theorem dX1_init_4 : decode cX1_init 4 = .ok (.aload_n 0, 1) := by decide +kernel
theorem dX1_init_5 : decode cX1_init 5 = .ok (.bipush 60, 2) := by decide +kernel
theorem dX1_init_7 : decode cX1_init 7 = .ok (.newarray .int, 2) := by decide +kernel
theorem dX1_init_9 : decode cX1_init 9 = .ok (.putfield 9, 3) := by decide +kernel
theorem dX1_init_12 : decode cX1_init 12 = .ok (.aload_n 0, 1) := by decide +kernel
theorem dX1_init_13 : decode cX1_init 13 = .ok (.bipush 60, 2) := by decide +kernel
theorem dX1_init_15 : decode cX1_init 15 = .ok (.newarray .int, 2) := by decide +kernel
theorem dX1_init_17 : decode cX1_init 17 = .ok (.putfield 15, 3) := by decide +kernel
theorem dX1_init_20 : decode cX1_init 20 = .ok (.aload_n 0, 1) := by decide +kernel
theorem dX1_init_21 : decode cX1_init 21 = .ok (.bipush 84, 2) := by decide +kernel
theorem dX1_init_23 : decode cX1_init 23 = .ok (.newarray .int, 2) := by decide +kernel
theorem dX1_init_25 : decode cX1_init 25 = .ok (.putfield 18, 3) := by decide +kernel
theorem dX1_init_28 : decode cX1_init 28 = .ok (.aload_n 0, 1) := by decide +kernel
theorem dX1_init_29 : decode cX1_init 29 = .ok (.iconst 1, 1) := by decide +kernel
theorem dX1_init_30 : decode cX1_init 30 = .ok (.putfield 21, 3) := by decide +kernel
theorem dX1_init_33 : decode cX1_init 33 = .ok (.aload_n 0, 1) := by decide +kernel
theorem dX1_init_34 : decode cX1_init 34 = .ok (.iconst 1, 1) := by decide +kernel
theorem dX1_init_35 : decode cX1_init 35 = .ok (.putfield 25, 3) := by decide +kernel
theorem dX1_init_38 : decode cX1_init 38 = .ok (.aload_n 0, 1) := by decide +kernel
theorem dX1_init_39 : decode cX1_init 39 = .ok (.bipush 84, 2) := by decide +kernel
theorem dX1_init_41 : decode cX1_init 41 = .ok (.newarray .int, 2) := by decide +kernel
theorem dX1_init_43 : decode cX1_init 43 = .ok (.putfield 28, 3) := by decide +kernel
theorem dX1_init_46 : decode cX1_init 46 = .ok (.aload_n 0, 1) := by decide +kernel
theorem dX1_init_47 : decode cX1_init 47 = .ok (.bipush 84, 2) := by decide +kernel
theorem dX1_init_49 : decode cX1_init 49 = .ok (.newarray .int, 2) := by decide +kernel
theorem dX1_init_51 : decode cX1_init 51 = .ok (.putfield 31, 3) := by decide +kernel
theorem dX1_init_54 : decode cX1_init 54 = .ok (.aload_n 0, 1) := by decide +kernel
theorem dX1_init_55 : decode cX1_init 55 = .ok (.bipush 84, 2) := by decide +kernel
theorem dX1_init_57 : decode cX1_init 57 = .ok (.newarray .int, 2) := by decide +kernel
theorem dX1_init_59 : decode cX1_init 59 = .ok (.putfield 34, 3) := by decide +kernel
theorem dX1_init_62 : decode cX1_init 62 = .ok (.aload_n 0, 1) := by decide +kernel
theorem dX1_init_63 : decode cX1_init 63 = .ok (.bipush 84, 2) := by decide +kernel
theorem dX1_init_65 : decode cX1_init 65 = .ok (.newarray .int, 2) := by decide +kernel
theorem dX1_init_67 : decode cX1_init 67 = .ok (.putfield 37, 3) := by decide +kernel
theorem dX1_init_70 : decode cX1_init 70 = .ok (.aload_n 0, 1) := by decide +kernel
theorem dX1_init_71 : decode cX1_init 71 = .ok (.iconst 2, 1) := by decide +kernel
theorem dX1_init_72 : decode cX1_init 72 = .ok (.bipush 84, 2) := by decide +kernel
theorem dX1_init_74 : decode cX1_init 74 = .ok (.multianewarray 40 2, 4) := by decide +kernel
theorem dX1_init_78 : decode cX1_init 78 = .ok (.putfield 42, 3) := by decide +kernel
theorem dX1_init_81 : decode cX1_init 81 = .ok (.aload_n 0, 1) := by decide +kernel
theorem dX1_init_82 : decode cX1_init 82 = .ok (.new 45, 3) := by decide +kernel
theorem dX1_init_85 : decode cX1_init 85 = .ok (.dup, 1) := by decide +kernel
theorem dX1_init_86 : decode cX1_init 86 = .ok (.invokespecial 47, 3) := by decide +kernel
theorem dX1_init_89 : decode cX1_init 89 = .ok (.putfield 48, 3) := by decide +kernel
theorem dX1_init_92 : decode cX1_init 92 = .ok (.aload_n 0, 1) := by decide +kernel
theorem dX1_init_93 : decode cX1_init 93 = .ok (.aload_n 1, 1) := by decide +kernel
theorem dX1_init_94 : decode cX1_init 94 = .ok (.putfield 52, 3) := by decide +kernel
theorem dX1_init_97 : decode cX1_init 97 = .ok (.aload_n 0, 1) := by decide +kernel
theorem dX1_init_98 : decode cX1_init 98 = .ok (.new 56, 3) := by decide +kernel
theorem dX1_init_101 : decode cX1_init 101 = .ok (.dup, 1) := by decide +kernel
theorem dX1_init_102 : decode cX1_init 102 = .ok (.aload_n 1, 1) := by decide +kernel
theorem dX1_init_103 : decode cX1_init 103 = .ok (.aload_n 0, 1) := by decide +kernel
theorem dX1_init_104 : decode cX1_init 104 = .ok (.getfield 48, 3) := by decide +kernel
theorem dX1_init_107 : decode cX1_init 107 = .ok (.invokespecial 58, 3) := by decide +kernel
theorem dX1_init_110 : decode cX1_init 110 = .ok (.putfield 61, 3) := by decide +kernel
theorem dX1_init_113 : decode cX1_init 113 = .ok (.return_, 1) := by decide +kernel
theorem dX1_refresh_0 : decode cX1_refresh 0 = .ok (.aload_n 0, 1) := by decide +kernel
theorem dX1_refresh_1 : decode cX1_refresh 1 = .ok (.getfield 25, 3) := by decide +kernel
theorem dX1_refresh_4 : decode cX1_refresh 4 = .ok (.ifCond .ne 4, 3) := by decide +kernel
theorem dX1_refresh_7 : decode cX1_refresh 7 = .ok (.return_, 1) := by decide +kernel
theorem dX1_refresh_8 : decode cX1_refresh 8 = .ok (.aload_n 0, 1) := by decide +kernel
theorem dX1_refresh_9 : decode cX1_refresh 9 = .ok (.iconst 0, 1) := by decide +kernel
theorem dX1_refresh_10 : decode cX1_refresh 10 = .ok (.putfield 25, 3) := by decide +kernel
theorem dX1_refresh_13 : decode cX1_refresh 13 = .ok (.aload_n 0, 1) := by decide +kernel
theorem dX1_refresh_14 : decode cX1_refresh 14 = .ok (.iconst 1, 1) := by decide +kernel
theorem dX1_refresh_15 : decode cX1_refresh 15 = .ok (.putfield 21, 3) := by decide +kernel
theorem dX1_refresh_18 : decode cX1_refresh 18 = .ok (.aload_n 0, 1) := by decide +kernel
theorem dX1_refresh_19 : decode cX1_refresh 19 = .ok (.iconst 0, 1) := by decide +kernel
theorem dX1_refresh_20 : decode cX1_refresh 20 = .ok (.putfield 65, 3) := by decide +kernel
theorem dX1_refresh_23 : decode cX1_refresh 23 = .ok (.aload_n 0, 1) := by decide +kernel
theorem dX1_refresh_24 : decode cX1_refresh 24 = .ok (.getfield 48, 3) := by decide +kernel
theorem dX1_refresh_27 : decode cX1_refresh 27 = .ok (.aload_n 0, 1) := by decide +kernel
theorem dX1_refresh_28 : decode cX1_refresh 28 = .ok (.getfield 52, 3) := by decide +kernel
theorem dX1_refresh_31 : decode cX1_refresh 31 = .ok (.invokevirtual 69, 3) := by decide +kernel
theorem dX1_refresh_34 : decode cX1_refresh 34 = .ok (.aload_n 0, 1) := by decide +kernel
theorem dX1_refresh_35 : decode cX1_refresh 35 = .ok (.getfield 61, 3) := by decide +kernel
theorem dX1_refresh_38 : decode cX1_refresh 38 = .ok (.invokevirtual 73, 3) := by decide +kernel
theorem dX1_refresh_41 : decode cX1_refresh 41 = .ok (.iconst 0, 1) := by decide +kernel
theorem dX1_refresh_42 : decode cX1_refresh 42 = .ok (.istore_n 1, 1) := by decide +kernel
theorem dX1_refresh_43 : decode cX1_refresh 43 = .ok (.iconst 0, 1) := by decide +kernel
theorem dX1_refresh_44 : decode cX1_refresh 44 = .ok (.istore_n 2, 1) := by decide +kernel
theorem dX1_refresh_45 : decode cX1_refresh 45 = .ok (.iload_n 2, 1) := by decide +kernel
theorem dX1_refresh_46 : decode cX1_refresh 46 = .ok (.bipush 84, 2) := by decide +kernel
theorem dX1_refresh_48 : decode cX1_refresh 48 = .ok (.if_icmp .ge 73, 3) := by decide +kernel
theorem dX1_refresh_51 : decode cX1_refresh 51 = .ok (.iload_n 1, 1) := by decide +kernel
theorem dX1_refresh_52 : decode cX1_refresh 52 = .ok (.aload_n 0, 1) := by decide +kernel
theorem dX1_refresh_53 : decode cX1_refresh 53 = .ok (.getfield 52, 3) := by decide +kernel
theorem dX1_refresh_56 : decode cX1_refresh 56 = .ok (.getfield 76, 3) := by decide +kernel
theorem dX1_refresh_59 : decode cX1_refresh 59 = .ok (.if_icmp .lt 13, 3) := by decide +kernel
theorem dX1_refresh_62 : decode cX1_refresh 62 = .ok (.aload_n 0, 1) := by decide +kernel
theorem dX1_refresh_63 : decode cX1_refresh 63 = .ok (.getfield 61, 3) := by decide +kernel
theorem dX1_refresh_66 : decode cX1_refresh 66 = .ok (.invokevirtual 81, 3) := by decide +kernel
theorem dX1_refresh_69 : decode cX1_refresh 69 = .ok (.ifCond .eq 52, 3) := by decide +kernel
theorem dX1_refresh_72 : decode cX1_refresh 72 = .ok (.aload_n 0, 1) := by decide +kernel
theorem dX1_refresh_73 : decode cX1_refresh 73 = .ok (.getfield 61, 3) := by decide +kernel
theorem dX1_refresh_76 : decode cX1_refresh 76 = .ok (.invokevirtual 85, 3) := by decide +kernel
theorem dX1_refresh_79 : decode cX1_refresh 79 = .ok (.aload_n 0, 1) := by decide +kernel
theorem dX1_refresh_80 : decode cX1_refresh 80 = .ok (.iload_n 1, 1) := by decide +kernel
theorem dX1_refresh_81 : decode cX1_refresh 81 = .ok (.invokevirtual 88, 3) := by decide +kernel
theorem dX1_refresh_84 : decode cX1_refresh 84 = .ok (.istore_n 3, 1) := by decide +kernel
theorem dX1_refresh_85 : decode cX1_refresh 85 = .ok (.iload_n 3, 1) := by decide +kernel
theorem dX1_refresh_86 : decode cX1_refresh 86 = .ok (.iload_n 1, 1) := by decide +kernel
theorem dX1_refresh_87 : decode cX1_refresh 87 = .ok (.if_icmp .ne 19, 3) := by decide +kernel
theorem dX1_refresh_90 : decode cX1_refresh 90 = .ok (.aload_n 0, 1) := by decide +kernel
theorem dX1_refresh_91 : decode cX1_refresh 91 = .ok (.getfield 61, 3) := by decide +kernel
theorem dX1_refresh_94 : decode cX1_refresh 94 = .ok (.invokevirtual 81, 3) := by decide +kernel
theorem dX1_refresh_97 : decode cX1_refresh 97 = .ok (.ifCond .ne 9, 3) := by decide +kernel
theorem dX1_refresh_100 : decode cX1_refresh 100 = .ok (.aload_n 0, 1) := by decide +kernel
theorem dX1_refresh_101 : decode cX1_refresh 101 = .ok (.iconst 0, 1) := by decide +kernel
theorem dX1_refresh_102 : decode cX1_refresh 102 = .ok (.putfield 21, 3) := by decide +kernel
theorem dX1_refresh_105 : decode cX1_refresh 105 = .ok (.return_, 1) := by decide +kernel
theorem dX1_refresh_106 : decode cX1_refresh 106 = .ok (.aload_n 0, 1) := by decide +kernel
theorem dX1_refresh_107 : decode cX1_refresh 107 = .ok (.iload_n 2, 1) := by decide +kernel
theorem dX1_refresh_108 : decode cX1_refresh 108 = .ok (.iload_n 1, 1) := by decide +kernel
theorem dX1_refresh_109 : decode cX1_refresh 109 = .ok (.iload_n 3, 1) := by decide +kernel
theorem dX1_refresh_110 : decode cX1_refresh 110 = .ok (.invokevirtual 92, 3) := by decide +kernel
theorem dX1_refresh_113 : decode cX1_refresh 113 = .ok (.iload_n 3, 1) := by decide +kernel
theorem dX1_refresh_114 : decode cX1_refresh 114 = .ok (.istore_n 1, 1) := by decide +kernel
theorem dX1_refresh_115 : decode cX1_refresh 115 = .ok (.iinc 2 1, 3) := by decide +kernel
theorem dX1_refresh_118 : decode cX1_refresh 118 = .ok (.goto (-73), 3) := by decide +kernel
theorem dX1_refresh_121 : decode cX1_refresh 121 = .ok (.return_, 1) := by decide +kernel
theorem dX1_hasPage_0 : decode cX1_hasPage 0 = .ok (.iload_n 1, 1) := by decide +kernel
theorem dX1_hasPage_1 : decode cX1_hasPage 1 = .ok (.ifCond .lt 15, 3) := by decide +kernel
theorem dX1_hasPage_4 : decode cX1_hasPage 4 = .ok (.iload_n 1, 1) := by decide +kernel
theorem dX1_hasPage_5 : decode cX1_hasPage 5 = .ok (.aload_n 0, 1) := by decide +kernel
theorem dX1_hasPage_6 : decode cX1_hasPage 6 = .ok (.getfield 65, 3) := by decide +kernel
theorem dX1_hasPage_9 : decode cX1_hasPage 9 = .ok (.if_icmp .ge 7, 3) := by decide +kernel
theorem dX1_hasPage_12 : decode cX1_hasPage 12 = .ok (.iconst 1, 1) := by decide +kernel
theorem dX1_hasPage_13 : decode cX1_hasPage 13 = .ok (.goto 4, 3) := by decide +kernel
theorem dX1_hasPage_16 : decode cX1_hasPage 16 = .ok (.iconst 0, 1) := by decide +kernel
theorem dX1_hasPage_17 : decode cX1_hasPage 17 = .ok (.ireturn, 1) := by decide +kernel
theorem dX1_takeLines_0 : decode cX1_takeLines 0 = .ok (.iload_n 1, 1) := by decide +kernel
theorem dX1_takeLines_1 : decode cX1_takeLines 1 = .ok (.istore_n 2, 1) := by decide +kernel
theorem dX1_takeLines_2 : decode cX1_takeLines 2 = .ok (.iconst 0, 1) := by decide +kernel
theorem dX1_takeLines_3 : decode cX1_takeLines 3 = .ok (.istore_n 3, 1) := by decide +kernel
theorem dX1_takeLines_4 : decode cX1_takeLines 4 = .ok (.iload_n 2, 1) := by decide +kernel
theorem dX1_takeLines_5 : decode cX1_takeLines 5 = .ok (.aload_n 0, 1) := by decide +kernel
theorem dX1_takeLines_6 : decode cX1_takeLines 6 = .ok (.getfield 52, 3) := by decide +kernel
theorem dX1_takeLines_9 : decode cX1_takeLines 9 = .ok (.getfield 76, 3) := by decide +kernel
theorem dX1_takeLines_12 : decode cX1_takeLines 12 = .ok (.if_icmp .ge 45, 3) := by decide +kernel
theorem dX1_takeLines_15 : decode cX1_takeLines 15 = .ok (.iload_n 3, 1) := by decide +kernel
theorem dX1_takeLines_16 : decode cX1_takeLines 16 = .ok (.aload_n 0, 1) := by decide +kernel
theorem dX1_takeLines_17 : decode cX1_takeLines 17 = .ok (.getfield 52, 3) := by decide +kernel
theorem dX1_takeLines_20 : decode cX1_takeLines 20 = .ok (.getfield 96, 3) := by decide +kernel
theorem dX1_takeLines_23 : decode cX1_takeLines 23 = .ok (.iload_n 2, 1) := by decide +kernel
theorem dX1_takeLines_24 : decode cX1_takeLines 24 = .ok (.iaload, 1) := by decide +kernel
theorem dX1_takeLines_25 : decode cX1_takeLines 25 = .ok (.iadd, 1) := by decide +kernel
theorem dX1_takeLines_26 : decode cX1_takeLines 26 = .ok (.istore_n 3, 1) := by decide +kernel
theorem dX1_takeLines_27 : decode cX1_takeLines 27 = .ok (.iload_n 3, 1) := by decide +kernel
theorem dX1_takeLines_28 : decode cX1_takeLines 28 = .ok (.aload_n 0, 1) := by decide +kernel
theorem dX1_takeLines_29 : decode cX1_takeLines 29 = .ok (.getfield 52, 3) := by decide +kernel
theorem dX1_takeLines_32 : decode cX1_takeLines 32 = .ok (.getfield 99, 3) := by decide +kernel
theorem dX1_takeLines_35 : decode cX1_takeLines 35 = .ok (.if_icmp .gt 14, 3) := by decide +kernel
theorem dX1_takeLines_38 : decode cX1_takeLines 38 = .ok (.aload_n 0, 1) := by decide +kernel
theorem dX1_takeLines_39 : decode cX1_takeLines 39 = .ok (.getfield 61, 3) := by decide +kernel
theorem dX1_takeLines_42 : decode cX1_takeLines 42 = .ok (.iload_n 2, 1) := by decide +kernel
theorem dX1_takeLines_43 : decode cX1_takeLines 43 = .ok (.invokevirtual 102, 3) := by decide +kernel
theorem dX1_takeLines_46 : decode cX1_takeLines 46 = .ok (.ifCond .ne 5, 3) := by decide +kernel
theorem dX1_takeLines_49 : decode cX1_takeLines 49 = .ok (.iload_n 2, 1) := by decide +kernel
theorem dX1_takeLines_50 : decode cX1_takeLines 50 = .ok (.ireturn, 1) := by decide +kernel
theorem dX1_takeLines_51 : decode cX1_takeLines 51 = .ok (.iinc 2 1, 3) := by decide +kernel
theorem dX1_takeLines_54 : decode cX1_takeLines 54 = .ok (.goto (-50), 3) := by decide +kernel
theorem dX1_takeLines_57 : decode cX1_takeLines 57 = .ok (.iload_n 2, 1) := by decide +kernel
theorem dX1_takeLines_58 : decode cX1_takeLines 58 = .ok (.ireturn, 1) := by decide +kernel
theorem dX1_layPage_0 : decode cX1_layPage 0 = .ok (.aload_n 0, 1) := by decide +kernel
theorem dX1_layPage_1 : decode cX1_layPage 1 = .ok (.getfield 28, 3) := by decide +kernel
theorem dX1_layPage_4 : decode cX1_layPage 4 = .ok (.iload_n 1, 1) := by decide +kernel
theorem dX1_layPage_5 : decode cX1_layPage 5 = .ok (.iload_n 2, 1) := by decide +kernel
theorem dX1_layPage_6 : decode cX1_layPage 6 = .ok (.iastore, 1) := by decide +kernel
theorem dX1_layPage_7 : decode cX1_layPage 7 = .ok (.aload_n 0, 1) := by decide +kernel
theorem dX1_layPage_8 : decode cX1_layPage 8 = .ok (.getfield 31, 3) := by decide +kernel
theorem dX1_layPage_11 : decode cX1_layPage 11 = .ok (.iload_n 1, 1) := by decide +kernel
theorem dX1_layPage_12 : decode cX1_layPage 12 = .ok (.iload_n 3, 1) := by decide +kernel
theorem dX1_layPage_13 : decode cX1_layPage 13 = .ok (.iastore, 1) := by decide +kernel
theorem dX1_layPage_14 : decode cX1_layPage 14 = .ok (.aload_n 0, 1) := by decide +kernel
theorem dX1_layPage_15 : decode cX1_layPage 15 = .ok (.getfield 34, 3) := by decide +kernel
theorem dX1_layPage_18 : decode cX1_layPage 18 = .ok (.iload_n 1, 1) := by decide +kernel
theorem dX1_layPage_19 : decode cX1_layPage 19 = .ok (.aload_n 0, 1) := by decide +kernel
theorem dX1_layPage_20 : decode cX1_layPage 20 = .ok (.getfield 61, 3) := by decide +kernel
theorem dX1_layPage_23 : decode cX1_layPage 23 = .ok (.getfield 106, 3) := by decide +kernel
theorem dX1_layPage_26 : decode cX1_layPage 26 = .ok (.iastore, 1) := by decide +kernel
theorem dX1_layPage_27 : decode cX1_layPage 27 = .ok (.aload_n 0, 1) := by decide +kernel
theorem dX1_layPage_28 : decode cX1_layPage 28 = .ok (.getfield 37, 3) := by decide +kernel
theorem dX1_layPage_31 : decode cX1_layPage 31 = .ok (.iload_n 1, 1) := by decide +kernel
theorem dX1_layPage_32 : decode cX1_layPage 32 = .ok (.aload_n 0, 1) := by decide +kernel
theorem dX1_layPage_33 : decode cX1_layPage 33 = .ok (.getfield 61, 3) := by decide +kernel
theorem dX1_layPage_36 : decode cX1_layPage 36 = .ok (.getfield 109, 3) := by decide +kernel
theorem dX1_layPage_39 : decode cX1_layPage 39 = .ok (.iastore, 1) := by decide +kernel
theorem dX1_layPage_40 : decode cX1_layPage 40 = .ok (.aload_n 0, 1) := by decide +kernel
theorem dX1_layPage_41 : decode cX1_layPage 41 = .ok (.getfield 42, 3) := by decide +kernel
theorem dX1_layPage_44 : decode cX1_layPage 44 = .ok (.iconst 0, 1) := by decide +kernel
theorem dX1_layPage_45 : decode cX1_layPage 45 = .ok (.aaload, 1) := by decide +kernel
theorem dX1_layPage_46 : decode cX1_layPage 46 = .ok (.iload_n 1, 1) := by decide +kernel
theorem dX1_layPage_47 : decode cX1_layPage 47 = .ok (.aload_n 0, 1) := by decide +kernel
theorem dX1_layPage_48 : decode cX1_layPage 48 = .ok (.getfield 61, 3) := by decide +kernel
theorem dX1_layPage_51 : decode cX1_layPage 51 = .ok (.getfield 112, 3) := by decide +kernel
theorem dX1_layPage_54 : decode cX1_layPage 54 = .ok (.getfield 116, 3) := by decide +kernel
theorem dX1_layPage_57 : decode cX1_layPage 57 = .ok (.iastore, 1) := by decide +kernel
theorem dX1_layPage_58 : decode cX1_layPage 58 = .ok (.aload_n 0, 1) := by decide +kernel
theorem dX1_layPage_59 : decode cX1_layPage 59 = .ok (.getfield 42, 3) := by decide +kernel
theorem dX1_layPage_62 : decode cX1_layPage 62 = .ok (.iconst 1, 1) := by decide +kernel
theorem dX1_layPage_63 : decode cX1_layPage 63 = .ok (.aaload, 1) := by decide +kernel
theorem dX1_layPage_64 : decode cX1_layPage 64 = .ok (.iload_n 1, 1) := by decide +kernel
theorem dX1_layPage_65 : decode cX1_layPage 65 = .ok (.aload_n 0, 1) := by decide +kernel
theorem dX1_layPage_66 : decode cX1_layPage 66 = .ok (.getfield 61, 3) := by decide +kernel
theorem dX1_layPage_69 : decode cX1_layPage 69 = .ok (.getfield 120, 3) := by decide +kernel
theorem dX1_layPage_72 : decode cX1_layPage 72 = .ok (.getfield 116, 3) := by decide +kernel
theorem dX1_layPage_75 : decode cX1_layPage 75 = .ok (.iastore, 1) := by decide +kernel
theorem dX1_layPage_76 : decode cX1_layPage 76 = .ok (.iconst 0, 1) := by decide +kernel
theorem dX1_layPage_77 : decode cX1_layPage 77 = .ok (.istore 4, 2) := by decide +kernel
theorem dX1_layPage_79 : decode cX1_layPage 79 = .ok (.iload_n 2, 1) := by decide +kernel
theorem dX1_layPage_80 : decode cX1_layPage 80 = .ok (.istore 5, 2) := by decide +kernel
theorem dX1_layPage_82 : decode cX1_layPage 82 = .ok (.iload 5, 2) := by decide +kernel
theorem dX1_layPage_84 : decode cX1_layPage 84 = .ok (.iload_n 3, 1) := by decide +kernel
theorem dX1_layPage_85 : decode cX1_layPage 85 = .ok (.if_icmp .ge 41, 3) := by decide +kernel
theorem dX1_layPage_88 : decode cX1_layPage 88 = .ok (.aload_n 0, 1) := by decide +kernel
theorem dX1_layPage_89 : decode cX1_layPage 89 = .ok (.getfield 9, 3) := by decide +kernel
theorem dX1_layPage_92 : decode cX1_layPage 92 = .ok (.iload 5, 2) := by decide +kernel
theorem dX1_layPage_94 : decode cX1_layPage 94 = .ok (.iload_n 1, 1) := by decide +kernel
theorem dX1_layPage_95 : decode cX1_layPage 95 = .ok (.iastore, 1) := by decide +kernel
theorem dX1_layPage_96 : decode cX1_layPage 96 = .ok (.aload_n 0, 1) := by decide +kernel
theorem dX1_layPage_97 : decode cX1_layPage 97 = .ok (.getfield 15, 3) := by decide +kernel
theorem dX1_layPage_100 : decode cX1_layPage 100 = .ok (.iload 5, 2) := by decide +kernel
theorem dX1_layPage_102 : decode cX1_layPage 102 = .ok (.iload 4, 2) := by decide +kernel
theorem dX1_layPage_104 : decode cX1_layPage 104 = .ok (.iastore, 1) := by decide +kernel
theorem dX1_layPage_105 : decode cX1_layPage 105 = .ok (.iload 4, 2) := by decide +kernel
theorem dX1_layPage_107 : decode cX1_layPage 107 = .ok (.aload_n 0, 1) := by decide +kernel
theorem dX1_layPage_108 : decode cX1_layPage 108 = .ok (.getfield 52, 3) := by decide +kernel
theorem dX1_layPage_111 : decode cX1_layPage 111 = .ok (.getfield 96, 3) := by decide +kernel
theorem dX1_layPage_114 : decode cX1_layPage 114 = .ok (.iload 5, 2) := by decide +kernel
theorem dX1_layPage_116 : decode cX1_layPage 116 = .ok (.iaload, 1) := by decide +kernel
theorem dX1_layPage_117 : decode cX1_layPage 117 = .ok (.iadd, 1) := by decide +kernel
theorem dX1_layPage_118 : decode cX1_layPage 118 = .ok (.istore 4, 2) := by decide +kernel
theorem dX1_layPage_120 : decode cX1_layPage 120 = .ok (.iinc 5 1, 3) := by decide +kernel
theorem dX1_layPage_123 : decode cX1_layPage 123 = .ok (.goto (-41), 3) := by decide +kernel
theorem dX1_layPage_126 : decode cX1_layPage 126 = .ok (.aload_n 0, 1) := by decide +kernel
theorem dX1_layPage_127 : decode cX1_layPage 127 = .ok (.getfield 34, 3) := by decide +kernel
theorem dX1_layPage_130 : decode cX1_layPage 130 = .ok (.iload_n 1, 1) := by decide +kernel
theorem dX1_layPage_131 : decode cX1_layPage 131 = .ok (.iaload, 1) := by decide +kernel
theorem dX1_layPage_132 : decode cX1_layPage 132 = .ok (.istore 5, 2) := by decide +kernel
theorem dX1_layPage_134 : decode cX1_layPage 134 = .ok (.iload 5, 2) := by decide +kernel
theorem dX1_layPage_136 : decode cX1_layPage 136 = .ok (.aload_n 0, 1) := by decide +kernel
theorem dX1_layPage_137 : decode cX1_layPage 137 = .ok (.getfield 37, 3) := by decide +kernel
theorem dX1_layPage_140 : decode cX1_layPage 140 = .ok (.iload_n 1, 1) := by decide +kernel
theorem dX1_layPage_141 : decode cX1_layPage 141 = .ok (.iaload, 1) := by decide +kernel
theorem dX1_layPage_142 : decode cX1_layPage 142 = .ok (.if_icmp .ge 36, 3) := by decide +kernel
theorem dX1_layPage_145 : decode cX1_layPage 145 = .ok (.aload_n 0, 1) := by decide +kernel
theorem dX1_layPage_146 : decode cX1_layPage 146 = .ok (.getfield 48, 3) := by decide +kernel
theorem dX1_layPage_149 : decode cX1_layPage 149 = .ok (.getfield 123, 3) := by decide +kernel
theorem dX1_layPage_152 : decode cX1_layPage 152 = .ok (.iload 5, 2) := by decide +kernel
theorem dX1_layPage_154 : decode cX1_layPage 154 = .ok (.aaload, 1) := by decide +kernel
theorem dX1_layPage_155 : decode cX1_layPage 155 = .ok (.astore 6, 2) := by decide +kernel
theorem dX1_layPage_157 : decode cX1_layPage 157 = .ok (.aload 6, 2) := by decide +kernel
theorem dX1_layPage_159 : decode cX1_layPage 159 = .ok (.aload_n 0, 1) := by decide +kernel
theorem dX1_layPage_160 : decode cX1_layPage 160 = .ok (.getfield 15, 3) := by decide +kernel
theorem dX1_layPage_163 : decode cX1_layPage 163 = .ok (.aload 6, 2) := by decide +kernel
theorem dX1_layPage_165 : decode cX1_layPage 165 = .ok (.getfield 127, 3) := by decide +kernel
theorem dX1_layPage_168 : decode cX1_layPage 168 = .ok (.iaload, 1) := by decide +kernel
theorem dX1_layPage_169 : decode cX1_layPage 169 = .ok (.putfield 132, 3) := by decide +kernel
theorem dX1_layPage_172 : decode cX1_layPage 172 = .ok (.iinc 5 1, 3) := by decide +kernel
theorem dX1_layPage_175 : decode cX1_layPage 175 = .ok (.goto (-41), 3) := by decide +kernel
theorem dX1_layPage_178 : decode cX1_layPage 178 = .ok (.aload_n 0, 1) := by decide +kernel
theorem dX1_layPage_179 : decode cX1_layPage 179 = .ok (.getfield 18, 3) := by decide +kernel
theorem dX1_layPage_182 : decode cX1_layPage 182 = .ok (.iload_n 1, 1) := by decide +kernel
theorem dX1_layPage_183 : decode cX1_layPage 183 = .ok (.aload_n 0, 1) := by decide +kernel
theorem dX1_layPage_184 : decode cX1_layPage 184 = .ok (.getfield 61, 3) := by decide +kernel
theorem dX1_layPage_187 : decode cX1_layPage 187 = .ok (.invokevirtual 134, 3) := by decide +kernel
theorem dX1_layPage_190 : decode cX1_layPage 190 = .ok (.iastore, 1) := by decide +kernel
theorem dX1_layPage_191 : decode cX1_layPage 191 = .ok (.aload_n 0, 1) := by decide +kernel
theorem dX1_layPage_192 : decode cX1_layPage 192 = .ok (.iload_n 1, 1) := by decide +kernel
theorem dX1_layPage_193 : decode cX1_layPage 193 = .ok (.iconst 1, 1) := by decide +kernel
theorem dX1_layPage_194 : decode cX1_layPage 194 = .ok (.iadd, 1) := by decide +kernel
theorem dX1_layPage_195 : decode cX1_layPage 195 = .ok (.putfield 65, 3) := by decide +kernel
theorem dX1_layPage_198 : decode cX1_layPage 198 = .ok (.return_, 1) := by decide +kernel
theorem dX1_countRuns_0 : decode cX1_countRuns 0 = .ok (.aload_n 0, 1) := by decide +kernel
theorem dX1_countRuns_1 : decode cX1_countRuns 1 = .ok (.iload_n 1, 1) := by decide +kernel
theorem dX1_countRuns_2 : decode cX1_countRuns 2 = .ok (.invokevirtual 138, 3) := by decide +kernel
theorem dX1_countRuns_5 : decode cX1_countRuns 5 = .ok (.ifCond .eq 12, 3) := by decide +kernel
theorem dX1_countRuns_8 : decode cX1_countRuns 8 = .ok (.iload_n 2, 1) := by decide +kernel
theorem dX1_countRuns_9 : decode cX1_countRuns 9 = .ok (.iconst 0, 1) := by decide +kernel
theorem dX1_countRuns_10 : decode cX1_countRuns 10 = .ok (.iconst 1, 1) := by decide +kernel
theorem dX1_countRuns_11 : decode cX1_countRuns 11 = .ok (.invokestatic 141, 3) := by decide +kernel
theorem dX1_countRuns_14 : decode cX1_countRuns 14 = .ok (.ifCond .ne 5, 3) := by decide +kernel
theorem dX1_countRuns_17 : decode cX1_countRuns 17 = .ok (.iconst (-1), 1) := by decide +kernel
theorem dX1_countRuns_18 : decode cX1_countRuns 18 = .ok (.ireturn, 1) := by decide +kernel
theorem dX1_countRuns_19 : decode cX1_countRuns 19 = .ok (.iconst 0, 1) := by decide +kernel
theorem dX1_countRuns_20 : decode cX1_countRuns 20 = .ok (.istore_n 3, 1) := by decide +kernel
theorem dX1_countRuns_21 : decode cX1_countRuns 21 = .ok (.iconst (-1), 1) := by decide +kernel
theorem dX1_countRuns_22 : decode cX1_countRuns 22 = .ok (.istore 4, 2) := by decide +kernel
theorem dX1_countRuns_24 : decode cX1_countRuns 24 = .ok (.aload_n 0, 1) := by decide +kernel
theorem dX1_countRuns_25 : decode cX1_countRuns 25 = .ok (.getfield 42, 3) := by decide +kernel
theorem dX1_countRuns_28 : decode cX1_countRuns 28 = .ok (.iload_n 2, 1) := by decide +kernel
theorem dX1_countRuns_29 : decode cX1_countRuns 29 = .ok (.aaload, 1) := by decide +kernel
theorem dX1_countRuns_30 : decode cX1_countRuns 30 = .ok (.iload_n 1, 1) := by decide +kernel
theorem dX1_countRuns_31 : decode cX1_countRuns 31 = .ok (.iaload, 1) := by decide +kernel
theorem dX1_countRuns_32 : decode cX1_countRuns 32 = .ok (.ifCond .le 24, 3) := by decide +kernel
theorem dX1_countRuns_35 : decode cX1_countRuns 35 = .ok (.iinc 3 1, 3) := by decide +kernel
theorem dX1_countRuns_38 : decode cX1_countRuns 38 = .ok (.aload_n 0, 1) := by decide +kernel
theorem dX1_countRuns_39 : decode cX1_countRuns 39 = .ok (.getfield 42, 3) := by decide +kernel
theorem dX1_countRuns_42 : decode cX1_countRuns 42 = .ok (.iload_n 2, 1) := by decide +kernel
theorem dX1_countRuns_43 : decode cX1_countRuns 43 = .ok (.aaload, 1) := by decide +kernel
theorem dX1_countRuns_44 : decode cX1_countRuns 44 = .ok (.iload_n 1, 1) := by decide +kernel
theorem dX1_countRuns_45 : decode cX1_countRuns 45 = .ok (.iaload, 1) := by decide +kernel
theorem dX1_countRuns_46 : decode cX1_countRuns 46 = .ok (.aload_n 0, 1) := by decide +kernel
theorem dX1_countRuns_47 : decode cX1_countRuns 47 = .ok (.getfield 52, 3) := by decide +kernel
theorem dX1_countRuns_50 : decode cX1_countRuns 50 = .ok (.getfield 145, 3) := by decide +kernel
theorem dX1_countRuns_53 : decode cX1_countRuns 53 = .ok (.iadd, 1) := by decide +kernel
theorem dX1_countRuns_54 : decode cX1_countRuns 54 = .ok (.istore 4, 2) := by decide +kernel
theorem dX1_countRuns_56 : decode cX1_countRuns 56 = .ok (.aload_n 0, 1) := by decide +kernel
theorem dX1_countRuns_57 : decode cX1_countRuns 57 = .ok (.getfield 34, 3) := by decide +kernel
theorem dX1_countRuns_60 : decode cX1_countRuns 60 = .ok (.iload_n 1, 1) := by decide +kernel
theorem dX1_countRuns_61 : decode cX1_countRuns 61 = .ok (.iaload, 1) := by decide +kernel
theorem dX1_countRuns_62 : decode cX1_countRuns 62 = .ok (.istore 5, 2) := by decide +kernel
theorem dX1_countRuns_64 : decode cX1_countRuns 64 = .ok (.iload 5, 2) := by decide +kernel
theorem dX1_countRuns_66 : decode cX1_countRuns 66 = .ok (.aload_n 0, 1) := by decide +kernel
theorem dX1_countRuns_67 : decode cX1_countRuns 67 = .ok (.getfield 37, 3) := by decide +kernel
theorem dX1_countRuns_70 : decode cX1_countRuns 70 = .ok (.iload_n 1, 1) := by decide +kernel
theorem dX1_countRuns_71 : decode cX1_countRuns 71 = .ok (.iaload, 1) := by decide +kernel
theorem dX1_countRuns_72 : decode cX1_countRuns 72 = .ok (.if_icmp .ge 64, 3) := by decide +kernel
theorem dX1_countRuns_75 : decode cX1_countRuns 75 = .ok (.aload_n 0, 1) := by decide +kernel
theorem dX1_countRuns_76 : decode cX1_countRuns 76 = .ok (.getfield 48, 3) := by decide +kernel
theorem dX1_countRuns_79 : decode cX1_countRuns 79 = .ok (.getfield 123, 3) := by decide +kernel
theorem dX1_countRuns_82 : decode cX1_countRuns 82 = .ok (.iload 5, 2) := by decide +kernel
theorem dX1_countRuns_84 : decode cX1_countRuns 84 = .ok (.aaload, 1) := by decide +kernel
theorem dX1_countRuns_85 : decode cX1_countRuns 85 = .ok (.astore 6, 2) := by decide +kernel
theorem dX1_countRuns_87 : decode cX1_countRuns 87 = .ok (.aload 6, 2) := by decide +kernel
theorem dX1_countRuns_89 : decode cX1_countRuns 89 = .ok (.getfield 148, 3) := by decide +kernel
theorem dX1_countRuns_92 : decode cX1_countRuns 92 = .ok (.iload_n 2, 1) := by decide +kernel
theorem dX1_countRuns_93 : decode cX1_countRuns 93 = .ok (.if_icmp .ne 37, 3) := by decide +kernel
theorem dX1_countRuns_96 : decode cX1_countRuns 96 = .ok (.aload 6, 2) := by decide +kernel
theorem dX1_countRuns_98 : decode cX1_countRuns 98 = .ok (.getfield 151, 3) := by decide +kernel
theorem dX1_countRuns_101 : decode cX1_countRuns 101 = .ok (.iload 4, 2) := by decide +kernel
theorem dX1_countRuns_103 : decode cX1_countRuns 103 = .ok (.if_icmp .eq 6, 3) := by decide +kernel
theorem dX1_countRuns_106 : decode cX1_countRuns 106 = .ok (.iinc 3 1, 3) := by decide +kernel
theorem dX1_countRuns_109 : decode cX1_countRuns 109 = .ok (.aload 6, 2) := by decide +kernel
theorem dX1_countRuns_111 : decode cX1_countRuns 111 = .ok (.getfield 151, 3) := by decide +kernel
theorem dX1_countRuns_114 : decode cX1_countRuns 114 = .ok (.aload 6, 2) := by decide +kernel
theorem dX1_countRuns_116 : decode cX1_countRuns 116 = .ok (.getfield 154, 3) := by decide +kernel
theorem dX1_countRuns_119 : decode cX1_countRuns 119 = .ok (.iadd, 1) := by decide +kernel
theorem dX1_countRuns_120 : decode cX1_countRuns 120 = .ok (.aload_n 0, 1) := by decide +kernel
theorem dX1_countRuns_121 : decode cX1_countRuns 121 = .ok (.getfield 52, 3) := by decide +kernel
theorem dX1_countRuns_124 : decode cX1_countRuns 124 = .ok (.getfield 145, 3) := by decide +kernel
theorem dX1_countRuns_127 : decode cX1_countRuns 127 = .ok (.iadd, 1) := by decide +kernel
theorem dX1_countRuns_128 : decode cX1_countRuns 128 = .ok (.istore 4, 2) := by decide +kernel
theorem dX1_countRuns_130 : decode cX1_countRuns 130 = .ok (.iinc 5 1, 3) := by decide +kernel
theorem dX1_countRuns_133 : decode cX1_countRuns 133 = .ok (.goto (-69), 3) := by decide +kernel
theorem dX1_countRuns_136 : decode cX1_countRuns 136 = .ok (.iload_n 3, 1) := by decide +kernel
theorem dX1_countRuns_137 : decode cX1_countRuns 137 = .ok (.ireturn, 1) := by decide +kernel
theorem dX1_countMoved_0 : decode cX1_countMoved 0 = .ok (.aload_n 0, 1) := by decide +kernel
theorem dX1_countMoved_1 : decode cX1_countMoved 1 = .ok (.iload_n 1, 1) := by decide +kernel
theorem dX1_countMoved_2 : decode cX1_countMoved 2 = .ok (.invokevirtual 138, 3) := by decide +kernel
theorem dX1_countMoved_5 : decode cX1_countMoved 5 = .ok (.ifCond .ne 5, 3) := by decide +kernel
theorem dX1_countMoved_8 : decode cX1_countMoved 8 = .ok (.iconst (-1), 1) := by decide +kernel
theorem dX1_countMoved_9 : decode cX1_countMoved 9 = .ok (.ireturn, 1) := by decide +kernel
theorem dX1_countMoved_10 : decode cX1_countMoved 10 = .ok (.iconst 0, 1) := by decide +kernel
theorem dX1_countMoved_11 : decode cX1_countMoved 11 = .ok (.istore_n 2, 1) := by decide +kernel
theorem dX1_countMoved_12 : decode cX1_countMoved 12 = .ok (.aload_n 0, 1) := by decide +kernel
theorem dX1_countMoved_13 : decode cX1_countMoved 13 = .ok (.getfield 34, 3) := by decide +kernel
theorem dX1_countMoved_16 : decode cX1_countMoved 16 = .ok (.iload_n 1, 1) := by decide +kernel
theorem dX1_countMoved_17 : decode cX1_countMoved 17 = .ok (.iaload, 1) := by decide +kernel
theorem dX1_countMoved_18 : decode cX1_countMoved 18 = .ok (.istore_n 3, 1) := by decide +kernel
theorem dX1_countMoved_19 : decode cX1_countMoved 19 = .ok (.iload_n 3, 1) := by decide +kernel
theorem dX1_countMoved_20 : decode cX1_countMoved 20 = .ok (.aload_n 0, 1) := by decide +kernel
theorem dX1_countMoved_21 : decode cX1_countMoved 21 = .ok (.getfield 37, 3) := by decide +kernel
theorem dX1_countMoved_24 : decode cX1_countMoved 24 = .ok (.iload_n 1, 1) := by decide +kernel
theorem dX1_countMoved_25 : decode cX1_countMoved 25 = .ok (.iaload, 1) := by decide +kernel
theorem dX1_countMoved_26 : decode cX1_countMoved 26 = .ok (.if_icmp .ge 39, 3) := by decide +kernel
theorem dX1_countMoved_29 : decode cX1_countMoved 29 = .ok (.aload_n 0, 1) := by decide +kernel
theorem dX1_countMoved_30 : decode cX1_countMoved 30 = .ok (.getfield 48, 3) := by decide +kernel
theorem dX1_countMoved_33 : decode cX1_countMoved 33 = .ok (.getfield 123, 3) := by decide +kernel
theorem dX1_countMoved_36 : decode cX1_countMoved 36 = .ok (.iload_n 3, 1) := by decide +kernel
theorem dX1_countMoved_37 : decode cX1_countMoved 37 = .ok (.aaload, 1) := by decide +kernel
theorem dX1_countMoved_38 : decode cX1_countMoved 38 = .ok (.getfield 151, 3) := by decide +kernel
theorem dX1_countMoved_41 : decode cX1_countMoved 41 = .ok (.aload_n 0, 1) := by decide +kernel
theorem dX1_countMoved_42 : decode cX1_countMoved 42 = .ok (.getfield 48, 3) := by decide +kernel
theorem dX1_countMoved_45 : decode cX1_countMoved 45 = .ok (.getfield 123, 3) := by decide +kernel
theorem dX1_countMoved_48 : decode cX1_countMoved 48 = .ok (.iload_n 3, 1) := by decide +kernel
theorem dX1_countMoved_49 : decode cX1_countMoved 49 = .ok (.aaload, 1) := by decide +kernel
theorem dX1_countMoved_50 : decode cX1_countMoved 50 = .ok (.getfield 132, 3) := by decide +kernel
theorem dX1_countMoved_53 : decode cX1_countMoved 53 = .ok (.if_icmp .eq 6, 3) := by decide +kernel
theorem dX1_countMoved_56 : decode cX1_countMoved 56 = .ok (.iinc 2 1, 3) := by decide +kernel
theorem dX1_countMoved_59 : decode cX1_countMoved 59 = .ok (.iinc 3 1, 3) := by decide +kernel
theorem dX1_countMoved_62 : decode cX1_countMoved 62 = .ok (.goto (-43), 3) := by decide +kernel
theorem dX1_countMoved_65 : decode cX1_countMoved 65 = .ok (.iload_n 2, 1) := by decide +kernel
theorem dX1_countMoved_66 : decode cX1_countMoved 66 = .ok (.ireturn, 1) := by decide +kernel
theorem dX1_hasBracket_0 : decode cX1_hasBracket 0 = .ok (.aload_n 0, 1) := by decide +kernel
theorem dX1_hasBracket_1 : decode cX1_hasBracket 1 = .ok (.iload_n 2, 1) := by decide +kernel
theorem dX1_hasBracket_2 : decode cX1_hasBracket 2 = .ok (.invokevirtual 138, 3) := by decide +kernel
theorem dX1_hasBracket_5 : decode cX1_hasBracket 5 = .ok (.ifCond .eq 30, 3) := by decide +kernel
theorem dX1_hasBracket_8 : decode cX1_hasBracket 8 = .ok (.aload_n 1, 1) := by decide +kernel
theorem dX1_hasBracket_9 : decode cX1_hasBracket 9 = .ok (.getfield 157, 3) := by decide +kernel
theorem dX1_hasBracket_12 : decode cX1_hasBracket 12 = .ok (.iconst (-1), 1) := by decide +kernel
theorem dX1_hasBracket_13 : decode cX1_hasBracket 13 = .ok (.if_icmp .eq 22, 3) := by decide +kernel
theorem dX1_hasBracket_16 : decode cX1_hasBracket 16 = .ok (.aload_n 0, 1) := by decide +kernel
theorem dX1_hasBracket_17 : decode cX1_hasBracket 17 = .ok (.aload_n 1, 1) := by decide +kernel
theorem dX1_hasBracket_18 : decode cX1_hasBracket 18 = .ok (.iload_n 2, 1) := by decide +kernel
theorem dX1_hasBracket_19 : decode cX1_hasBracket 19 = .ok (.invokevirtual 160, 3) := by decide +kernel
theorem dX1_hasBracket_22 : decode cX1_hasBracket 22 = .ok (.aload_n 0, 1) := by decide +kernel
theorem dX1_hasBracket_23 : decode cX1_hasBracket 23 = .ok (.aload_n 1, 1) := by decide +kernel
theorem dX1_hasBracket_24 : decode cX1_hasBracket 24 = .ok (.iload_n 2, 1) := by decide +kernel
theorem dX1_hasBracket_25 : decode cX1_hasBracket 25 = .ok (.invokevirtual 164, 3) := by decide +kernel
theorem dX1_hasBracket_28 : decode cX1_hasBracket 28 = .ok (.if_icmp .gt 7, 3) := by decide +kernel
theorem dX1_hasBracket_31 : decode cX1_hasBracket 31 = .ok (.iconst 1, 1) := by decide +kernel
theorem dX1_hasBracket_32 : decode cX1_hasBracket 32 = .ok (.goto 4, 3) := by decide +kernel
theorem dX1_hasBracket_35 : decode cX1_hasBracket 35 = .ok (.iconst 0, 1) := by decide +kernel
theorem dX1_hasBracket_36 : decode cX1_hasBracket 36 = .ok (.ireturn, 1) := by decide +kernel
theorem dX1_bracketBegin_0 : decode cX1_bracketBegin 0 = .ok (.aload_n 0, 1) := by decide +kernel
theorem dX1_bracketBegin_1 : decode cX1_bracketBegin 1 = .ok (.aload_n 1, 1) := by decide +kernel
theorem dX1_bracketBegin_2 : decode cX1_bracketBegin 2 = .ok (.iload_n 2, 1) := by decide +kernel
theorem dX1_bracketBegin_3 : decode cX1_bracketBegin 3 = .ok (.invokevirtual 167, 3) := by decide +kernel
theorem dX1_bracketBegin_6 : decode cX1_bracketBegin 6 = .ok (.ifCond .eq 17, 3) := by decide +kernel
theorem dX1_bracketBegin_9 : decode cX1_bracketBegin 9 = .ok (.aload_n 0, 1) := by decide +kernel
theorem dX1_bracketBegin_10 : decode cX1_bracketBegin 10 = .ok (.getfield 15, 3) := by decide +kernel
theorem dX1_bracketBegin_13 : decode cX1_bracketBegin 13 = .ok (.aload_n 0, 1) := by decide +kernel
theorem dX1_bracketBegin_14 : decode cX1_bracketBegin 14 = .ok (.aload_n 1, 1) := by decide +kernel
theorem dX1_bracketBegin_15 : decode cX1_bracketBegin 15 = .ok (.iload_n 2, 1) := by decide +kernel
theorem dX1_bracketBegin_16 : decode cX1_bracketBegin 16 = .ok (.invokevirtual 160, 3) := by decide +kernel
theorem dX1_bracketBegin_19 : decode cX1_bracketBegin 19 = .ok (.iaload, 1) := by decide +kernel
theorem dX1_bracketBegin_20 : decode cX1_bracketBegin 20 = .ok (.goto 4, 3) := by decide +kernel
theorem dX1_bracketBegin_23 : decode cX1_bracketBegin 23 = .ok (.iconst (-1), 1) := by decide +kernel
theorem dX1_bracketBegin_24 : decode cX1_bracketBegin 24 = .ok (.ireturn, 1) := by decide +kernel
theorem dX1_bracketEnd_0 : decode cX1_bracketEnd 0 = .ok (.aload_n 0, 1) := by decide +kernel
theorem dX1_bracketEnd_1 : decode cX1_bracketEnd 1 = .ok (.aload_n 1, 1) := by decide +kernel
theorem dX1_bracketEnd_2 : decode cX1_bracketEnd 2 = .ok (.iload_n 2, 1) := by decide +kernel
theorem dX1_bracketEnd_3 : decode cX1_bracketEnd 3 = .ok (.invokevirtual 167, 3) := by decide +kernel
theorem dX1_bracketEnd_6 : decode cX1_bracketEnd 6 = .ok (.ifCond .ne 5, 3) := by decide +kernel
theorem dX1_bracketEnd_9 : decode cX1_bracketEnd 9 = .ok (.iconst (-1), 1) := by decide +kernel
theorem dX1_bracketEnd_10 : decode cX1_bracketEnd 10 = .ok (.ireturn, 1) := by decide +kernel
theorem dX1_bracketEnd_11 : decode cX1_bracketEnd 11 = .ok (.aload_n 0, 1) := by decide +kernel
theorem dX1_bracketEnd_12 : decode cX1_bracketEnd 12 = .ok (.aload_n 1, 1) := by decide +kernel
theorem dX1_bracketEnd_13 : decode cX1_bracketEnd 13 = .ok (.iload_n 2, 1) := by decide +kernel
theorem dX1_bracketEnd_14 : decode cX1_bracketEnd 14 = .ok (.invokevirtual 164, 3) := by decide +kernel
theorem dX1_bracketEnd_17 : decode cX1_bracketEnd 17 = .ok (.istore_n 3, 1) := by decide +kernel
theorem dX1_bracketEnd_18 : decode cX1_bracketEnd 18 = .ok (.aload_n 0, 1) := by decide +kernel
theorem dX1_bracketEnd_19 : decode cX1_bracketEnd 19 = .ok (.getfield 15, 3) := by decide +kernel
theorem dX1_bracketEnd_22 : decode cX1_bracketEnd 22 = .ok (.iload_n 3, 1) := by decide +kernel
theorem dX1_bracketEnd_23 : decode cX1_bracketEnd 23 = .ok (.iaload, 1) := by decide +kernel
theorem dX1_bracketEnd_24 : decode cX1_bracketEnd 24 = .ok (.aload_n 0, 1) := by decide +kernel
theorem dX1_bracketEnd_25 : decode cX1_bracketEnd 25 = .ok (.getfield 52, 3) := by decide +kernel
theorem dX1_bracketEnd_28 : decode cX1_bracketEnd 28 = .ok (.getfield 96, 3) := by decide +kernel
theorem dX1_bracketEnd_31 : decode cX1_bracketEnd 31 = .ok (.iload_n 3, 1) := by decide +kernel
theorem dX1_bracketEnd_32 : decode cX1_bracketEnd 32 = .ok (.iaload, 1) := by decide +kernel
theorem dX1_bracketEnd_33 : decode cX1_bracketEnd 33 = .ok (.iadd, 1) := by decide +kernel
theorem dX1_bracketEnd_34 : decode cX1_bracketEnd 34 = .ok (.ireturn, 1) := by decide +kernel
theorem dX1_firstOf_0 : decode cX1_firstOf 0 = .ok (.aload_n 1, 1) := by decide +kernel
theorem dX1_firstOf_1 : decode cX1_firstOf 1 = .ok (.getfield 127, 3) := by decide +kernel
theorem dX1_firstOf_4 : decode cX1_firstOf 4 = .ok (.aload_n 0, 1) := by decide +kernel
theorem dX1_firstOf_5 : decode cX1_firstOf 5 = .ok (.getfield 28, 3) := by decide +kernel
theorem dX1_firstOf_8 : decode cX1_firstOf 8 = .ok (.iload_n 2, 1) := by decide +kernel
theorem dX1_firstOf_9 : decode cX1_firstOf 9 = .ok (.iaload, 1) := by decide +kernel
theorem dX1_firstOf_10 : decode cX1_firstOf 10 = .ok (.invokestatic 171, 3) := by decide +kernel
theorem dX1_firstOf_13 : decode cX1_firstOf 13 = .ok (.ireturn, 1) := by decide +kernel
theorem dX1_lastOf_0 : decode cX1_lastOf 0 = .ok (.aload_n 1, 1) := by decide +kernel
theorem dX1_lastOf_1 : decode cX1_lastOf 1 = .ok (.getfield 157, 3) := by decide +kernel
theorem dX1_lastOf_4 : decode cX1_lastOf 4 = .ok (.aload_n 0, 1) := by decide +kernel
theorem dX1_lastOf_5 : decode cX1_lastOf 5 = .ok (.getfield 31, 3) := by decide +kernel
theorem dX1_lastOf_8 : decode cX1_lastOf 8 = .ok (.iload_n 2, 1) := by decide +kernel
theorem dX1_lastOf_9 : decode cX1_lastOf 9 = .ok (.iaload, 1) := by decide +kernel
theorem dX1_lastOf_10 : decode cX1_lastOf 10 = .ok (.iconst 1, 1) := by decide +kernel
theorem dX1_lastOf_11 : decode cX1_lastOf 11 = .ok (.isub, 1) := by decide +kernel
theorem dX1_lastOf_12 : decode cX1_lastOf 12 = .ok (.invokestatic 177, 3) := by decide +kernel
theorem dX1_lastOf_15 : decode cX1_lastOf 15 = .ok (.ireturn, 1) := by decide +kernel
theorem dX1_columnOf_0 : decode cX1_columnOf 0 = .ok (.iconst 0, 1) := by decide +kernel
theorem dX1_columnOf_1 : decode cX1_columnOf 1 = .ok (.istore_n 3, 1) := by decide +kernel
theorem dX1_columnOf_2 : decode cX1_columnOf 2 = .ok (.iload_n 3, 1) := by decide +kernel
theorem dX1_columnOf_3 : decode cX1_columnOf 3 = .ok (.aload_n 0, 1) := by decide +kernel
theorem dX1_columnOf_4 : decode cX1_columnOf 4 = .ok (.getfield 48, 3) := by decide +kernel
theorem dX1_columnOf_7 : decode cX1_columnOf 7 = .ok (.getfield 180, 3) := by decide +kernel
theorem dX1_columnOf_10 : decode cX1_columnOf 10 = .ok (.if_icmp .ge 56, 3) := by decide +kernel
theorem dX1_columnOf_13 : decode cX1_columnOf 13 = .ok (.aload_n 0, 1) := by decide +kernel
theorem dX1_columnOf_14 : decode cX1_columnOf 14 = .ok (.getfield 48, 3) := by decide +kernel
theorem dX1_columnOf_17 : decode cX1_columnOf 17 = .ok (.getfield 123, 3) := by decide +kernel
theorem dX1_columnOf_20 : decode cX1_columnOf 20 = .ok (.iload_n 3, 1) := by decide +kernel
theorem dX1_columnOf_21 : decode cX1_columnOf 21 = .ok (.aaload, 1) := by decide +kernel
theorem dX1_columnOf_22 : decode cX1_columnOf 22 = .ok (.astore 4, 2) := by decide +kernel
theorem dX1_columnOf_24 : decode cX1_columnOf 24 = .ok (.aload 4, 2) := by decide +kernel
theorem dX1_columnOf_26 : decode cX1_columnOf 26 = .ok (.getfield 148, 3) := by decide +kernel
theorem dX1_columnOf_29 : decode cX1_columnOf 29 = .ok (.aload_n 1, 1) := by decide +kernel
theorem dX1_columnOf_30 : decode cX1_columnOf 30 = .ok (.getfield 148, 3) := by decide +kernel
theorem dX1_columnOf_33 : decode cX1_columnOf 33 = .ok (.if_icmp .ne 27, 3) := by decide +kernel
theorem dX1_columnOf_36 : decode cX1_columnOf 36 = .ok (.aload_n 0, 1) := by decide +kernel
theorem dX1_columnOf_37 : decode cX1_columnOf 37 = .ok (.aload 4, 2) := by decide +kernel
theorem dX1_columnOf_39 : decode cX1_columnOf 39 = .ok (.iload_n 2, 1) := by decide +kernel
theorem dX1_columnOf_40 : decode cX1_columnOf 40 = .ok (.invokevirtual 167, 3) := by decide +kernel
theorem dX1_columnOf_43 : decode cX1_columnOf 43 = .ok (.ifCond .eq 17, 3) := by decide +kernel
theorem dX1_columnOf_46 : decode cX1_columnOf 46 = .ok (.aload 4, 2) := by decide +kernel
theorem dX1_columnOf_48 : decode cX1_columnOf 48 = .ok (.aload_n 0, 1) := by decide +kernel
theorem dX1_columnOf_49 : decode cX1_columnOf 49 = .ok (.iload_n 3, 1) := by decide +kernel
theorem dX1_columnOf_50 : decode cX1_columnOf 50 = .ok (.iload_n 2, 1) := by decide +kernel
theorem dX1_columnOf_51 : decode cX1_columnOf 51 = .ok (.invokevirtual 181, 3) := by decide +kernel
theorem dX1_columnOf_54 : decode cX1_columnOf 54 = .ok (.invokestatic 184, 3) := by decide +kernel
theorem dX1_columnOf_57 : decode cX1_columnOf 57 = .ok (.putfield 187, 3) := by decide +kernel
theorem dX1_columnOf_60 : decode cX1_columnOf 60 = .ok (.iinc 3 1, 3) := by decide +kernel
theorem dX1_columnOf_63 : decode cX1_columnOf 63 = .ok (.goto (-61), 3) := by decide +kernel
theorem dX1_columnOf_66 : decode cX1_columnOf 66 = .ok (.aload_n 1, 1) := by decide +kernel
theorem dX1_columnOf_67 : decode cX1_columnOf 67 = .ok (.getfield 187, 3) := by decide +kernel
theorem dX1_columnOf_70 : decode cX1_columnOf 70 = .ok (.ireturn, 1) := by decide +kernel
theorem dX1_takenAhead_0 : decode cX1_takenAhead 0 = .ok (.aload_n 0, 1) := by decide +kernel
theorem dX1_takenAhead_1 : decode cX1_takenAhead 1 = .ok (.getfield 48, 3) := by decide +kernel
theorem dX1_takenAhead_4 : decode cX1_takenAhead 4 = .ok (.getfield 123, 3) := by decide +kernel
theorem dX1_takenAhead_7 : decode cX1_takenAhead 7 = .ok (.iload_n 1, 1) := by decide +kernel
theorem dX1_takenAhead_8 : decode cX1_takenAhead 8 = .ok (.aaload, 1) := by decide +kernel
theorem dX1_takenAhead_9 : decode cX1_takenAhead 9 = .ok (.astore_n 3, 1) := by decide +kernel
theorem dX1_takenAhead_10 : decode cX1_takenAhead 10 = .ok (.iconst 0, 1) := by decide +kernel
theorem dX1_takenAhead_11 : decode cX1_takenAhead 11 = .ok (.istore 4, 2) := by decide +kernel
theorem dX1_takenAhead_13 : decode cX1_takenAhead 13 = .ok (.iconst 0, 1) := by decide +kernel
theorem dX1_takenAhead_14 : decode cX1_takenAhead 14 = .ok (.istore 5, 2) := by decide +kernel
theorem dX1_takenAhead_16 : decode cX1_takenAhead 16 = .ok (.iload 5, 2) := by decide +kernel
theorem dX1_takenAhead_18 : decode cX1_takenAhead 18 = .ok (.iload_n 1, 1) := by decide +kernel
theorem dX1_takenAhead_19 : decode cX1_takenAhead 19 = .ok (.if_icmp .ge 83, 3) := by decide +kernel
theorem dX1_takenAhead_22 : decode cX1_takenAhead 22 = .ok (.aload_n 0, 1) := by decide +kernel
theorem dX1_takenAhead_23 : decode cX1_takenAhead 23 = .ok (.getfield 48, 3) := by decide +kernel
theorem dX1_takenAhead_26 : decode cX1_takenAhead 26 = .ok (.getfield 123, 3) := by decide +kernel
theorem dX1_takenAhead_29 : decode cX1_takenAhead 29 = .ok (.iload 5, 2) := by decide +kernel
theorem dX1_takenAhead_31 : decode cX1_takenAhead 31 = .ok (.aaload, 1) := by decide +kernel
theorem dX1_takenAhead_32 : decode cX1_takenAhead 32 = .ok (.astore 6, 2) := by decide +kernel
theorem dX1_takenAhead_34 : decode cX1_takenAhead 34 = .ok (.aload 6, 2) := by decide +kernel
theorem dX1_takenAhead_36 : decode cX1_takenAhead 36 = .ok (.getfield 148, 3) := by decide +kernel
theorem dX1_takenAhead_39 : decode cX1_takenAhead 39 = .ok (.aload_n 3, 1) := by decide +kernel
theorem dX1_takenAhead_40 : decode cX1_takenAhead 40 = .ok (.getfield 148, 3) := by decide +kernel
theorem dX1_takenAhead_43 : decode cX1_takenAhead 43 = .ok (.if_icmp .ne 17, 3) := by decide +kernel
theorem dX1_takenAhead_46 : decode cX1_takenAhead 46 = .ok (.aload_n 0, 1) := by decide +kernel
theorem dX1_takenAhead_47 : decode cX1_takenAhead 47 = .ok (.aload 6, 2) := by decide +kernel
theorem dX1_takenAhead_49 : decode cX1_takenAhead 49 = .ok (.iload_n 2, 1) := by decide +kernel
theorem dX1_takenAhead_50 : decode cX1_takenAhead 50 = .ok (.invokevirtual 167, 3) := by decide +kernel
theorem dX1_takenAhead_53 : decode cX1_takenAhead 53 = .ok (.ifCond .eq 7, 3) := by decide +kernel
theorem dX1_takenAhead_56 : decode cX1_takenAhead 56 = .ok (.iconst 1, 1) := by decide +kernel
theorem dX1_takenAhead_57 : decode cX1_takenAhead 57 = .ok (.goto 4, 3) := by decide +kernel
theorem dX1_takenAhead_60 : decode cX1_takenAhead 60 = .ok (.iconst 0, 1) := by decide +kernel
theorem dX1_takenAhead_61 : decode cX1_takenAhead 61 = .ok (.istore 7, 2) := by decide +kernel
theorem dX1_takenAhead_63 : decode cX1_takenAhead 63 = .ok (.iload 7, 2) := by decide +kernel
theorem dX1_takenAhead_65 : decode cX1_takenAhead 65 = .ok (.ifCond .eq 31, 3) := by decide +kernel
theorem dX1_takenAhead_68 : decode cX1_takenAhead 68 = .ok (.aload_n 0, 1) := by decide +kernel
theorem dX1_takenAhead_69 : decode cX1_takenAhead 69 = .ok (.aload_n 3, 1) := by decide +kernel
theorem dX1_takenAhead_70 : decode cX1_takenAhead 70 = .ok (.iload_n 2, 1) := by decide +kernel
theorem dX1_takenAhead_71 : decode cX1_takenAhead 71 = .ok (.invokevirtual 160, 3) := by decide +kernel
theorem dX1_takenAhead_74 : decode cX1_takenAhead 74 = .ok (.aload_n 0, 1) := by decide +kernel
theorem dX1_takenAhead_75 : decode cX1_takenAhead 75 = .ok (.aload 6, 2) := by decide +kernel
theorem dX1_takenAhead_77 : decode cX1_takenAhead 77 = .ok (.iload_n 2, 1) := by decide +kernel
theorem dX1_takenAhead_78 : decode cX1_takenAhead 78 = .ok (.invokevirtual 164, 3) := by decide +kernel
theorem dX1_takenAhead_81 : decode cX1_takenAhead 81 = .ok (.if_icmp .gt 15, 3) := by decide +kernel
theorem dX1_takenAhead_84 : decode cX1_takenAhead 84 = .ok (.iload 4, 2) := by decide +kernel
theorem dX1_takenAhead_86 : decode cX1_takenAhead 86 = .ok (.iconst 1, 1) := by decide +kernel
theorem dX1_takenAhead_87 : decode cX1_takenAhead 87 = .ok (.aload 6, 2) := by decide +kernel
theorem dX1_takenAhead_89 : decode cX1_takenAhead 89 = .ok (.getfield 187, 3) := by decide +kernel
theorem dX1_takenAhead_92 : decode cX1_takenAhead 92 = .ok (.ishl, 1) := by decide +kernel
theorem dX1_takenAhead_93 : decode cX1_takenAhead 93 = .ok (.ior, 1) := by decide +kernel
theorem dX1_takenAhead_94 : decode cX1_takenAhead 94 = .ok (.istore 4, 2) := by decide +kernel
theorem dX1_takenAhead_96 : decode cX1_takenAhead 96 = .ok (.iinc 5 1, 3) := by decide +kernel
theorem dX1_takenAhead_99 : decode cX1_takenAhead 99 = .ok (.goto (-83), 3) := by decide +kernel
theorem dX1_takenAhead_102 : decode cX1_takenAhead 102 = .ok (.iload 4, 2) := by decide +kernel
theorem dX1_takenAhead_104 : decode cX1_takenAhead 104 = .ok (.ireturn, 1) := by decide +kernel
theorem dX1_leastFree_0 : decode cX1_leastFree 0 = .ok (.iconst 0, 1) := by decide +kernel
theorem dX1_leastFree_1 : decode cX1_leastFree 1 = .ok (.istore_n 1, 1) := by decide +kernel
theorem dX1_leastFree_2 : decode cX1_leastFree 2 = .ok (.iload_n 1, 1) := by decide +kernel
theorem dX1_leastFree_3 : decode cX1_leastFree 3 = .ok (.bipush 24, 2) := by decide +kernel
theorem dX1_leastFree_5 : decode cX1_leastFree 5 = .ok (.if_icmp .ge 17, 3) := by decide +kernel
theorem dX1_leastFree_8 : decode cX1_leastFree 8 = .ok (.iload_n 0, 1) := by decide +kernel
theorem dX1_leastFree_9 : decode cX1_leastFree 9 = .ok (.iload_n 1, 1) := by decide +kernel
theorem dX1_leastFree_10 : decode cX1_leastFree 10 = .ok (.ishr, 1) := by decide +kernel
theorem dX1_leastFree_11 : decode cX1_leastFree 11 = .ok (.iconst 1, 1) := by decide +kernel
theorem dX1_leastFree_12 : decode cX1_leastFree 12 = .ok (.iand, 1) := by decide +kernel
theorem dX1_leastFree_13 : decode cX1_leastFree 13 = .ok (.ifCond .eq 9, 3) := by decide +kernel
theorem dX1_leastFree_16 : decode cX1_leastFree 16 = .ok (.iinc 1 1, 3) := by decide +kernel
theorem dX1_leastFree_19 : decode cX1_leastFree 19 = .ok (.goto (-17), 3) := by decide +kernel
theorem dX1_leastFree_22 : decode cX1_leastFree 22 = .ok (.iload_n 1, 1) := by decide +kernel
theorem dX1_leastFree_23 : decode cX1_leastFree 23 = .ok (.ireturn, 1) := by decide +kernel
theorem dX2_init_0 : decode cX2_init 0 = .ok (.aload_n 0, 1) := by decide +kernel
theorem dX2_init_1 : decode cX2_init 1 = .ok (.invokespecial 3, 3) := by decide +kernel
theorem dX2_init_4 : decode cX2_init 4 = .ok (.aload_n 0, 1) := by decide +kernel
theorem dX2_init_5 : decode cX2_init 5 = .ok (.bipush 24, 2) := by decide +kernel
theorem dX2_init_7 : decode cX2_init 7 = .ok (.anewarray 9, 3) := by decide +kernel
theorem dX2_init_10 : decode cX2_init 10 = .ok (.putfield 11, 3) := by decide +kernel
theorem dX2_init_13 : decode cX2_init 13 = .ok (.aload_n 0, 1) := by decide +kernel
theorem dX2_init_14 : decode cX2_init 14 = .ok (.bipush 24, 2) := by decide +kernel
theorem dX2_init_16 : decode cX2_init 16 = .ok (.newarray .int, 2) := by decide +kernel
theorem dX2_init_18 : decode cX2_init 18 = .ok (.putfield 17, 3) := by decide +kernel
theorem dX2_init_21 : decode cX2_init 21 = .ok (.aload_n 0, 1) := by decide +kernel
theorem dX2_init_22 : decode cX2_init 22 = .ok (.bipush 24, 2) := by decide +kernel
theorem dX2_init_24 : decode cX2_init 24 = .ok (.newarray .int, 2) := by decide +kernel
theorem dX2_init_26 : decode cX2_init 26 = .ok (.putfield 21, 3) := by decide +kernel
theorem dX2_init_29 : decode cX2_init 29 = .ok (.aload_n 0, 1) := by decide +kernel
theorem dX2_init_30 : decode cX2_init 30 = .ok (.bipush 24, 2) := by decide +kernel
theorem dX2_init_32 : decode cX2_init 32 = .ok (.newarray .int, 2) := by decide +kernel
theorem dX2_init_34 : decode cX2_init 34 = .ok (.putfield 24, 3) := by decide +kernel
theorem dX2_init_37 : decode cX2_init 37 = .ok (.aload_n 0, 1) := by decide +kernel
theorem dX2_init_38 : decode cX2_init 38 = .ok (.bipush 24, 2) := by decide +kernel
theorem dX2_init_40 : decode cX2_init 40 = .ok (.newarray .int, 2) := by decide +kernel
theorem dX2_init_42 : decode cX2_init 42 = .ok (.putfield 27, 3) := by decide +kernel
theorem dX2_init_45 : decode cX2_init 45 = .ok (.aload_n 0, 1) := by decide +kernel
theorem dX2_init_46 : decode cX2_init 46 = .ok (.bipush 24, 2) := by decide +kernel
theorem dX2_init_48 : decode cX2_init 48 = .ok (.newarray .int, 2) := by decide +kernel
theorem dX2_init_50 : decode cX2_init 50 = .ok (.putfield 30, 3) := by decide +kernel
theorem dX2_init_53 : decode cX2_init 53 = .ok (.aload_n 0, 1) := by decide +kernel
theorem dX2_init_54 : decode cX2_init 54 = .ok (.aload_n 1, 1) := by decide +kernel
theorem dX2_init_55 : decode cX2_init 55 = .ok (.putfield 33, 3) := by decide +kernel
theorem dX2_init_58 : decode cX2_init 58 = .ok (.aload_n 0, 1) := by decide +kernel
theorem dX2_init_59 : decode cX2_init 59 = .ok (.iload_n 2, 1) := by decide +kernel
theorem dX2_init_60 : decode cX2_init 60 = .ok (.putfield 37, 3) := by decide +kernel
theorem dX2_init_63 : decode cX2_init 63 = .ok (.return_, 1) := by decide +kernel
theorem dX2_clear_0 : decode cX2_clear 0 = .ok (.aload_n 0, 1) := by decide +kernel
theorem dX2_clear_1 : decode cX2_clear 1 = .ok (.iconst 0, 1) := by decide +kernel
theorem dX2_clear_2 : decode cX2_clear 2 = .ok (.putfield 41, 3) := by decide +kernel
theorem dX2_clear_5 : decode cX2_clear 5 = .ok (.aload_n 0, 1) := by decide +kernel
theorem dX2_clear_6 : decode cX2_clear 6 = .ok (.aload_n 0, 1) := by decide +kernel
theorem dX2_clear_7 : decode cX2_clear 7 = .ok (.getfield 44, 3) := by decide +kernel
theorem dX2_clear_10 : decode cX2_clear 10 = .ok (.ifCond .le 18, 3) := by decide +kernel
theorem dX2_clear_13 : decode cX2_clear 13 = .ok (.aload_n 0, 1) := by decide +kernel
theorem dX2_clear_14 : decode cX2_clear 14 = .ok (.getfield 44, 3) := by decide +kernel
theorem dX2_clear_17 : decode cX2_clear 17 = .ok (.aload_n 0, 1) := by decide +kernel
theorem dX2_clear_18 : decode cX2_clear 18 = .ok (.getfield 33, 3) := by decide +kernel
theorem dX2_clear_21 : decode cX2_clear 21 = .ok (.getfield 47, 3) := by decide +kernel
theorem dX2_clear_24 : decode cX2_clear 24 = .ok (.iadd, 1) := by decide +kernel
theorem dX2_clear_25 : decode cX2_clear 25 = .ok (.goto 4, 3) := by decide +kernel
theorem dX2_clear_28 : decode cX2_clear 28 = .ok (.iconst 0, 1) := by decide +kernel
theorem dX2_clear_29 : decode cX2_clear 29 = .ok (.putfield 52, 3) := by decide +kernel
theorem dX2_clear_32 : decode cX2_clear 32 = .ok (.return_, 1) := by decide +kernel
theorem dX2_add_0 : decode cX2_add 0 = .ok (.aload_n 0, 1) := by decide +kernel
theorem dX2_add_1 : decode cX2_add 1 = .ok (.getfield 41, 3) := by decide +kernel
theorem dX2_add_4 : decode cX2_add 4 = .ok (.aload_n 0, 1) := by decide +kernel
theorem dX2_add_5 : decode cX2_add 5 = .ok (.getfield 11, 3) := by decide +kernel
theorem dX2_add_8 : decode cX2_add 8 = .ok (.arraylength, 1) := by decide +kernel
theorem dX2_add_9 : decode cX2_add 9 = .ok (.if_icmp .lt 4, 3) := by decide +kernel
theorem dX2_add_12 : decode cX2_add 12 = .ok (.return_, 1) := by decide +kernel
theorem dX2_add_13 : decode cX2_add 13 = .ok (.aload_n 0, 1) := by decide +kernel
theorem dX2_add_14 : decode cX2_add 14 = .ok (.getfield 11, 3) := by decide +kernel
theorem dX2_add_17 : decode cX2_add 17 = .ok (.aload_n 0, 1) := by decide +kernel
theorem dX2_add_18 : decode cX2_add 18 = .ok (.getfield 41, 3) := by decide +kernel
theorem dX2_add_21 : decode cX2_add 21 = .ok (.aload_n 1, 1) := by decide +kernel
theorem dX2_add_22 : decode cX2_add 22 = .ok (.aastore, 1) := by decide +kernel
theorem dX2_add_23 : decode cX2_add 23 = .ok (.aload_n 0, 1) := by decide +kernel
theorem dX2_add_24 : decode cX2_add 24 = .ok (.getfield 17, 3) := by decide +kernel
theorem dX2_add_27 : decode cX2_add 27 = .ok (.aload_n 0, 1) := by decide +kernel
theorem dX2_add_28 : decode cX2_add 28 = .ok (.getfield 41, 3) := by decide +kernel
theorem dX2_add_31 : decode cX2_add 31 = .ok (.aload_n 0, 1) := by decide +kernel
theorem dX2_add_32 : decode cX2_add 32 = .ok (.getfield 52, 3) := by decide +kernel
theorem dX2_add_35 : decode cX2_add 35 = .ok (.iastore, 1) := by decide +kernel
theorem dX2_add_36 : decode cX2_add 36 = .ok (.aload_n 0, 1) := by decide +kernel
theorem dX2_add_37 : decode cX2_add 37 = .ok (.dup, 1) := by decide +kernel
theorem dX2_add_38 : decode cX2_add 38 = .ok (.getfield 52, 3) := by decide +kernel
theorem dX2_add_41 : decode cX2_add 41 = .ok (.aload_n 1, 1) := by decide +kernel
theorem dX2_add_42 : decode cX2_add 42 = .ok (.getfield 55, 3) := by decide +kernel
theorem dX2_add_45 : decode cX2_add 45 = .ok (.aload_n 0, 1) := by decide +kernel
theorem dX2_add_46 : decode cX2_add 46 = .ok (.getfield 33, 3) := by decide +kernel
theorem dX2_add_49 : decode cX2_add 49 = .ok (.getfield 47, 3) := by decide +kernel
theorem dX2_add_52 : decode cX2_add 52 = .ok (.iadd, 1) := by decide +kernel
theorem dX2_add_53 : decode cX2_add 53 = .ok (.iadd, 1) := by decide +kernel
theorem dX2_add_54 : decode cX2_add 54 = .ok (.putfield 52, 3) := by decide +kernel
theorem dX2_add_57 : decode cX2_add 57 = .ok (.aload_n 0, 1) := by decide +kernel
theorem dX2_add_58 : decode cX2_add 58 = .ok (.dup, 1) := by decide +kernel
theorem dX2_add_59 : decode cX2_add 59 = .ok (.getfield 41, 3) := by decide +kernel
theorem dX2_add_62 : decode cX2_add 62 = .ok (.iconst 1, 1) := by decide +kernel
theorem dX2_add_63 : decode cX2_add 63 = .ok (.iadd, 1) := by decide +kernel
theorem dX2_add_64 : decode cX2_add 64 = .ok (.putfield 41, 3) := by decide +kernel
theorem dX2_add_67 : decode cX2_add 67 = .ok (.return_, 1) := by decide +kernel
theorem dX2_fits_0 : decode cX2_fits 0 = .ok (.aload_n 0, 1) := by decide +kernel
theorem dX2_fits_1 : decode cX2_fits 1 = .ok (.getfield 41, 3) := by decide +kernel
theorem dX2_fits_4 : decode cX2_fits 4 = .ok (.ifCond .ne 5, 3) := by decide +kernel
theorem dX2_fits_7 : decode cX2_fits 7 = .ok (.iconst 1, 1) := by decide +kernel
theorem dX2_fits_8 : decode cX2_fits 8 = .ok (.ireturn, 1) := by decide +kernel
theorem dX2_fits_9 : decode cX2_fits 9 = .ok (.iconst 0, 1) := by decide +kernel
theorem dX2_fits_10 : decode cX2_fits 10 = .ok (.istore_n 1, 1) := by decide +kernel
theorem dX2_fits_11 : decode cX2_fits 11 = .ok (.iconst 0, 1) := by decide +kernel
theorem dX2_fits_12 : decode cX2_fits 12 = .ok (.istore_n 2, 1) := by decide +kernel
theorem dX2_fits_13 : decode cX2_fits 13 = .ok (.iload_n 2, 1) := by decide +kernel
theorem dX2_fits_14 : decode cX2_fits 14 = .ok (.aload_n 0, 1) := by decide +kernel
theorem dX2_fits_15 : decode cX2_fits 15 = .ok (.getfield 41, 3) := by decide +kernel
theorem dX2_fits_18 : decode cX2_fits 18 = .ok (.if_icmp .ge 47, 3) := by decide +kernel
theorem dX2_fits_21 : decode cX2_fits 21 = .ok (.aload_n 0, 1) := by decide +kernel
theorem dX2_fits_22 : decode cX2_fits 22 = .ok (.getfield 11, 3) := by decide +kernel
theorem dX2_fits_25 : decode cX2_fits 25 = .ok (.iload_n 2, 1) := by decide +kernel
theorem dX2_fits_26 : decode cX2_fits 26 = .ok (.aaload, 1) := by decide +kernel
theorem dX2_fits_27 : decode cX2_fits 27 = .ok (.invokevirtual 58, 3) := by decide +kernel
theorem dX2_fits_30 : decode cX2_fits 30 = .ok (.ifCond .eq 29, 3) := by decide +kernel
theorem dX2_fits_33 : decode cX2_fits 33 = .ok (.aload_n 0, 1) := by decide +kernel
theorem dX2_fits_34 : decode cX2_fits 34 = .ok (.getfield 11, 3) := by decide +kernel
theorem dX2_fits_37 : decode cX2_fits 37 = .ok (.iload_n 2, 1) := by decide +kernel
theorem dX2_fits_38 : decode cX2_fits 38 = .ok (.aaload, 1) := by decide +kernel
theorem dX2_fits_39 : decode cX2_fits 39 = .ok (.getfield 62, 3) := by decide +kernel
theorem dX2_fits_42 : decode cX2_fits 42 = .ok (.aload_n 0, 1) := by decide +kernel
theorem dX2_fits_43 : decode cX2_fits 43 = .ok (.getfield 17, 3) := by decide +kernel
theorem dX2_fits_46 : decode cX2_fits 46 = .ok (.iload_n 2, 1) := by decide +kernel
theorem dX2_fits_47 : decode cX2_fits 47 = .ok (.iaload, 1) := by decide +kernel
theorem dX2_fits_48 : decode cX2_fits 48 = .ok (.isub, 1) := by decide +kernel
theorem dX2_fits_49 : decode cX2_fits 49 = .ok (.istore_n 3, 1) := by decide +kernel
theorem dX2_fits_50 : decode cX2_fits 50 = .ok (.iload_n 3, 1) := by decide +kernel
theorem dX2_fits_51 : decode cX2_fits 51 = .ok (.iload_n 1, 1) := by decide +kernel
theorem dX2_fits_52 : decode cX2_fits 52 = .ok (.if_icmp .ge 5, 3) := by decide +kernel
theorem dX2_fits_55 : decode cX2_fits 55 = .ok (.iconst 0, 1) := by decide +kernel
theorem dX2_fits_56 : decode cX2_fits 56 = .ok (.ireturn, 1) := by decide +kernel
theorem dX2_fits_57 : decode cX2_fits 57 = .ok (.iload_n 3, 1) := by decide +kernel
theorem dX2_fits_58 : decode cX2_fits 58 = .ok (.istore_n 1, 1) := by decide +kernel
theorem dX2_fits_59 : decode cX2_fits 59 = .ok (.iinc 2 1, 3) := by decide +kernel
theorem dX2_fits_62 : decode cX2_fits 62 = .ok (.goto (-49), 3) := by decide +kernel
theorem dX2_fits_65 : decode cX2_fits 65 = .ok (.aload_n 0, 1) := by decide +kernel
theorem dX2_fits_66 : decode cX2_fits 66 = .ok (.getfield 33, 3) := by decide +kernel
theorem dX2_fits_69 : decode cX2_fits 69 = .ok (.getfield 65, 3) := by decide +kernel
theorem dX2_fits_72 : decode cX2_fits 72 = .ok (.aload_n 0, 1) := by decide +kernel
theorem dX2_fits_73 : decode cX2_fits 73 = .ok (.getfield 17, 3) := by decide +kernel
theorem dX2_fits_76 : decode cX2_fits 76 = .ok (.aload_n 0, 1) := by decide +kernel
theorem dX2_fits_77 : decode cX2_fits 77 = .ok (.getfield 41, 3) := by decide +kernel
theorem dX2_fits_80 : decode cX2_fits 80 = .ok (.iconst 1, 1) := by decide +kernel
theorem dX2_fits_81 : decode cX2_fits 81 = .ok (.isub, 1) := by decide +kernel
theorem dX2_fits_82 : decode cX2_fits 82 = .ok (.iaload, 1) := by decide +kernel
theorem dX2_fits_83 : decode cX2_fits 83 = .ok (.isub, 1) := by decide +kernel
theorem dX2_fits_84 : decode cX2_fits 84 = .ok (.iload_n 1, 1) := by decide +kernel
theorem dX2_fits_85 : decode cX2_fits 85 = .ok (.isub, 1) := by decide +kernel
theorem dX2_fits_86 : decode cX2_fits 86 = .ok (.istore_n 2, 1) := by decide +kernel
theorem dX2_fits_87 : decode cX2_fits 87 = .ok (.aload_n 0, 1) := by decide +kernel
theorem dX2_fits_88 : decode cX2_fits 88 = .ok (.getfield 11, 3) := by decide +kernel
theorem dX2_fits_91 : decode cX2_fits 91 = .ok (.aload_n 0, 1) := by decide +kernel
theorem dX2_fits_92 : decode cX2_fits 92 = .ok (.getfield 41, 3) := by decide +kernel
theorem dX2_fits_95 : decode cX2_fits 95 = .ok (.iconst 1, 1) := by decide +kernel
theorem dX2_fits_96 : decode cX2_fits 96 = .ok (.isub, 1) := by decide +kernel
theorem dX2_fits_97 : decode cX2_fits 97 = .ok (.aaload, 1) := by decide +kernel
theorem dX2_fits_98 : decode cX2_fits 98 = .ok (.getfield 55, 3) := by decide +kernel
theorem dX2_fits_101 : decode cX2_fits 101 = .ok (.iload_n 2, 1) := by decide +kernel
theorem dX2_fits_102 : decode cX2_fits 102 = .ok (.if_icmp .le 22, 3) := by decide +kernel
theorem dX2_fits_105 : decode cX2_fits 105 = .ok (.aload_n 0, 1) := by decide +kernel
theorem dX2_fits_106 : decode cX2_fits 106 = .ok (.aload_n 0, 1) := by decide +kernel
theorem dX2_fits_107 : decode cX2_fits 107 = .ok (.getfield 11, 3) := by decide +kernel
theorem dX2_fits_110 : decode cX2_fits 110 = .ok (.aload_n 0, 1) := by decide +kernel
theorem dX2_fits_111 : decode cX2_fits 111 = .ok (.getfield 41, 3) := by decide +kernel
theorem dX2_fits_114 : decode cX2_fits 114 = .ok (.iconst 1, 1) := by decide +kernel
theorem dX2_fits_115 : decode cX2_fits 115 = .ok (.isub, 1) := by decide +kernel
theorem dX2_fits_116 : decode cX2_fits 116 = .ok (.aaload, 1) := by decide +kernel
theorem dX2_fits_117 : decode cX2_fits 117 = .ok (.iload_n 2, 1) := by decide +kernel
theorem dX2_fits_118 : decode cX2_fits 118 = .ok (.invokevirtual 68, 3) := by decide +kernel
theorem dX2_fits_121 : decode cX2_fits 121 = .ok (.ifCond .eq 7, 3) := by decide +kernel
theorem dX2_fits_124 : decode cX2_fits 124 = .ok (.iconst 1, 1) := by decide +kernel
theorem dX2_fits_125 : decode cX2_fits 125 = .ok (.goto 4, 3) := by decide +kernel
theorem dX2_fits_128 : decode cX2_fits 128 = .ok (.iconst 0, 1) := by decide +kernel
theorem dX2_fits_129 : decode cX2_fits 129 = .ok (.ireturn, 1) := by decide +kernel
theorem dX2_fitsCut_0 : decode cX2_fitsCut 0 = .ok (.iconst 0, 1) := by decide +kernel
theorem dX2_fitsCut_1 : decode cX2_fitsCut 1 = .ok (.istore_n 3, 1) := by decide +kernel
theorem dX2_fitsCut_2 : decode cX2_fitsCut 2 = .ok (.iload_n 3, 1) := by decide +kernel
theorem dX2_fitsCut_3 : decode cX2_fitsCut 3 = .ok (.aload_n 1, 1) := by decide +kernel
theorem dX2_fitsCut_4 : decode cX2_fitsCut 4 = .ok (.getfield 72, 3) := by decide +kernel
theorem dX2_fitsCut_7 : decode cX2_fitsCut 7 = .ok (.if_icmp .ge 41, 3) := by decide +kernel
theorem dX2_fitsCut_10 : decode cX2_fitsCut 10 = .ok (.aload_n 1, 1) := by decide +kernel
theorem dX2_fitsCut_11 : decode cX2_fitsCut 11 = .ok (.getfield 75, 3) := by decide +kernel
theorem dX2_fitsCut_14 : decode cX2_fitsCut 14 = .ok (.iload_n 3, 1) := by decide +kernel
theorem dX2_fitsCut_15 : decode cX2_fitsCut 15 = .ok (.iaload, 1) := by decide +kernel
theorem dX2_fitsCut_16 : decode cX2_fitsCut 16 = .ok (.iload_n 2, 1) := by decide +kernel
theorem dX2_fitsCut_17 : decode cX2_fitsCut 17 = .ok (.if_icmp .gt 25, 3) := by decide +kernel
theorem dX2_fitsCut_20 : decode cX2_fitsCut 20 = .ok (.aload_n 1, 1) := by decide +kernel
theorem dX2_fitsCut_21 : decode cX2_fitsCut 21 = .ok (.aload_n 0, 1) := by decide +kernel
theorem dX2_fitsCut_22 : decode cX2_fitsCut 22 = .ok (.getfield 33, 3) := by decide +kernel
theorem dX2_fitsCut_25 : decode cX2_fitsCut 25 = .ok (.getfield 65, 3) := by decide +kernel
theorem dX2_fitsCut_28 : decode cX2_fitsCut 28 = .ok (.aload_n 1, 1) := by decide +kernel
theorem dX2_fitsCut_29 : decode cX2_fitsCut 29 = .ok (.getfield 75, 3) := by decide +kernel
theorem dX2_fitsCut_32 : decode cX2_fitsCut 32 = .ok (.iload_n 3, 1) := by decide +kernel
theorem dX2_fitsCut_33 : decode cX2_fitsCut 33 = .ok (.iaload, 1) := by decide +kernel
theorem dX2_fitsCut_34 : decode cX2_fitsCut 34 = .ok (.invokevirtual 78, 3) := by decide +kernel
theorem dX2_fitsCut_37 : decode cX2_fitsCut 37 = .ok (.ifCond .eq 5, 3) := by decide +kernel
theorem dX2_fitsCut_40 : decode cX2_fitsCut 40 = .ok (.iconst 1, 1) := by decide +kernel
theorem dX2_fitsCut_41 : decode cX2_fitsCut 41 = .ok (.ireturn, 1) := by decide +kernel
theorem dX2_fitsCut_42 : decode cX2_fitsCut 42 = .ok (.iinc 3 1, 3) := by decide +kernel
theorem dX2_fitsCut_45 : decode cX2_fitsCut 45 = .ok (.goto (-43), 3) := by decide +kernel
theorem dX2_fitsCut_48 : decode cX2_fitsCut 48 = .ok (.iconst 0, 1) := by decide +kernel
theorem dX2_fitsCut_49 : decode cX2_fitsCut 49 = .ok (.ireturn, 1) := by decide +kernel
theorem dX2_choose_0 : decode cX2_choose 0 = .ok (.aload_n 0, 1) := by decide +kernel
theorem dX2_choose_1 : decode cX2_choose 1 = .ok (.iconst 0, 1) := by decide +kernel
theorem dX2_choose_2 : decode cX2_choose 2 = .ok (.putfield 82, 3) := by decide +kernel
theorem dX2_choose_5 : decode cX2_choose 5 = .ok (.aload_n 0, 1) := by decide +kernel
theorem dX2_choose_6 : decode cX2_choose 6 = .ok (.getfield 41, 3) := by decide +kernel
theorem dX2_choose_9 : decode cX2_choose 9 = .ok (.ifCond .ne 5, 3) := by decide +kernel
theorem dX2_choose_12 : decode cX2_choose 12 = .ok (.iconst 0, 1) := by decide +kernel
theorem dX2_choose_13 : decode cX2_choose 13 = .ok (.ireturn, 1) := by decide +kernel
theorem dX2_choose_14 : decode cX2_choose 14 = .ok (.aload_n 0, 1) := by decide +kernel
theorem dX2_choose_15 : decode cX2_choose 15 = .ok (.getfield 11, 3) := by decide +kernel
theorem dX2_choose_18 : decode cX2_choose 18 = .ok (.aload_n 0, 1) := by decide +kernel
theorem dX2_choose_19 : decode cX2_choose 19 = .ok (.getfield 41, 3) := by decide +kernel
theorem dX2_choose_22 : decode cX2_choose 22 = .ok (.iconst 1, 1) := by decide +kernel
theorem dX2_choose_23 : decode cX2_choose 23 = .ok (.isub, 1) := by decide +kernel
theorem dX2_choose_24 : decode cX2_choose 24 = .ok (.aaload, 1) := by decide +kernel
theorem dX2_choose_25 : decode cX2_choose 25 = .ok (.astore_n 2, 1) := by decide +kernel
theorem dX2_choose_26 : decode cX2_choose 26 = .ok (.aload_n 0, 1) := by decide +kernel
theorem dX2_choose_27 : decode cX2_choose 27 = .ok (.aload_n 2, 1) := by decide +kernel
theorem dX2_choose_28 : decode cX2_choose 28 = .ok (.getfield 55, 3) := by decide +kernel
theorem dX2_choose_31 : decode cX2_choose 31 = .ok (.iload_n 1, 1) := by decide +kernel
theorem dX2_choose_32 : decode cX2_choose 32 = .ok (.invokevirtual 85, 3) := by decide +kernel
theorem dX2_choose_35 : decode cX2_choose 35 = .ok (.istore_n 3, 1) := by decide +kernel
theorem dX2_choose_36 : decode cX2_choose 36 = .ok (.iconst 0, 1) := by decide +kernel
theorem dX2_choose_37 : decode cX2_choose 37 = .ok (.istore 4, 2) := by decide +kernel
theorem dX2_choose_39 : decode cX2_choose 39 = .ok (.iload 4, 2) := by decide +kernel
theorem dX2_choose_41 : decode cX2_choose 41 = .ok (.aload_n 2, 1) := by decide +kernel
theorem dX2_choose_42 : decode cX2_choose 42 = .ok (.getfield 72, 3) := by decide +kernel
theorem dX2_choose_45 : decode cX2_choose 45 = .ok (.if_icmp .ge 85, 3) := by decide +kernel
theorem dX2_choose_48 : decode cX2_choose 48 = .ok (.aload_n 2, 1) := by decide +kernel
theorem dX2_choose_49 : decode cX2_choose 49 = .ok (.getfield 75, 3) := by decide +kernel
theorem dX2_choose_52 : decode cX2_choose 52 = .ok (.iload 4, 2) := by decide +kernel
theorem dX2_choose_54 : decode cX2_choose 54 = .ok (.iaload, 1) := by decide +kernel
theorem dX2_choose_55 : decode cX2_choose 55 = .ok (.istore 5, 2) := by decide +kernel
theorem dX2_choose_57 : decode cX2_choose 57 = .ok (.iload_n 3, 1) := by decide +kernel
theorem dX2_choose_58 : decode cX2_choose 58 = .ok (.aload_n 0, 1) := by decide +kernel
theorem dX2_choose_59 : decode cX2_choose 59 = .ok (.getfield 33, 3) := by decide +kernel
theorem dX2_choose_62 : decode cX2_choose 62 = .ok (.getfield 89, 3) := by decide +kernel
theorem dX2_choose_65 : decode cX2_choose 65 = .ok (.if_icmp .le 59, 3) := by decide +kernel
theorem dX2_choose_68 : decode cX2_choose 68 = .ok (.aload_n 2, 1) := by decide +kernel
theorem dX2_choose_69 : decode cX2_choose 69 = .ok (.aload_n 0, 1) := by decide +kernel
theorem dX2_choose_70 : decode cX2_choose 70 = .ok (.getfield 33, 3) := by decide +kernel
theorem dX2_choose_73 : decode cX2_choose 73 = .ok (.getfield 65, 3) := by decide +kernel
theorem dX2_choose_76 : decode cX2_choose 76 = .ok (.iload 5, 2) := by decide +kernel
theorem dX2_choose_78 : decode cX2_choose 78 = .ok (.invokevirtual 78, 3) := by decide +kernel
theorem dX2_choose_81 : decode cX2_choose 81 = .ok (.ifCond .eq 43, 3) := by decide +kernel
theorem dX2_choose_84 : decode cX2_choose 84 = .ok (.aload_n 0, 1) := by decide +kernel
theorem dX2_choose_85 : decode cX2_choose 85 = .ok (.getfield 33, 3) := by decide +kernel
theorem dX2_choose_88 : decode cX2_choose 88 = .ok (.getfield 89, 3) := by decide +kernel
theorem dX2_choose_91 : decode cX2_choose 91 = .ok (.aload_n 0, 1) := by decide +kernel
theorem dX2_choose_92 : decode cX2_choose 92 = .ok (.iload 5, 2) := by decide +kernel
theorem dX2_choose_94 : decode cX2_choose 94 = .ok (.iload_n 3, 1) := by decide +kernel
theorem dX2_choose_95 : decode cX2_choose 95 = .ok (.aload_n 0, 1) := by decide +kernel
theorem dX2_choose_96 : decode cX2_choose 96 = .ok (.getfield 33, 3) := by decide +kernel
theorem dX2_choose_99 : decode cX2_choose 99 = .ok (.getfield 89, 3) := by decide +kernel
theorem dX2_choose_102 : decode cX2_choose 102 = .ok (.isub, 1) := by decide +kernel
theorem dX2_choose_103 : decode cX2_choose 103 = .ok (.invokevirtual 85, 3) := by decide +kernel
theorem dX2_choose_106 : decode cX2_choose 106 = .ok (.iadd, 1) := by decide +kernel
theorem dX2_choose_107 : decode cX2_choose 107 = .ok (.istore 6, 2) := by decide +kernel
theorem dX2_choose_109 : decode cX2_choose 109 = .ok (.iload 6, 2) := by decide +kernel
theorem dX2_choose_111 : decode cX2_choose 111 = .ok (.iload_n 3, 1) := by decide +kernel
theorem dX2_choose_112 : decode cX2_choose 112 = .ok (.if_icmp .ge 12, 3) := by decide +kernel
theorem dX2_choose_115 : decode cX2_choose 115 = .ok (.iload 6, 2) := by decide +kernel
theorem dX2_choose_117 : decode cX2_choose 117 = .ok (.istore_n 3, 1) := by decide +kernel
theorem dX2_choose_118 : decode cX2_choose 118 = .ok (.aload_n 0, 1) := by decide +kernel
theorem dX2_choose_119 : decode cX2_choose 119 = .ok (.iload 5, 2) := by decide +kernel
theorem dX2_choose_121 : decode cX2_choose 121 = .ok (.putfield 82, 3) := by decide +kernel
theorem dX2_choose_124 : decode cX2_choose 124 = .ok (.iinc 4 1, 3) := by decide +kernel
theorem dX2_choose_127 : decode cX2_choose 127 = .ok (.goto (-88), 3) := by decide +kernel
theorem dX2_choose_130 : decode cX2_choose 130 = .ok (.iload_n 3, 1) := by decide +kernel
theorem dX2_choose_131 : decode cX2_choose 131 = .ok (.ireturn, 1) := by decide +kernel
theorem dX2_stand_0 : decode cX2_stand 0 = .ok (.aload_n 0, 1) := by decide +kernel
theorem dX2_stand_1 : decode cX2_stand 1 = .ok (.iconst 0, 1) := by decide +kernel
theorem dX2_stand_2 : decode cX2_stand 2 = .ok (.putfield 44, 3) := by decide +kernel
theorem dX2_stand_5 : decode cX2_stand 5 = .ok (.aload_n 0, 1) := by decide +kernel
theorem dX2_stand_6 : decode cX2_stand 6 = .ok (.getfield 41, 3) := by decide +kernel
theorem dX2_stand_9 : decode cX2_stand 9 = .ok (.ifCond .ne 4, 3) := by decide +kernel
theorem dX2_stand_12 : decode cX2_stand 12 = .ok (.return_, 1) := by decide +kernel
theorem dX2_stand_13 : decode cX2_stand 13 = .ok (.aload_n 0, 1) := by decide +kernel
theorem dX2_stand_14 : decode cX2_stand 14 = .ok (.getfield 11, 3) := by decide +kernel
theorem dX2_stand_17 : decode cX2_stand 17 = .ok (.aload_n 0, 1) := by decide +kernel
theorem dX2_stand_18 : decode cX2_stand 18 = .ok (.getfield 41, 3) := by decide +kernel
theorem dX2_stand_21 : decode cX2_stand 21 = .ok (.iconst 1, 1) := by decide +kernel
theorem dX2_stand_22 : decode cX2_stand 22 = .ok (.isub, 1) := by decide +kernel
theorem dX2_stand_23 : decode cX2_stand 23 = .ok (.aaload, 1) := by decide +kernel
theorem dX2_stand_24 : decode cX2_stand 24 = .ok (.astore_n 2, 1) := by decide +kernel
theorem dX2_stand_25 : decode cX2_stand 25 = .ok (.aload_n 0, 1) := by decide +kernel
theorem dX2_stand_26 : decode cX2_stand 26 = .ok (.iload_n 1, 1) := by decide +kernel
theorem dX2_stand_27 : decode cX2_stand 27 = .ok (.ifCond .le 7, 3) := by decide +kernel
theorem dX2_stand_30 : decode cX2_stand 30 = .ok (.iload_n 1, 1) := by decide +kernel
theorem dX2_stand_31 : decode cX2_stand 31 = .ok (.goto 7, 3) := by decide +kernel
theorem dX2_stand_34 : decode cX2_stand 34 = .ok (.aload_n 2, 1) := by decide +kernel
theorem dX2_stand_35 : decode cX2_stand 35 = .ok (.getfield 55, 3) := by decide +kernel
theorem dX2_stand_38 : decode cX2_stand 38 = .ok (.ldc 92, 2) := by decide +kernel
theorem dX2_stand_40 : decode cX2_stand 40 = .ok (.invokevirtual 85, 3) := by decide +kernel
theorem dX2_stand_43 : decode cX2_stand 43 = .ok (.pop, 1) := by decide +kernel
theorem dX2_stand_44 : decode cX2_stand 44 = .ok (.aload_n 0, 1) := by decide +kernel
theorem dX2_stand_45 : decode cX2_stand 45 = .ok (.getfield 24, 3) := by decide +kernel
theorem dX2_stand_48 : decode cX2_stand 48 = .ok (.aload_n 0, 1) := by decide +kernel
theorem dX2_stand_49 : decode cX2_stand 49 = .ok (.getfield 41, 3) := by decide +kernel
theorem dX2_stand_52 : decode cX2_stand 52 = .ok (.iconst 1, 1) := by decide +kernel
theorem dX2_stand_53 : decode cX2_stand 53 = .ok (.isub, 1) := by decide +kernel
theorem dX2_stand_54 : decode cX2_stand 54 = .ok (.iaload, 1) := by decide +kernel
theorem dX2_stand_55 : decode cX2_stand 55 = .ok (.istore_n 3, 1) := by decide +kernel
theorem dX2_stand_56 : decode cX2_stand 56 = .ok (.aload_n 0, 1) := by decide +kernel
theorem dX2_stand_57 : decode cX2_stand 57 = .ok (.getfield 41, 3) := by decide +kernel
theorem dX2_stand_60 : decode cX2_stand 60 = .ok (.iconst 1, 1) := by decide +kernel
theorem dX2_stand_61 : decode cX2_stand 61 = .ok (.isub, 1) := by decide +kernel
theorem dX2_stand_62 : decode cX2_stand 62 = .ok (.istore 4, 2) := by decide +kernel
theorem dX2_stand_64 : decode cX2_stand 64 = .ok (.iload 4, 2) := by decide +kernel
theorem dX2_stand_66 : decode cX2_stand 66 = .ok (.ifCond .lt 65, 3) := by decide +kernel
theorem dX2_stand_69 : decode cX2_stand 69 = .ok (.iload_n 3, 1) := by decide +kernel
theorem dX2_stand_70 : decode cX2_stand 70 = .ok (.aload_n 0, 1) := by decide +kernel
theorem dX2_stand_71 : decode cX2_stand 71 = .ok (.getfield 24, 3) := by decide +kernel
theorem dX2_stand_74 : decode cX2_stand 74 = .ok (.iload 4, 2) := by decide +kernel
theorem dX2_stand_76 : decode cX2_stand 76 = .ok (.iaload, 1) := by decide +kernel
theorem dX2_stand_77 : decode cX2_stand 77 = .ok (.invokestatic 93, 3) := by decide +kernel
theorem dX2_stand_80 : decode cX2_stand 80 = .ok (.istore_n 3, 1) := by decide +kernel
theorem dX2_stand_81 : decode cX2_stand 81 = .ok (.aload_n 0, 1) := by decide +kernel
theorem dX2_stand_82 : decode cX2_stand 82 = .ok (.getfield 11, 3) := by decide +kernel
theorem dX2_stand_85 : decode cX2_stand 85 = .ok (.iload 4, 2) := by decide +kernel
theorem dX2_stand_87 : decode cX2_stand 87 = .ok (.aaload, 1) := by decide +kernel
theorem dX2_stand_88 : decode cX2_stand 88 = .ok (.aload_n 0, 1) := by decide +kernel
theorem dX2_stand_89 : decode cX2_stand 89 = .ok (.getfield 37, 3) := by decide +kernel
theorem dX2_stand_92 : decode cX2_stand 92 = .ok (.putfield 98, 3) := by decide +kernel
theorem dX2_stand_95 : decode cX2_stand 95 = .ok (.aload_n 0, 1) := by decide +kernel
theorem dX2_stand_96 : decode cX2_stand 96 = .ok (.getfield 11, 3) := by decide +kernel
theorem dX2_stand_99 : decode cX2_stand 99 = .ok (.iload 4, 2) := by decide +kernel
theorem dX2_stand_101 : decode cX2_stand 101 = .ok (.aaload, 1) := by decide +kernel
theorem dX2_stand_102 : decode cX2_stand 102 = .ok (.iload_n 3, 1) := by decide +kernel
theorem dX2_stand_103 : decode cX2_stand 103 = .ok (.aload_n 0, 1) := by decide +kernel
theorem dX2_stand_104 : decode cX2_stand 104 = .ok (.getfield 17, 3) := by decide +kernel
theorem dX2_stand_107 : decode cX2_stand 107 = .ok (.iload 4, 2) := by decide +kernel
theorem dX2_stand_109 : decode cX2_stand 109 = .ok (.iaload, 1) := by decide +kernel
theorem dX2_stand_110 : decode cX2_stand 110 = .ok (.iadd, 1) := by decide +kernel
theorem dX2_stand_111 : decode cX2_stand 111 = .ok (.putfield 101, 3) := by decide +kernel
theorem dX2_stand_114 : decode cX2_stand 114 = .ok (.aload_n 0, 1) := by decide +kernel
theorem dX2_stand_115 : decode cX2_stand 115 = .ok (.getfield 11, 3) := by decide +kernel
theorem dX2_stand_118 : decode cX2_stand 118 = .ok (.iload 4, 2) := by decide +kernel
theorem dX2_stand_120 : decode cX2_stand 120 = .ok (.aaload, 1) := by decide +kernel
theorem dX2_stand_121 : decode cX2_stand 121 = .ok (.iconst 0, 1) := by decide +kernel
theorem dX2_stand_122 : decode cX2_stand 122 = .ok (.putfield 104, 3) := by decide +kernel
theorem dX2_stand_125 : decode cX2_stand 125 = .ok (.iinc 4 (-1), 3) := by decide +kernel
theorem dX2_stand_128 : decode cX2_stand 128 = .ok (.goto (-64), 3) := by decide +kernel
theorem dX2_stand_131 : decode cX2_stand 131 = .ok (.iload_n 1, 1) := by decide +kernel
theorem dX2_stand_132 : decode cX2_stand 132 = .ok (.ifCond .le 21, 3) := by decide +kernel
theorem dX2_stand_135 : decode cX2_stand 135 = .ok (.aload_n 2, 1) := by decide +kernel
theorem dX2_stand_136 : decode cX2_stand 136 = .ok (.aload_n 2, 1) := by decide +kernel
theorem dX2_stand_137 : decode cX2_stand 137 = .ok (.getfield 107, 3) := by decide +kernel
theorem dX2_stand_140 : decode cX2_stand 140 = .ok (.iload_n 1, 1) := by decide +kernel
theorem dX2_stand_141 : decode cX2_stand 141 = .ok (.isub, 1) := by decide +kernel
theorem dX2_stand_142 : decode cX2_stand 142 = .ok (.putfield 104, 3) := by decide +kernel
theorem dX2_stand_145 : decode cX2_stand 145 = .ok (.aload_n 0, 1) := by decide +kernel
theorem dX2_stand_146 : decode cX2_stand 146 = .ok (.aload_n 2, 1) := by decide +kernel
theorem dX2_stand_147 : decode cX2_stand 147 = .ok (.getfield 104, 3) := by decide +kernel
theorem dX2_stand_150 : decode cX2_stand 150 = .ok (.putfield 44, 3) := by decide +kernel
theorem dX2_stand_153 : decode cX2_stand 153 = .ok (.return_, 1) := by decide +kernel
theorem dX2_leastCost_0 : decode cX2_leastCost 0 = .ok (.aload_n 0, 1) := by decide +kernel
theorem dX2_leastCost_1 : decode cX2_leastCost 1 = .ok (.iload_n 1, 1) := by decide +kernel
theorem dX2_leastCost_2 : decode cX2_leastCost 2 = .ok (.invokevirtual 108, 3) := by decide +kernel
theorem dX2_leastCost_5 : decode cX2_leastCost 5 = .ok (.ifCond .ne 5, 3) := by decide +kernel
theorem dX2_leastCost_8 : decode cX2_leastCost 8 = .ok (.iload_n 2, 1) := by decide +kernel
theorem dX2_leastCost_9 : decode cX2_leastCost 9 = .ok (.ireturn, 1) := by decide +kernel
theorem dX2_leastCost_10 : decode cX2_leastCost 10 = .ok (.iconst 0, 1) := by decide +kernel
theorem dX2_leastCost_11 : decode cX2_leastCost 11 = .ok (.istore_n 3, 1) := by decide +kernel
theorem dX2_leastCost_12 : decode cX2_leastCost 12 = .ok (.iconst 0, 1) := by decide +kernel
theorem dX2_leastCost_13 : decode cX2_leastCost 13 = .ok (.istore 4, 2) := by decide +kernel
theorem dX2_leastCost_15 : decode cX2_leastCost 15 = .ok (.aload_n 0, 1) := by decide +kernel
theorem dX2_leastCost_16 : decode cX2_leastCost 16 = .ok (.iconst 0, 1) := by decide +kernel
theorem dX2_leastCost_17 : decode cX2_leastCost 17 = .ok (.putfield 112, 3) := by decide +kernel
theorem dX2_leastCost_20 : decode cX2_leastCost 20 = .ok (.iconst 0, 1) := by decide +kernel
theorem dX2_leastCost_21 : decode cX2_leastCost 21 = .ok (.istore 5, 2) := by decide +kernel
theorem dX2_leastCost_23 : decode cX2_leastCost 23 = .ok (.iload 5, 2) := by decide +kernel
theorem dX2_leastCost_25 : decode cX2_leastCost 25 = .ok (.aload_n 0, 1) := by decide +kernel
theorem dX2_leastCost_26 : decode cX2_leastCost 26 = .ok (.getfield 41, 3) := by decide +kernel
theorem dX2_leastCost_29 : decode cX2_leastCost 29 = .ok (.if_icmp .ge 145, 3) := by decide +kernel
theorem dX2_leastCost_32 : decode cX2_leastCost 32 = .ok (.iload_n 3, 1) := by decide +kernel
theorem dX2_leastCost_33 : decode cX2_leastCost 33 = .ok (.iload_n 2, 1) := by decide +kernel
theorem dX2_leastCost_34 : decode cX2_leastCost 34 = .ok (.if_icmp .ge 140, 3) := by decide +kernel
theorem dX2_leastCost_37 : decode cX2_leastCost 37 = .ok (.aload_n 0, 1) := by decide +kernel
theorem dX2_leastCost_38 : decode cX2_leastCost 38 = .ok (.getfield 11, 3) := by decide +kernel
theorem dX2_leastCost_41 : decode cX2_leastCost 41 = .ok (.iload 5, 2) := by decide +kernel
theorem dX2_leastCost_43 : decode cX2_leastCost 43 = .ok (.aaload, 1) := by decide +kernel
theorem dX2_leastCost_44 : decode cX2_leastCost 44 = .ok (.astore 6, 2) := by decide +kernel
theorem dX2_leastCost_46 : decode cX2_leastCost 46 = .ok (.aload 6, 2) := by decide +kernel
theorem dX2_leastCost_48 : decode cX2_leastCost 48 = .ok (.invokevirtual 58, 3) := by decide +kernel
theorem dX2_leastCost_51 : decode cX2_leastCost 51 = .ok (.ifCond .eq 24, 3) := by decide +kernel
theorem dX2_leastCost_54 : decode cX2_leastCost 54 = .ok (.aload_n 0, 1) := by decide +kernel
theorem dX2_leastCost_55 : decode cX2_leastCost 55 = .ok (.getfield 21, 3) := by decide +kernel
theorem dX2_leastCost_58 : decode cX2_leastCost 58 = .ok (.iload 5, 2) := by decide +kernel
theorem dX2_leastCost_60 : decode cX2_leastCost 60 = .ok (.iaload, 1) := by decide +kernel
theorem dX2_leastCost_61 : decode cX2_leastCost 61 = .ok (.istore 4, 2) := by decide +kernel
theorem dX2_leastCost_63 : decode cX2_leastCost 63 = .ok (.aload_n 0, 1) := by decide +kernel
theorem dX2_leastCost_64 : decode cX2_leastCost 64 = .ok (.getfield 24, 3) := by decide +kernel
theorem dX2_leastCost_67 : decode cX2_leastCost 67 = .ok (.iload 5, 2) := by decide +kernel
theorem dX2_leastCost_69 : decode cX2_leastCost 69 = .ok (.iload 4, 2) := by decide +kernel
theorem dX2_leastCost_71 : decode cX2_leastCost 71 = .ok (.iastore, 1) := by decide +kernel
theorem dX2_leastCost_72 : decode cX2_leastCost 72 = .ok (.goto 96, 3) := by decide +kernel
theorem dX2_leastCost_75 : decode cX2_leastCost 75 = .ok (.aload 6, 2) := by decide +kernel
theorem dX2_leastCost_77 : decode cX2_leastCost 77 = .ok (.getfield 115, 3) := by decide +kernel
theorem dX2_leastCost_80 : decode cX2_leastCost 80 = .ok (.aload_n 0, 1) := by decide +kernel
theorem dX2_leastCost_81 : decode cX2_leastCost 81 = .ok (.getfield 17, 3) := by decide +kernel
theorem dX2_leastCost_84 : decode cX2_leastCost 84 = .ok (.iload 5, 2) := by decide +kernel
theorem dX2_leastCost_86 : decode cX2_leastCost 86 = .ok (.iaload, 1) := by decide +kernel
theorem dX2_leastCost_87 : decode cX2_leastCost 87 = .ok (.isub, 1) := by decide +kernel
theorem dX2_leastCost_88 : decode cX2_leastCost 88 = .ok (.istore 7, 2) := by decide +kernel
theorem dX2_leastCost_90 : decode cX2_leastCost 90 = .ok (.iload 4, 2) := by decide +kernel
theorem dX2_leastCost_92 : decode cX2_leastCost 92 = .ok (.aload_n 0, 1) := by decide +kernel
theorem dX2_leastCost_93 : decode cX2_leastCost 93 = .ok (.getfield 21, 3) := by decide +kernel
theorem dX2_leastCost_96 : decode cX2_leastCost 96 = .ok (.iload 5, 2) := by decide +kernel
theorem dX2_leastCost_98 : decode cX2_leastCost 98 = .ok (.iaload, 1) := by decide +kernel
theorem dX2_leastCost_99 : decode cX2_leastCost 99 = .ok (.iload 7, 2) := by decide +kernel
theorem dX2_leastCost_101 : decode cX2_leastCost 101 = .ok (.invokestatic 93, 3) := by decide +kernel
theorem dX2_leastCost_104 : decode cX2_leastCost 104 = .ok (.invokestatic 118, 3) := by decide +kernel
theorem dX2_leastCost_107 : decode cX2_leastCost 107 = .ok (.istore 8, 2) := by decide +kernel
theorem dX2_leastCost_109 : decode cX2_leastCost 109 = .ok (.iload_n 3, 1) := by decide +kernel
theorem dX2_leastCost_110 : decode cX2_leastCost 110 = .ok (.aload 6, 2) := by decide +kernel
theorem dX2_leastCost_112 : decode cX2_leastCost 112 = .ok (.getfield 121, 3) := by decide +kernel
theorem dX2_leastCost_115 : decode cX2_leastCost 115 = .ok (.iload 7, 2) := by decide +kernel
theorem dX2_leastCost_117 : decode cX2_leastCost 117 = .ok (.iload 8, 2) := by decide +kernel
theorem dX2_leastCost_119 : decode cX2_leastCost 119 = .ok (.isub, 1) := by decide +kernel
theorem dX2_leastCost_120 : decode cX2_leastCost 120 = .ok (.invokestatic 124, 3) := by decide +kernel
theorem dX2_leastCost_123 : decode cX2_leastCost 123 = .ok (.imul, 1) := by decide +kernel
theorem dX2_leastCost_124 : decode cX2_leastCost 124 = .ok (.aload_n 0, 1) := by decide +kernel
theorem dX2_leastCost_125 : decode cX2_leastCost 125 = .ok (.iload 8, 2) := by decide +kernel
theorem dX2_leastCost_127 : decode cX2_leastCost 127 = .ok (.aload 6, 2) := by decide +kernel
theorem dX2_leastCost_129 : decode cX2_leastCost 129 = .ok (.getfield 121, 3) := by decide +kernel
theorem dX2_leastCost_132 : decode cX2_leastCost 132 = .ok (.invokevirtual 128, 3) := by decide +kernel
theorem dX2_leastCost_135 : decode cX2_leastCost 135 = .ok (.iadd, 1) := by decide +kernel
theorem dX2_leastCost_136 : decode cX2_leastCost 136 = .ok (.iadd, 1) := by decide +kernel
theorem dX2_leastCost_137 : decode cX2_leastCost 137 = .ok (.istore_n 3, 1) := by decide +kernel
theorem dX2_leastCost_138 : decode cX2_leastCost 138 = .ok (.aload_n 0, 1) := by decide +kernel
theorem dX2_leastCost_139 : decode cX2_leastCost 139 = .ok (.getfield 24, 3) := by decide +kernel
theorem dX2_leastCost_142 : decode cX2_leastCost 142 = .ok (.iload 5, 2) := by decide +kernel
theorem dX2_leastCost_144 : decode cX2_leastCost 144 = .ok (.aload_n 0, 1) := by decide +kernel
theorem dX2_leastCost_145 : decode cX2_leastCost 145 = .ok (.getfield 112, 3) := by decide +kernel
theorem dX2_leastCost_148 : decode cX2_leastCost 148 = .ok (.ifCond .le 17, 3) := by decide +kernel
theorem dX2_leastCost_151 : decode cX2_leastCost 151 = .ok (.aload_n 0, 1) := by decide +kernel
theorem dX2_leastCost_152 : decode cX2_leastCost 152 = .ok (.getfield 27, 3) := by decide +kernel
theorem dX2_leastCost_155 : decode cX2_leastCost 155 = .ok (.aload_n 0, 1) := by decide +kernel
theorem dX2_leastCost_156 : decode cX2_leastCost 156 = .ok (.getfield 112, 3) := by decide +kernel
theorem dX2_leastCost_159 : decode cX2_leastCost 159 = .ok (.iconst 1, 1) := by decide +kernel
theorem dX2_leastCost_160 : decode cX2_leastCost 160 = .ok (.isub, 1) := by decide +kernel
theorem dX2_leastCost_161 : decode cX2_leastCost 161 = .ok (.iaload, 1) := by decide +kernel
theorem dX2_leastCost_162 : decode cX2_leastCost 162 = .ok (.goto 5, 3) := by decide +kernel
theorem dX2_leastCost_165 : decode cX2_leastCost 165 = .ok (.iload 8, 2) := by decide +kernel
theorem dX2_leastCost_167 : decode cX2_leastCost 167 = .ok (.iastore, 1) := by decide +kernel
theorem dX2_leastCost_168 : decode cX2_leastCost 168 = .ok (.iinc 5 1, 3) := by decide +kernel
theorem dX2_leastCost_171 : decode cX2_leastCost 171 = .ok (.goto (-148), 3) := by decide +kernel
theorem dX2_leastCost_174 : decode cX2_leastCost 174 = .ok (.iload_n 3, 1) := by decide +kernel
theorem dX2_leastCost_175 : decode cX2_leastCost 175 = .ok (.iload_n 2, 1) := by decide +kernel
theorem dX2_leastCost_176 : decode cX2_leastCost 176 = .ok (.invokestatic 93, 3) := by decide +kernel
theorem dX2_leastCost_179 : decode cX2_leastCost 179 = .ok (.ireturn, 1) := by decide +kernel
theorem dX2_hangCeilings_0 : decode cX2_hangCeilings 0 = .ok (.aload_n 0, 1) := by decide +kernel
theorem dX2_hangCeilings_1 : decode cX2_hangCeilings 1 = .ok (.getfield 41, 3) := by decide +kernel
theorem dX2_hangCeilings_4 : decode cX2_hangCeilings 4 = .ok (.ifCond .ne 5, 3) := by decide +kernel
theorem dX2_hangCeilings_7 : decode cX2_hangCeilings 7 = .ok (.iconst 1, 1) := by decide +kernel
theorem dX2_hangCeilings_8 : decode cX2_hangCeilings 8 = .ok (.ireturn, 1) := by decide +kernel
theorem dX2_hangCeilings_9 : decode cX2_hangCeilings 9 = .ok (.aload_n 0, 1) := by decide +kernel
theorem dX2_hangCeilings_10 : decode cX2_hangCeilings 10 = .ok (.getfield 33, 3) := by decide +kernel
theorem dX2_hangCeilings_13 : decode cX2_hangCeilings 13 = .ok (.getfield 65, 3) := by decide +kernel
theorem dX2_hangCeilings_16 : decode cX2_hangCeilings 16 = .ok (.iload_n 1, 1) := by decide +kernel
theorem dX2_hangCeilings_17 : decode cX2_hangCeilings 17 = .ok (.isub, 1) := by decide +kernel
theorem dX2_hangCeilings_18 : decode cX2_hangCeilings 18 = .ok (.aload_n 0, 1) := by decide +kernel
theorem dX2_hangCeilings_19 : decode cX2_hangCeilings 19 = .ok (.getfield 17, 3) := by decide +kernel
theorem dX2_hangCeilings_22 : decode cX2_hangCeilings 22 = .ok (.aload_n 0, 1) := by decide +kernel
theorem dX2_hangCeilings_23 : decode cX2_hangCeilings 23 = .ok (.getfield 41, 3) := by decide +kernel
theorem dX2_hangCeilings_26 : decode cX2_hangCeilings 26 = .ok (.iconst 1, 1) := by decide +kernel
theorem dX2_hangCeilings_27 : decode cX2_hangCeilings 27 = .ok (.isub, 1) := by decide +kernel
theorem dX2_hangCeilings_28 : decode cX2_hangCeilings 28 = .ok (.iaload, 1) := by decide +kernel
theorem dX2_hangCeilings_29 : decode cX2_hangCeilings 29 = .ok (.isub, 1) := by decide +kernel
theorem dX2_hangCeilings_30 : decode cX2_hangCeilings 30 = .ok (.istore_n 2, 1) := by decide +kernel
theorem dX2_hangCeilings_31 : decode cX2_hangCeilings 31 = .ok (.aload_n 0, 1) := by decide +kernel
theorem dX2_hangCeilings_32 : decode cX2_hangCeilings 32 = .ok (.getfield 41, 3) := by decide +kernel
theorem dX2_hangCeilings_35 : decode cX2_hangCeilings 35 = .ok (.iconst 1, 1) := by decide +kernel
theorem dX2_hangCeilings_36 : decode cX2_hangCeilings 36 = .ok (.isub, 1) := by decide +kernel
theorem dX2_hangCeilings_37 : decode cX2_hangCeilings 37 = .ok (.istore_n 3, 1) := by decide +kernel
theorem dX2_hangCeilings_38 : decode cX2_hangCeilings 38 = .ok (.iload_n 3, 1) := by decide +kernel
theorem dX2_hangCeilings_39 : decode cX2_hangCeilings 39 = .ok (.ifCond .lt 57, 3) := by decide +kernel
theorem dX2_hangCeilings_42 : decode cX2_hangCeilings 42 = .ok (.aload_n 0, 1) := by decide +kernel
theorem dX2_hangCeilings_43 : decode cX2_hangCeilings 43 = .ok (.getfield 11, 3) := by decide +kernel
theorem dX2_hangCeilings_46 : decode cX2_hangCeilings 46 = .ok (.iload_n 3, 1) := by decide +kernel
theorem dX2_hangCeilings_47 : decode cX2_hangCeilings 47 = .ok (.aaload, 1) := by decide +kernel
theorem dX2_hangCeilings_48 : decode cX2_hangCeilings 48 = .ok (.invokevirtual 58, 3) := by decide +kernel
theorem dX2_hangCeilings_51 : decode cX2_hangCeilings 51 = .ok (.ifCond .eq 32, 3) := by decide +kernel
theorem dX2_hangCeilings_54 : decode cX2_hangCeilings 54 = .ok (.aload_n 0, 1) := by decide +kernel
theorem dX2_hangCeilings_55 : decode cX2_hangCeilings 55 = .ok (.getfield 11, 3) := by decide +kernel
theorem dX2_hangCeilings_58 : decode cX2_hangCeilings 58 = .ok (.iload_n 3, 1) := by decide +kernel
theorem dX2_hangCeilings_59 : decode cX2_hangCeilings 59 = .ok (.aaload, 1) := by decide +kernel
theorem dX2_hangCeilings_60 : decode cX2_hangCeilings 60 = .ok (.getfield 62, 3) := by decide +kernel
theorem dX2_hangCeilings_63 : decode cX2_hangCeilings 63 = .ok (.aload_n 0, 1) := by decide +kernel
theorem dX2_hangCeilings_64 : decode cX2_hangCeilings 64 = .ok (.getfield 17, 3) := by decide +kernel
theorem dX2_hangCeilings_67 : decode cX2_hangCeilings 67 = .ok (.iload_n 3, 1) := by decide +kernel
theorem dX2_hangCeilings_68 : decode cX2_hangCeilings 68 = .ok (.iaload, 1) := by decide +kernel
theorem dX2_hangCeilings_69 : decode cX2_hangCeilings 69 = .ok (.isub, 1) := by decide +kernel
theorem dX2_hangCeilings_70 : decode cX2_hangCeilings 70 = .ok (.istore 4, 2) := by decide +kernel
theorem dX2_hangCeilings_72 : decode cX2_hangCeilings 72 = .ok (.iload 4, 2) := by decide +kernel
theorem dX2_hangCeilings_74 : decode cX2_hangCeilings 74 = .ok (.iload_n 2, 1) := by decide +kernel
theorem dX2_hangCeilings_75 : decode cX2_hangCeilings 75 = .ok (.if_icmp .le 5, 3) := by decide +kernel
theorem dX2_hangCeilings_78 : decode cX2_hangCeilings 78 = .ok (.iconst 0, 1) := by decide +kernel
theorem dX2_hangCeilings_79 : decode cX2_hangCeilings 79 = .ok (.ireturn, 1) := by decide +kernel
theorem dX2_hangCeilings_80 : decode cX2_hangCeilings 80 = .ok (.iload 4, 2) := by decide +kernel
theorem dX2_hangCeilings_82 : decode cX2_hangCeilings 82 = .ok (.istore_n 2, 1) := by decide +kernel
theorem dX2_hangCeilings_83 : decode cX2_hangCeilings 83 = .ok (.aload_n 0, 1) := by decide +kernel
theorem dX2_hangCeilings_84 : decode cX2_hangCeilings 84 = .ok (.getfield 21, 3) := by decide +kernel
theorem dX2_hangCeilings_87 : decode cX2_hangCeilings 87 = .ok (.iload_n 3, 1) := by decide +kernel
theorem dX2_hangCeilings_88 : decode cX2_hangCeilings 88 = .ok (.iload_n 2, 1) := by decide +kernel
theorem dX2_hangCeilings_89 : decode cX2_hangCeilings 89 = .ok (.iastore, 1) := by decide +kernel
theorem dX2_hangCeilings_90 : decode cX2_hangCeilings 90 = .ok (.iinc 3 (-1), 3) := by decide +kernel
theorem dX2_hangCeilings_93 : decode cX2_hangCeilings 93 = .ok (.goto (-55), 3) := by decide +kernel
theorem dX2_hangCeilings_96 : decode cX2_hangCeilings 96 = .ok (.iload_n 2, 1) := by decide +kernel
theorem dX2_hangCeilings_97 : decode cX2_hangCeilings 97 = .ok (.ifCond .lt 7, 3) := by decide +kernel
theorem dX2_hangCeilings_100 : decode cX2_hangCeilings 100 = .ok (.iconst 1, 1) := by decide +kernel
theorem dX2_hangCeilings_101 : decode cX2_hangCeilings 101 = .ok (.goto 4, 3) := by decide +kernel
theorem dX2_hangCeilings_104 : decode cX2_hangCeilings 104 = .ok (.iconst 0, 1) := by decide +kernel
theorem dX2_hangCeilings_105 : decode cX2_hangCeilings 105 = .ok (.ireturn, 1) := by decide +kernel
theorem dX2_pull_0 : decode cX2_pull 0 = .ok (.aload_n 0, 1) := by decide +kernel
theorem dX2_pull_1 : decode cX2_pull 1 = .ok (.getfield 112, 3) := by decide +kernel
theorem dX2_pull_4 : decode cX2_pull 4 = .ok (.aload_n 0, 1) := by decide +kernel
theorem dX2_pull_5 : decode cX2_pull 5 = .ok (.getfield 27, 3) := by decide +kernel
theorem dX2_pull_8 : decode cX2_pull 8 = .ok (.arraylength, 1) := by decide +kernel
theorem dX2_pull_9 : decode cX2_pull 9 = .ok (.if_icmp .lt 5, 3) := by decide +kernel
theorem dX2_pull_12 : decode cX2_pull 12 = .ok (.iconst 0, 1) := by decide +kernel
theorem dX2_pull_13 : decode cX2_pull 13 = .ok (.ireturn, 1) := by decide +kernel
theorem dX2_pull_14 : decode cX2_pull 14 = .ok (.aload_n 0, 1) := by decide +kernel
theorem dX2_pull_15 : decode cX2_pull 15 = .ok (.getfield 112, 3) := by decide +kernel
theorem dX2_pull_18 : decode cX2_pull 18 = .ok (.istore_n 3, 1) := by decide +kernel
theorem dX2_pull_19 : decode cX2_pull 19 = .ok (.iload_n 3, 1) := by decide +kernel
theorem dX2_pull_20 : decode cX2_pull 20 = .ok (.ifCond .le 49, 3) := by decide +kernel
theorem dX2_pull_23 : decode cX2_pull 23 = .ok (.aload_n 0, 1) := by decide +kernel
theorem dX2_pull_24 : decode cX2_pull 24 = .ok (.getfield 27, 3) := by decide +kernel
theorem dX2_pull_27 : decode cX2_pull 27 = .ok (.iload_n 3, 1) := by decide +kernel
theorem dX2_pull_28 : decode cX2_pull 28 = .ok (.iconst 1, 1) := by decide +kernel
theorem dX2_pull_29 : decode cX2_pull 29 = .ok (.isub, 1) := by decide +kernel
theorem dX2_pull_30 : decode cX2_pull 30 = .ok (.iaload, 1) := by decide +kernel
theorem dX2_pull_31 : decode cX2_pull 31 = .ok (.iload_n 1, 1) := by decide +kernel
theorem dX2_pull_32 : decode cX2_pull 32 = .ok (.if_icmp .le 37, 3) := by decide +kernel
theorem dX2_pull_35 : decode cX2_pull 35 = .ok (.aload_n 0, 1) := by decide +kernel
theorem dX2_pull_36 : decode cX2_pull 36 = .ok (.getfield 27, 3) := by decide +kernel
theorem dX2_pull_39 : decode cX2_pull 39 = .ok (.iload_n 3, 1) := by decide +kernel
theorem dX2_pull_40 : decode cX2_pull 40 = .ok (.aload_n 0, 1) := by decide +kernel
theorem dX2_pull_41 : decode cX2_pull 41 = .ok (.getfield 27, 3) := by decide +kernel
theorem dX2_pull_44 : decode cX2_pull 44 = .ok (.iload_n 3, 1) := by decide +kernel
theorem dX2_pull_45 : decode cX2_pull 45 = .ok (.iconst 1, 1) := by decide +kernel
theorem dX2_pull_46 : decode cX2_pull 46 = .ok (.isub, 1) := by decide +kernel
theorem dX2_pull_47 : decode cX2_pull 47 = .ok (.iaload, 1) := by decide +kernel
theorem dX2_pull_48 : decode cX2_pull 48 = .ok (.iastore, 1) := by decide +kernel
theorem dX2_pull_49 : decode cX2_pull 49 = .ok (.aload_n 0, 1) := by decide +kernel
theorem dX2_pull_50 : decode cX2_pull 50 = .ok (.getfield 30, 3) := by decide +kernel
theorem dX2_pull_53 : decode cX2_pull 53 = .ok (.iload_n 3, 1) := by decide +kernel
theorem dX2_pull_54 : decode cX2_pull 54 = .ok (.aload_n 0, 1) := by decide +kernel
theorem dX2_pull_55 : decode cX2_pull 55 = .ok (.getfield 30, 3) := by decide +kernel
theorem dX2_pull_58 : decode cX2_pull 58 = .ok (.iload_n 3, 1) := by decide +kernel
theorem dX2_pull_59 : decode cX2_pull 59 = .ok (.iconst 1, 1) := by decide +kernel
theorem dX2_pull_60 : decode cX2_pull 60 = .ok (.isub, 1) := by decide +kernel
theorem dX2_pull_61 : decode cX2_pull 61 = .ok (.iaload, 1) := by decide +kernel
theorem dX2_pull_62 : decode cX2_pull 62 = .ok (.iastore, 1) := by decide +kernel
theorem dX2_pull_63 : decode cX2_pull 63 = .ok (.iinc 3 (-1), 3) := by decide +kernel
theorem dX2_pull_66 : decode cX2_pull 66 = .ok (.goto (-47), 3) := by decide +kernel
theorem dX2_pull_69 : decode cX2_pull 69 = .ok (.aload_n 0, 1) := by decide +kernel
theorem dX2_pull_70 : decode cX2_pull 70 = .ok (.getfield 27, 3) := by decide +kernel
theorem dX2_pull_73 : decode cX2_pull 73 = .ok (.iload_n 3, 1) := by decide +kernel
theorem dX2_pull_74 : decode cX2_pull 74 = .ok (.iload_n 1, 1) := by decide +kernel
theorem dX2_pull_75 : decode cX2_pull 75 = .ok (.iastore, 1) := by decide +kernel
theorem dX2_pull_76 : decode cX2_pull 76 = .ok (.aload_n 0, 1) := by decide +kernel
theorem dX2_pull_77 : decode cX2_pull 77 = .ok (.getfield 30, 3) := by decide +kernel
theorem dX2_pull_80 : decode cX2_pull 80 = .ok (.iload_n 3, 1) := by decide +kernel
theorem dX2_pull_81 : decode cX2_pull 81 = .ok (.iconst 2, 1) := by decide +kernel
theorem dX2_pull_82 : decode cX2_pull 82 = .ok (.iload_n 2, 1) := by decide +kernel
theorem dX2_pull_83 : decode cX2_pull 83 = .ok (.imul, 1) := by decide +kernel
theorem dX2_pull_84 : decode cX2_pull 84 = .ok (.iastore, 1) := by decide +kernel
theorem dX2_pull_85 : decode cX2_pull 85 = .ok (.aload_n 0, 1) := by decide +kernel
theorem dX2_pull_86 : decode cX2_pull 86 = .ok (.dup, 1) := by decide +kernel
theorem dX2_pull_87 : decode cX2_pull 87 = .ok (.getfield 112, 3) := by decide +kernel
theorem dX2_pull_90 : decode cX2_pull 90 = .ok (.iconst 1, 1) := by decide +kernel
theorem dX2_pull_91 : decode cX2_pull 91 = .ok (.iadd, 1) := by decide +kernel
theorem dX2_pull_92 : decode cX2_pull 92 = .ok (.putfield 112, 3) := by decide +kernel
theorem dX2_pull_95 : decode cX2_pull 95 = .ok (.iconst 0, 1) := by decide +kernel
theorem dX2_pull_96 : decode cX2_pull 96 = .ok (.istore 4, 2) := by decide +kernel
theorem dX2_pull_98 : decode cX2_pull 98 = .ok (.iload_n 2, 1) := by decide +kernel
theorem dX2_pull_99 : decode cX2_pull 99 = .ok (.istore 5, 2) := by decide +kernel
theorem dX2_pull_101 : decode cX2_pull 101 = .ok (.aload_n 0, 1) := by decide +kernel
theorem dX2_pull_102 : decode cX2_pull 102 = .ok (.getfield 112, 3) := by decide +kernel
theorem dX2_pull_105 : decode cX2_pull 105 = .ok (.iconst 1, 1) := by decide +kernel
theorem dX2_pull_106 : decode cX2_pull 106 = .ok (.isub, 1) := by decide +kernel
theorem dX2_pull_107 : decode cX2_pull 107 = .ok (.istore 6, 2) := by decide +kernel
theorem dX2_pull_109 : decode cX2_pull 109 = .ok (.iload 6, 2) := by decide +kernel
theorem dX2_pull_111 : decode cX2_pull 111 = .ok (.ifCond .lt 80, 3) := by decide +kernel
theorem dX2_pull_114 : decode cX2_pull 114 = .ok (.iload 5, 2) := by decide +kernel
theorem dX2_pull_116 : decode cX2_pull 116 = .ok (.ifCond .le 75, 3) := by decide +kernel
theorem dX2_pull_119 : decode cX2_pull 119 = .ok (.iload 5, 2) := by decide +kernel
theorem dX2_pull_121 : decode cX2_pull 121 = .ok (.aload_n 0, 1) := by decide +kernel
theorem dX2_pull_122 : decode cX2_pull 122 = .ok (.getfield 30, 3) := by decide +kernel
theorem dX2_pull_125 : decode cX2_pull 125 = .ok (.iload 6, 2) := by decide +kernel
theorem dX2_pull_127 : decode cX2_pull 127 = .ok (.iaload, 1) := by decide +kernel
theorem dX2_pull_128 : decode cX2_pull 128 = .ok (.invokestatic 93, 3) := by decide +kernel
theorem dX2_pull_131 : decode cX2_pull 131 = .ok (.istore 7, 2) := by decide +kernel
theorem dX2_pull_133 : decode cX2_pull 133 = .ok (.iload 4, 2) := by decide +kernel
theorem dX2_pull_135 : decode cX2_pull 135 = .ok (.iload 7, 2) := by decide +kernel
theorem dX2_pull_137 : decode cX2_pull 137 = .ok (.aload_n 0, 1) := by decide +kernel
theorem dX2_pull_138 : decode cX2_pull 138 = .ok (.getfield 27, 3) := by decide +kernel
theorem dX2_pull_141 : decode cX2_pull 141 = .ok (.iload 6, 2) := by decide +kernel
theorem dX2_pull_143 : decode cX2_pull 143 = .ok (.iaload, 1) := by decide +kernel
theorem dX2_pull_144 : decode cX2_pull 144 = .ok (.iload_n 1, 1) := by decide +kernel
theorem dX2_pull_145 : decode cX2_pull 145 = .ok (.isub, 1) := by decide +kernel
theorem dX2_pull_146 : decode cX2_pull 146 = .ok (.imul, 1) := by decide +kernel
theorem dX2_pull_147 : decode cX2_pull 147 = .ok (.iadd, 1) := by decide +kernel
theorem dX2_pull_148 : decode cX2_pull 148 = .ok (.istore 4, 2) := by decide +kernel
theorem dX2_pull_150 : decode cX2_pull 150 = .ok (.aload_n 0, 1) := by decide +kernel
theorem dX2_pull_151 : decode cX2_pull 151 = .ok (.getfield 30, 3) := by decide +kernel
theorem dX2_pull_154 : decode cX2_pull 154 = .ok (.iload 6, 2) := by decide +kernel
theorem dX2_pull_156 : decode cX2_pull 156 = .ok (.dup2, 1) := by decide +kernel
theorem dX2_pull_157 : decode cX2_pull 157 = .ok (.iaload, 1) := by decide +kernel
theorem dX2_pull_158 : decode cX2_pull 158 = .ok (.iload 7, 2) := by decide +kernel
theorem dX2_pull_160 : decode cX2_pull 160 = .ok (.isub, 1) := by decide +kernel
theorem dX2_pull_161 : decode cX2_pull 161 = .ok (.iastore, 1) := by decide +kernel
theorem dX2_pull_162 : decode cX2_pull 162 = .ok (.iload 5, 2) := by decide +kernel
theorem dX2_pull_164 : decode cX2_pull 164 = .ok (.iload 7, 2) := by decide +kernel
theorem dX2_pull_166 : decode cX2_pull 166 = .ok (.isub, 1) := by decide +kernel
theorem dX2_pull_167 : decode cX2_pull 167 = .ok (.istore 5, 2) := by decide +kernel
theorem dX2_pull_169 : decode cX2_pull 169 = .ok (.aload_n 0, 1) := by decide +kernel
theorem dX2_pull_170 : decode cX2_pull 170 = .ok (.getfield 30, 3) := by decide +kernel
theorem dX2_pull_173 : decode cX2_pull 173 = .ok (.iload 6, 2) := by decide +kernel
theorem dX2_pull_175 : decode cX2_pull 175 = .ok (.iaload, 1) := by decide +kernel
theorem dX2_pull_176 : decode cX2_pull 176 = .ok (.ifCond .ne 9, 3) := by decide +kernel
theorem dX2_pull_179 : decode cX2_pull 179 = .ok (.aload_n 0, 1) := by decide +kernel
theorem dX2_pull_180 : decode cX2_pull 180 = .ok (.iload 6, 2) := by decide +kernel
theorem dX2_pull_182 : decode cX2_pull 182 = .ok (.putfield 112, 3) := by decide +kernel
theorem dX2_pull_185 : decode cX2_pull 185 = .ok (.iinc 6 (-1), 3) := by decide +kernel
theorem dX2_pull_188 : decode cX2_pull 188 = .ok (.goto (-79), 3) := by decide +kernel
theorem dX2_pull_191 : decode cX2_pull 191 = .ok (.iload 4, 2) := by decide +kernel
theorem dX2_pull_193 : decode cX2_pull 193 = .ok (.ireturn, 1) := by decide +kernel
theorem dX3_init_0 : decode cX3_init 0 = .ok (.aload_n 0, 1) := by decide +kernel
theorem dX3_init_1 : decode cX3_init 1 = .ok (.invokespecial 3, 3) := by decide +kernel
theorem dX3_init_4 : decode cX3_init 4 = .ok (.aload_n 0, 1) := by decide +kernel
theorem dX3_init_5 : decode cX3_init 5 = .ok (.iconst 3, 1) := by decide +kernel
theorem dX3_init_6 : decode cX3_init 6 = .ok (.newarray .int, 2) := by decide +kernel
theorem dX3_init_8 : decode cX3_init 8 = .ok (.putfield 9, 3) := by decide +kernel
theorem dX3_init_11 : decode cX3_init 11 = .ok (.aload_n 0, 1) := by decide +kernel
theorem dX3_init_12 : decode cX3_init 12 = .ok (.iconst (-1), 1) := by decide +kernel
theorem dX3_init_13 : decode cX3_init 13 = .ok (.putfield 15, 3) := by decide +kernel
theorem dX3_init_16 : decode cX3_init 16 = .ok (.aload_n 0, 1) := by decide +kernel
theorem dX3_init_17 : decode cX3_init 17 = .ok (.iconst (-1), 1) := by decide +kernel
theorem dX3_init_18 : decode cX3_init 18 = .ok (.putfield 19, 3) := by decide +kernel
theorem dX3_init_21 : decode cX3_init 21 = .ok (.aload_n 0, 1) := by decide +kernel
theorem dX3_init_22 : decode cX3_init 22 = .ok (.iload_n 1, 1) := by decide +kernel
theorem dX3_init_23 : decode cX3_init 23 = .ok (.putfield 22, 3) := by decide +kernel
theorem dX3_init_26 : decode cX3_init 26 = .ok (.aload_n 0, 1) := by decide +kernel
theorem dX3_init_27 : decode cX3_init 27 = .ok (.iload_n 2, 1) := by decide +kernel
theorem dX3_init_28 : decode cX3_init 28 = .ok (.putfield 25, 3) := by decide +kernel
theorem dX3_init_31 : decode cX3_init 31 = .ok (.aload_n 0, 1) := by decide +kernel
theorem dX3_init_32 : decode cX3_init 32 = .ok (.iload_n 3, 1) := by decide +kernel
theorem dX3_init_33 : decode cX3_init 33 = .ok (.putfield 28, 3) := by decide +kernel
theorem dX3_init_36 : decode cX3_init 36 = .ok (.aload_n 0, 1) := by decide +kernel
theorem dX3_init_37 : decode cX3_init 37 = .ok (.iload 4, 2) := by decide +kernel
theorem dX3_init_39 : decode cX3_init 39 = .ok (.putfield 31, 3) := by decide +kernel
theorem dX3_init_42 : decode cX3_init 42 = .ok (.aload_n 0, 1) := by decide +kernel
theorem dX3_init_43 : decode cX3_init 43 = .ok (.iload 5, 2) := by decide +kernel
theorem dX3_init_45 : decode cX3_init 45 = .ok (.putfield 34, 3) := by decide +kernel
theorem dX3_init_48 : decode cX3_init 48 = .ok (.aload_n 0, 1) := by decide +kernel
theorem dX3_init_49 : decode cX3_init 49 = .ok (.iload_n 2, 1) := by decide +kernel
theorem dX3_init_50 : decode cX3_init 50 = .ok (.putfield 37, 3) := by decide +kernel
theorem dX3_init_53 : decode cX3_init 53 = .ok (.return_, 1) := by decide +kernel
theorem dX3_isFixed_0 : decode cX3_isFixed 0 = .ok (.aload_n 0, 1) := by decide +kernel
theorem dX3_isFixed_1 : decode cX3_isFixed 1 = .ok (.getfield 15, 3) := by decide +kernel
theorem dX3_isFixed_4 : decode cX3_isFixed 4 = .ok (.iconst (-1), 1) := by decide +kernel
theorem dX3_isFixed_5 : decode cX3_isFixed 5 = .ok (.if_icmp .eq 7, 3) := by decide +kernel
theorem dX3_isFixed_8 : decode cX3_isFixed 8 = .ok (.iconst 1, 1) := by decide +kernel
theorem dX3_isFixed_9 : decode cX3_isFixed 9 = .ok (.goto 4, 3) := by decide +kernel
theorem dX3_isFixed_12 : decode cX3_isFixed 12 = .ok (.iconst 0, 1) := by decide +kernel
theorem dX3_isFixed_13 : decode cX3_isFixed 13 = .ok (.ireturn, 1) := by decide +kernel
theorem dX3_leavesAtMost_0 : decode cX3_leavesAtMost 0 = .ok (.aload_n 0, 1) := by decide +kernel
theorem dX3_leavesAtMost_1 : decode cX3_leavesAtMost 1 = .ok (.getfield 15, 3) := by decide +kernel
theorem dX3_leavesAtMost_4 : decode cX3_leavesAtMost 4 = .ok (.iconst (-1), 1) := by decide +kernel
theorem dX3_leavesAtMost_5 : decode cX3_leavesAtMost 5 = .ok (.if_icmp .ne 17, 3) := by decide +kernel
theorem dX3_leavesAtMost_8 : decode cX3_leavesAtMost 8 = .ok (.aload_n 0, 1) := by decide +kernel
theorem dX3_leavesAtMost_9 : decode cX3_leavesAtMost 9 = .ok (.getfield 25, 3) := by decide +kernel
theorem dX3_leavesAtMost_12 : decode cX3_leavesAtMost 12 = .ok (.iload_n 2, 1) := by decide +kernel
theorem dX3_leavesAtMost_13 : decode cX3_leavesAtMost 13 = .ok (.isub, 1) := by decide +kernel
theorem dX3_leavesAtMost_14 : decode cX3_leavesAtMost 14 = .ok (.iload_n 1, 1) := by decide +kernel
theorem dX3_leavesAtMost_15 : decode cX3_leavesAtMost 15 = .ok (.if_icmp .gt 7, 3) := by decide +kernel
theorem dX3_leavesAtMost_18 : decode cX3_leavesAtMost 18 = .ok (.iconst 1, 1) := by decide +kernel
theorem dX3_leavesAtMost_19 : decode cX3_leavesAtMost 19 = .ok (.goto 4, 3) := by decide +kernel
theorem dX3_leavesAtMost_22 : decode cX3_leavesAtMost 22 = .ok (.iconst 0, 1) := by decide +kernel
theorem dX3_leavesAtMost_23 : decode cX3_leavesAtMost 23 = .ok (.ireturn, 1) := by decide +kernel
theorem dX3_hasCut_0 : decode cX3_hasCut 0 = .ok (.iconst 0, 1) := by decide +kernel
theorem dX3_hasCut_1 : decode cX3_hasCut 1 = .ok (.istore_n 2, 1) := by decide +kernel
theorem dX3_hasCut_2 : decode cX3_hasCut 2 = .ok (.iload_n 2, 1) := by decide +kernel
theorem dX3_hasCut_3 : decode cX3_hasCut 3 = .ok (.aload_n 0, 1) := by decide +kernel
theorem dX3_hasCut_4 : decode cX3_hasCut 4 = .ok (.getfield 40, 3) := by decide +kernel
theorem dX3_hasCut_7 : decode cX3_hasCut 7 = .ok (.if_icmp .ge 21, 3) := by decide +kernel
theorem dX3_hasCut_10 : decode cX3_hasCut 10 = .ok (.aload_n 0, 1) := by decide +kernel
theorem dX3_hasCut_11 : decode cX3_hasCut 11 = .ok (.getfield 9, 3) := by decide +kernel
theorem dX3_hasCut_14 : decode cX3_hasCut 14 = .ok (.iload_n 2, 1) := by decide +kernel
theorem dX3_hasCut_15 : decode cX3_hasCut 15 = .ok (.iaload, 1) := by decide +kernel
theorem dX3_hasCut_16 : decode cX3_hasCut 16 = .ok (.iload_n 1, 1) := by decide +kernel
theorem dX3_hasCut_17 : decode cX3_hasCut 17 = .ok (.if_icmp .ne 5, 3) := by decide +kernel
theorem dX3_hasCut_20 : decode cX3_hasCut 20 = .ok (.iconst 1, 1) := by decide +kernel
theorem dX3_hasCut_21 : decode cX3_hasCut 21 = .ok (.ireturn, 1) := by decide +kernel
theorem dX3_hasCut_22 : decode cX3_hasCut 22 = .ok (.iinc 2 1, 3) := by decide +kernel
theorem dX3_hasCut_25 : decode cX3_hasCut 25 = .ok (.goto (-23), 3) := by decide +kernel
theorem dX3_hasCut_28 : decode cX3_hasCut 28 = .ok (.iconst 0, 1) := by decide +kernel
theorem dX3_hasCut_29 : decode cX3_hasCut 29 = .ok (.ireturn, 1) := by decide +kernel
theorem dX3_addCut_0 : decode cX3_addCut 0 = .ok (.aload_n 0, 1) := by decide +kernel
theorem dX3_addCut_1 : decode cX3_addCut 1 = .ok (.getfield 40, 3) := by decide +kernel
theorem dX3_addCut_4 : decode cX3_addCut 4 = .ok (.aload_n 0, 1) := by decide +kernel
theorem dX3_addCut_5 : decode cX3_addCut 5 = .ok (.getfield 9, 3) := by decide +kernel
theorem dX3_addCut_8 : decode cX3_addCut 8 = .ok (.arraylength, 1) := by decide +kernel
theorem dX3_addCut_9 : decode cX3_addCut 9 = .ok (.if_icmp .lt 4, 3) := by decide +kernel
theorem dX3_addCut_12 : decode cX3_addCut 12 = .ok (.return_, 1) := by decide +kernel
theorem dX3_addCut_13 : decode cX3_addCut 13 = .ok (.aload_n 0, 1) := by decide +kernel
theorem dX3_addCut_14 : decode cX3_addCut 14 = .ok (.getfield 40, 3) := by decide +kernel
theorem dX3_addCut_17 : decode cX3_addCut 17 = .ok (.istore_n 2, 1) := by decide +kernel
theorem dX3_addCut_18 : decode cX3_addCut 18 = .ok (.iload_n 2, 1) := by decide +kernel
theorem dX3_addCut_19 : decode cX3_addCut 19 = .ok (.ifCond .le 35, 3) := by decide +kernel
theorem dX3_addCut_22 : decode cX3_addCut 22 = .ok (.aload_n 0, 1) := by decide +kernel
theorem dX3_addCut_23 : decode cX3_addCut 23 = .ok (.getfield 9, 3) := by decide +kernel
theorem dX3_addCut_26 : decode cX3_addCut 26 = .ok (.iload_n 2, 1) := by decide +kernel
theorem dX3_addCut_27 : decode cX3_addCut 27 = .ok (.iconst 1, 1) := by decide +kernel
theorem dX3_addCut_28 : decode cX3_addCut 28 = .ok (.isub, 1) := by decide +kernel
theorem dX3_addCut_29 : decode cX3_addCut 29 = .ok (.iaload, 1) := by decide +kernel
theorem dX3_addCut_30 : decode cX3_addCut 30 = .ok (.iload_n 1, 1) := by decide +kernel
theorem dX3_addCut_31 : decode cX3_addCut 31 = .ok (.if_icmp .ge 23, 3) := by decide +kernel
theorem dX3_addCut_34 : decode cX3_addCut 34 = .ok (.aload_n 0, 1) := by decide +kernel
theorem dX3_addCut_35 : decode cX3_addCut 35 = .ok (.getfield 9, 3) := by decide +kernel
theorem dX3_addCut_38 : decode cX3_addCut 38 = .ok (.iload_n 2, 1) := by decide +kernel
theorem dX3_addCut_39 : decode cX3_addCut 39 = .ok (.aload_n 0, 1) := by decide +kernel
theorem dX3_addCut_40 : decode cX3_addCut 40 = .ok (.getfield 9, 3) := by decide +kernel
theorem dX3_addCut_43 : decode cX3_addCut 43 = .ok (.iload_n 2, 1) := by decide +kernel
theorem dX3_addCut_44 : decode cX3_addCut 44 = .ok (.iconst 1, 1) := by decide +kernel
theorem dX3_addCut_45 : decode cX3_addCut 45 = .ok (.isub, 1) := by decide +kernel
theorem dX3_addCut_46 : decode cX3_addCut 46 = .ok (.iaload, 1) := by decide +kernel
theorem dX3_addCut_47 : decode cX3_addCut 47 = .ok (.iastore, 1) := by decide +kernel
theorem dX3_addCut_48 : decode cX3_addCut 48 = .ok (.iinc 2 (-1), 3) := by decide +kernel
theorem dX3_addCut_51 : decode cX3_addCut 51 = .ok (.goto (-33), 3) := by decide +kernel
theorem dX3_addCut_54 : decode cX3_addCut 54 = .ok (.aload_n 0, 1) := by decide +kernel
theorem dX3_addCut_55 : decode cX3_addCut 55 = .ok (.getfield 9, 3) := by decide +kernel
theorem dX3_addCut_58 : decode cX3_addCut 58 = .ok (.iload_n 2, 1) := by decide +kernel
theorem dX3_addCut_59 : decode cX3_addCut 59 = .ok (.iload_n 1, 1) := by decide +kernel
theorem dX3_addCut_60 : decode cX3_addCut 60 = .ok (.iastore, 1) := by decide +kernel
theorem dX3_addCut_61 : decode cX3_addCut 61 = .ok (.aload_n 0, 1) := by decide +kernel
theorem dX3_addCut_62 : decode cX3_addCut 62 = .ok (.dup, 1) := by decide +kernel
theorem dX3_addCut_63 : decode cX3_addCut 63 = .ok (.getfield 40, 3) := by decide +kernel
theorem dX3_addCut_66 : decode cX3_addCut 66 = .ok (.iconst 1, 1) := by decide +kernel
theorem dX3_addCut_67 : decode cX3_addCut 67 = .ok (.iadd, 1) := by decide +kernel
theorem dX3_addCut_68 : decode cX3_addCut 68 = .ok (.putfield 40, 3) := by decide +kernel
theorem dX3_addCut_71 : decode cX3_addCut 71 = .ok (.return_, 1) := by decide +kernel
theorem dX4_init_0 : decode cX4_init 0 = .ok (.aload_n 0, 1) := by decide +kernel
theorem dX4_init_1 : decode cX4_init 1 = .ok (.invokespecial 3, 3) := by decide +kernel
theorem dX4_init_4 : decode cX4_init 4 = .ok (.aload_n 0, 1) := by decide +kernel
theorem dX4_init_5 : decode cX4_init 5 = .ok (.bipush 24, 2) := by decide +kernel
theorem dX4_init_7 : decode cX4_init 7 = .ok (.anewarray 9, 3) := by decide +kernel
theorem dX4_init_10 : decode cX4_init 10 = .ok (.putfield 11, 3) := by decide +kernel
theorem dX4_init_13 : decode cX4_init 13 = .ok (.return_, 1) := by decide +kernel
theorem dX4_gather_0 : decode cX4_gather 0 = .ok (.aload_n 0, 1) := by decide +kernel
theorem dX4_gather_1 : decode cX4_gather 1 = .ok (.iconst 0, 1) := by decide +kernel
theorem dX4_gather_2 : decode cX4_gather 2 = .ok (.putfield 17, 3) := by decide +kernel
theorem dX4_gather_5 : decode cX4_gather 5 = .ok (.iconst 0, 1) := by decide +kernel
theorem dX4_gather_6 : decode cX4_gather 6 = .ok (.istore_n 2, 1) := by decide +kernel
theorem dX4_gather_7 : decode cX4_gather 7 = .ok (.iload_n 2, 1) := by decide +kernel
theorem dX4_gather_8 : decode cX4_gather 8 = .ok (.aload_n 1, 1) := by decide +kernel
theorem dX4_gather_9 : decode cX4_gather 9 = .ok (.getfield 21, 3) := by decide +kernel
theorem dX4_gather_12 : decode cX4_gather 12 = .ok (.if_icmp .ge 41, 3) := by decide +kernel
theorem dX4_gather_15 : decode cX4_gather 15 = .ok (.aload_n 1, 1) := by decide +kernel
theorem dX4_gather_16 : decode cX4_gather 16 = .ok (.getfield 26, 3) := by decide +kernel
theorem dX4_gather_19 : decode cX4_gather 19 = .ok (.iload_n 2, 1) := by decide +kernel
theorem dX4_gather_20 : decode cX4_gather 20 = .ok (.aaload, 1) := by decide +kernel
theorem dX4_gather_21 : decode cX4_gather 21 = .ok (.astore_n 3, 1) := by decide +kernel
theorem dX4_gather_22 : decode cX4_gather 22 = .ok (.aload_n 1, 1) := by decide +kernel
theorem dX4_gather_23 : decode cX4_gather 23 = .ok (.aload_n 3, 1) := by decide +kernel
theorem dX4_gather_24 : decode cX4_gather 24 = .ok (.invokevirtual 27, 3) := by decide +kernel
theorem dX4_gather_27 : decode cX4_gather 27 = .ok (.ifCond .eq 20, 3) := by decide +kernel
theorem dX4_gather_30 : decode cX4_gather 30 = .ok (.aload_n 0, 1) := by decide +kernel
theorem dX4_gather_31 : decode cX4_gather 31 = .ok (.getfield 17, 3) := by decide +kernel
theorem dX4_gather_34 : decode cX4_gather 34 = .ok (.aload_n 0, 1) := by decide +kernel
theorem dX4_gather_35 : decode cX4_gather 35 = .ok (.getfield 11, 3) := by decide +kernel
theorem dX4_gather_38 : decode cX4_gather 38 = .ok (.arraylength, 1) := by decide +kernel
theorem dX4_gather_39 : decode cX4_gather 39 = .ok (.if_icmp .ge 8, 3) := by decide +kernel
theorem dX4_gather_42 : decode cX4_gather 42 = .ok (.aload_n 0, 1) := by decide +kernel
theorem dX4_gather_43 : decode cX4_gather 43 = .ok (.aload_n 3, 1) := by decide +kernel
theorem dX4_gather_44 : decode cX4_gather 44 = .ok (.invokevirtual 31, 3) := by decide +kernel
theorem dX4_gather_47 : decode cX4_gather 47 = .ok (.iinc 2 1, 3) := by decide +kernel
theorem dX4_gather_50 : decode cX4_gather 50 = .ok (.goto (-43), 3) := by decide +kernel
theorem dX4_gather_53 : decode cX4_gather 53 = .ok (.return_, 1) := by decide +kernel
theorem dX4_insert_0 : decode cX4_insert 0 = .ok (.aload_n 0, 1) := by decide +kernel
theorem dX4_insert_1 : decode cX4_insert 1 = .ok (.getfield 17, 3) := by decide +kernel
theorem dX4_insert_4 : decode cX4_insert 4 = .ok (.istore_n 2, 1) := by decide +kernel
theorem dX4_insert_5 : decode cX4_insert 5 = .ok (.iload_n 2, 1) := by decide +kernel
theorem dX4_insert_6 : decode cX4_insert 6 = .ok (.ifCond .le 41, 3) := by decide +kernel
theorem dX4_insert_9 : decode cX4_insert 9 = .ok (.aload_n 0, 1) := by decide +kernel
theorem dX4_insert_10 : decode cX4_insert 10 = .ok (.getfield 11, 3) := by decide +kernel
theorem dX4_insert_13 : decode cX4_insert 13 = .ok (.iload_n 2, 1) := by decide +kernel
theorem dX4_insert_14 : decode cX4_insert 14 = .ok (.iconst 1, 1) := by decide +kernel
theorem dX4_insert_15 : decode cX4_insert 15 = .ok (.isub, 1) := by decide +kernel
theorem dX4_insert_16 : decode cX4_insert 16 = .ok (.aaload, 1) := by decide +kernel
theorem dX4_insert_17 : decode cX4_insert 17 = .ok (.getfield 35, 3) := by decide +kernel
theorem dX4_insert_20 : decode cX4_insert 20 = .ok (.aload_n 1, 1) := by decide +kernel
theorem dX4_insert_21 : decode cX4_insert 21 = .ok (.getfield 35, 3) := by decide +kernel
theorem dX4_insert_24 : decode cX4_insert 24 = .ok (.if_icmp .le 23, 3) := by decide +kernel
theorem dX4_insert_27 : decode cX4_insert 27 = .ok (.aload_n 0, 1) := by decide +kernel
theorem dX4_insert_28 : decode cX4_insert 28 = .ok (.getfield 11, 3) := by decide +kernel
theorem dX4_insert_31 : decode cX4_insert 31 = .ok (.iload_n 2, 1) := by decide +kernel
theorem dX4_insert_32 : decode cX4_insert 32 = .ok (.aload_n 0, 1) := by decide +kernel
theorem dX4_insert_33 : decode cX4_insert 33 = .ok (.getfield 11, 3) := by decide +kernel
theorem dX4_insert_36 : decode cX4_insert 36 = .ok (.iload_n 2, 1) := by decide +kernel
theorem dX4_insert_37 : decode cX4_insert 37 = .ok (.iconst 1, 1) := by decide +kernel
theorem dX4_insert_38 : decode cX4_insert 38 = .ok (.isub, 1) := by decide +kernel
theorem dX4_insert_39 : decode cX4_insert 39 = .ok (.aaload, 1) := by decide +kernel
theorem dX4_insert_40 : decode cX4_insert 40 = .ok (.aastore, 1) := by decide +kernel
theorem dX4_insert_41 : decode cX4_insert 41 = .ok (.iinc 2 (-1), 3) := by decide +kernel
theorem dX4_insert_44 : decode cX4_insert 44 = .ok (.goto (-39), 3) := by decide +kernel
