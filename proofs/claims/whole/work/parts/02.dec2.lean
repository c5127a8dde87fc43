theorem dX4_insert_47 : decode cX4_insert 47 = .ok (.aload_n 0, 1) := by decide +kernel
theorem dX4_insert_48 : decode cX4_insert 48 = .ok (.getfield 11, 3) := by decide +kernel
theorem dX4_insert_51 : decode cX4_insert 51 = .ok (.iload_n 2, 1) := by decide +kernel
theorem dX4_insert_52 : decode cX4_insert 52 = .ok (.aload_n 1, 1) := by decide +kernel
theorem dX4_insert_53 : decode cX4_insert 53 = .ok (.aastore, 1) := by decide +kernel
theorem dX4_insert_54 : decode cX4_insert 54 = .ok (.aload_n 0, 1) := by decide +kernel
theorem dX4_insert_55 : decode cX4_insert 55 = .ok (.dup, 1) := by decide +kernel
theorem dX4_insert_56 : decode cX4_insert 56 = .ok (.getfield 17, 3) := by decide +kernel
theorem dX4_insert_59 : decode cX4_insert 59 = .ok (.iconst 1, 1) := by decide +kernel
theorem dX4_insert_60 : decode cX4_insert 60 = .ok (.iadd, 1) := by decide +kernel
theorem dX4_insert_61 : decode cX4_insert 61 = .ok (.putfield 17, 3) := by decide +kernel
theorem dX4_insert_64 : decode cX4_insert 64 = .ok (.return_, 1) := by decide +kernel
theorem dX5_init_0 : decode cX5_init 0 = .ok (.aload_n 0, 1) := by decide +kernel
theorem dX5_init_1 : decode cX5_init 1 = .ok (.invokespecial 3, 3) := by decide +kernel
theorem dX5_init_4 : decode cX5_init 4 = .ok (.aload_n 0, 1) := by decide +kernel
theorem dX5_init_5 : decode cX5_init 5 = .ok (.aload_n 2, 1) := by decide +kernel
theorem dX5_init_6 : decode cX5_init 6 = .ok (.putfield 9, 3) := by decide +kernel
theorem dX5_init_9 : decode cX5_init 9 = .ok (.aload_n 0, 1) := by decide +kernel
theorem dX5_init_10 : decode cX5_init 10 = .ok (.new 15, 3) := by decide +kernel
theorem dX5_init_13 : decode cX5_init 13 = .ok (.dup, 1) := by decide +kernel
theorem dX5_init_14 : decode cX5_init 14 = .ok (.aload_n 1, 1) := by decide +kernel
theorem dX5_init_15 : decode cX5_init 15 = .ok (.iconst 0, 1) := by decide +kernel
theorem dX5_init_16 : decode cX5_init 16 = .ok (.invokespecial 17, 3) := by decide +kernel
theorem dX5_init_19 : decode cX5_init 19 = .ok (.putfield 20, 3) := by decide +kernel
theorem dX5_init_22 : decode cX5_init 22 = .ok (.aload_n 0, 1) := by decide +kernel
theorem dX5_init_23 : decode cX5_init 23 = .ok (.new 15, 3) := by decide +kernel
theorem dX5_init_26 : decode cX5_init 26 = .ok (.dup, 1) := by decide +kernel
theorem dX5_init_27 : decode cX5_init 27 = .ok (.aload_n 1, 1) := by decide +kernel
theorem dX5_init_28 : decode cX5_init 28 = .ok (.iconst 1, 1) := by decide +kernel
theorem dX5_init_29 : decode cX5_init 29 = .ok (.invokespecial 17, 3) := by decide +kernel
theorem dX5_init_32 : decode cX5_init 32 = .ok (.putfield 24, 3) := by decide +kernel
theorem dX5_init_35 : decode cX5_init 35 = .ok (.return_, 1) := by decide +kernel
theorem dX5_beginBook_0 : decode cX5_beginBook 0 = .ok (.aload_n 0, 1) := by decide +kernel
theorem dX5_beginBook_1 : decode cX5_beginBook 1 = .ok (.getfield 20, 3) := by decide +kernel
theorem dX5_beginBook_4 : decode cX5_beginBook 4 = .ok (.iconst 0, 1) := by decide +kernel
theorem dX5_beginBook_5 : decode cX5_beginBook 5 = .ok (.putfield 27, 3) := by decide +kernel
theorem dX5_beginBook_8 : decode cX5_beginBook 8 = .ok (.aload_n 0, 1) := by decide +kernel
theorem dX5_beginBook_9 : decode cX5_beginBook 9 = .ok (.getfield 24, 3) := by decide +kernel
theorem dX5_beginBook_12 : decode cX5_beginBook 12 = .ok (.iconst 0, 1) := by decide +kernel
theorem dX5_beginBook_13 : decode cX5_beginBook 13 = .ok (.putfield 27, 3) := by decide +kernel
theorem dX5_beginBook_16 : decode cX5_beginBook 16 = .ok (.aload_n 0, 1) := by decide +kernel
theorem dX5_beginBook_17 : decode cX5_beginBook 17 = .ok (.iconst 0, 1) := by decide +kernel
theorem dX5_beginBook_18 : decode cX5_beginBook 18 = .ok (.putfield 31, 3) := by decide +kernel
theorem dX5_beginBook_21 : decode cX5_beginBook 21 = .ok (.return_, 1) := by decide +kernel
theorem dX5_beginPage_0 : decode cX5_beginPage 0 = .ok (.aload_n 0, 1) := by decide +kernel
theorem dX5_beginPage_1 : decode cX5_beginPage 1 = .ok (.aload_n 0, 1) := by decide +kernel
theorem dX5_beginPage_2 : decode cX5_beginPage 2 = .ok (.getfield 31, 3) := by decide +kernel
theorem dX5_beginPage_5 : decode cX5_beginPage 5 = .ok (.putfield 34, 3) := by decide +kernel
theorem dX5_beginPage_8 : decode cX5_beginPage 8 = .ok (.aload_n 0, 1) := by decide +kernel
theorem dX5_beginPage_9 : decode cX5_beginPage 9 = .ok (.iconst 0, 1) := by decide +kernel
theorem dX5_beginPage_10 : decode cX5_beginPage 10 = .ok (.putfield 37, 3) := by decide +kernel
theorem dX5_beginPage_13 : decode cX5_beginPage 13 = .ok (.aload_n 0, 1) := by decide +kernel
theorem dX5_beginPage_14 : decode cX5_beginPage 14 = .ok (.iconst 0, 1) := by decide +kernel
theorem dX5_beginPage_15 : decode cX5_beginPage 15 = .ok (.putfield 40, 3) := by decide +kernel
theorem dX5_beginPage_18 : decode cX5_beginPage 18 = .ok (.return_, 1) := by decide +kernel
theorem dX5_carries_0 : decode cX5_carries 0 = .ok (.aload_n 0, 1) := by decide +kernel
theorem dX5_carries_1 : decode cX5_carries 1 = .ok (.getfield 20, 3) := by decide +kernel
theorem dX5_carries_4 : decode cX5_carries 4 = .ok (.getfield 27, 3) := by decide +kernel
theorem dX5_carries_7 : decode cX5_carries 7 = .ok (.ifCond .gt 13, 3) := by decide +kernel
theorem dX5_carries_10 : decode cX5_carries 10 = .ok (.aload_n 0, 1) := by decide +kernel
theorem dX5_carries_11 : decode cX5_carries 11 = .ok (.getfield 24, 3) := by decide +kernel
theorem dX5_carries_14 : decode cX5_carries 14 = .ok (.getfield 27, 3) := by decide +kernel
theorem dX5_carries_17 : decode cX5_carries 17 = .ok (.ifCond .le 7, 3) := by decide +kernel
theorem dX5_carries_20 : decode cX5_carries 20 = .ok (.iconst 1, 1) := by decide +kernel
theorem dX5_carries_21 : decode cX5_carries 21 = .ok (.goto 4, 3) := by decide +kernel
theorem dX5_carries_24 : decode cX5_carries 24 = .ok (.iconst 0, 1) := by decide +kernel
theorem dX5_carries_25 : decode cX5_carries 25 = .ok (.ireturn, 1) := by decide +kernel
theorem dX5_takeNotesOf_0 : decode cX5_takeNotesOf 0 = .ok (.aload_n 0, 1) := by decide +kernel
theorem dX5_takeNotesOf_1 : decode cX5_takeNotesOf 1 = .ok (.getfield 31, 3) := by decide +kernel
theorem dX5_takeNotesOf_4 : decode cX5_takeNotesOf 4 = .ok (.istore_n 2, 1) := by decide +kernel
theorem dX5_takeNotesOf_5 : decode cX5_takeNotesOf 5 = .ok (.aload_n 0, 1) := by decide +kernel
theorem dX5_takeNotesOf_6 : decode cX5_takeNotesOf 6 = .ok (.getfield 37, 3) := by decide +kernel
theorem dX5_takeNotesOf_9 : decode cX5_takeNotesOf 9 = .ok (.istore_n 3, 1) := by decide +kernel
theorem dX5_takeNotesOf_10 : decode cX5_takeNotesOf 10 = .ok (.aload_n 0, 1) := by decide +kernel
theorem dX5_takeNotesOf_11 : decode cX5_takeNotesOf 11 = .ok (.getfield 31, 3) := by decide +kernel
theorem dX5_takeNotesOf_14 : decode cX5_takeNotesOf 14 = .ok (.aload_n 0, 1) := by decide +kernel
theorem dX5_takeNotesOf_15 : decode cX5_takeNotesOf 15 = .ok (.getfield 9, 3) := by decide +kernel
theorem dX5_takeNotesOf_18 : decode cX5_takeNotesOf 18 = .ok (.getfield 43, 3) := by decide +kernel
theorem dX5_takeNotesOf_21 : decode cX5_takeNotesOf 21 = .ok (.if_icmp .ge 64, 3) := by decide +kernel
theorem dX5_takeNotesOf_24 : decode cX5_takeNotesOf 24 = .ok (.aload_n 0, 1) := by decide +kernel
theorem dX5_takeNotesOf_25 : decode cX5_takeNotesOf 25 = .ok (.getfield 9, 3) := by decide +kernel
theorem dX5_takeNotesOf_28 : decode cX5_takeNotesOf 28 = .ok (.getfield 48, 3) := by decide +kernel
theorem dX5_takeNotesOf_31 : decode cX5_takeNotesOf 31 = .ok (.aload_n 0, 1) := by decide +kernel
theorem dX5_takeNotesOf_32 : decode cX5_takeNotesOf 32 = .ok (.getfield 31, 3) := by decide +kernel
theorem dX5_takeNotesOf_35 : decode cX5_takeNotesOf 35 = .ok (.aaload, 1) := by decide +kernel
theorem dX5_takeNotesOf_36 : decode cX5_takeNotesOf 36 = .ok (.getfield 52, 3) := by decide +kernel
theorem dX5_takeNotesOf_39 : decode cX5_takeNotesOf 39 = .ok (.iload_n 1, 1) := by decide +kernel
theorem dX5_takeNotesOf_40 : decode cX5_takeNotesOf 40 = .ok (.if_icmp .ne 45, 3) := by decide +kernel
theorem dX5_takeNotesOf_43 : decode cX5_takeNotesOf 43 = .ok (.aload_n 0, 1) := by decide +kernel
theorem dX5_takeNotesOf_44 : decode cX5_takeNotesOf 44 = .ok (.getfield 9, 3) := by decide +kernel
theorem dX5_takeNotesOf_47 : decode cX5_takeNotesOf 47 = .ok (.getfield 48, 3) := by decide +kernel
theorem dX5_takeNotesOf_50 : decode cX5_takeNotesOf 50 = .ok (.aload_n 0, 1) := by decide +kernel
theorem dX5_takeNotesOf_51 : decode cX5_takeNotesOf 51 = .ok (.getfield 31, 3) := by decide +kernel
theorem dX5_takeNotesOf_54 : decode cX5_takeNotesOf 54 = .ok (.aaload, 1) := by decide +kernel
theorem dX5_takeNotesOf_55 : decode cX5_takeNotesOf 55 = .ok (.getfield 57, 3) := by decide +kernel
theorem dX5_takeNotesOf_58 : decode cX5_takeNotesOf 58 = .ok (.iconst 2, 1) := by decide +kernel
theorem dX5_takeNotesOf_59 : decode cX5_takeNotesOf 59 = .ok (.if_icmp .ne 13, 3) := by decide +kernel
theorem dX5_takeNotesOf_62 : decode cX5_takeNotesOf 62 = .ok (.aload_n 0, 1) := by decide +kernel
theorem dX5_takeNotesOf_63 : decode cX5_takeNotesOf 63 = .ok (.dup, 1) := by decide +kernel
theorem dX5_takeNotesOf_64 : decode cX5_takeNotesOf 64 = .ok (.getfield 37, 3) := by decide +kernel
theorem dX5_takeNotesOf_67 : decode cX5_takeNotesOf 67 = .ok (.iconst 1, 1) := by decide +kernel
theorem dX5_takeNotesOf_68 : decode cX5_takeNotesOf 68 = .ok (.iadd, 1) := by decide +kernel
theorem dX5_takeNotesOf_69 : decode cX5_takeNotesOf 69 = .ok (.putfield 37, 3) := by decide +kernel
theorem dX5_takeNotesOf_72 : decode cX5_takeNotesOf 72 = .ok (.aload_n 0, 1) := by decide +kernel
theorem dX5_takeNotesOf_73 : decode cX5_takeNotesOf 73 = .ok (.dup, 1) := by decide +kernel
theorem dX5_takeNotesOf_74 : decode cX5_takeNotesOf 74 = .ok (.getfield 31, 3) := by decide +kernel
theorem dX5_takeNotesOf_77 : decode cX5_takeNotesOf 77 = .ok (.iconst 1, 1) := by decide +kernel
theorem dX5_takeNotesOf_78 : decode cX5_takeNotesOf 78 = .ok (.iadd, 1) := by decide +kernel
theorem dX5_takeNotesOf_79 : decode cX5_takeNotesOf 79 = .ok (.putfield 31, 3) := by decide +kernel
theorem dX5_takeNotesOf_82 : decode cX5_takeNotesOf 82 = .ok (.goto (-72), 3) := by decide +kernel
theorem dX5_takeNotesOf_85 : decode cX5_takeNotesOf 85 = .ok (.aload_n 0, 1) := by decide +kernel
theorem dX5_takeNotesOf_86 : decode cX5_takeNotesOf 86 = .ok (.getfield 31, 3) := by decide +kernel
theorem dX5_takeNotesOf_89 : decode cX5_takeNotesOf 89 = .ok (.iload_n 2, 1) := by decide +kernel
theorem dX5_takeNotesOf_90 : decode cX5_takeNotesOf 90 = .ok (.if_icmp .eq 16, 3) := by decide +kernel
theorem dX5_takeNotesOf_93 : decode cX5_takeNotesOf 93 = .ok (.aload_n 0, 1) := by decide +kernel
theorem dX5_takeNotesOf_94 : decode cX5_takeNotesOf 94 = .ok (.aload_n 0, 1) := by decide +kernel
theorem dX5_takeNotesOf_95 : decode cX5_takeNotesOf 95 = .ok (.getfield 37, 3) := by decide +kernel
theorem dX5_takeNotesOf_98 : decode cX5_takeNotesOf 98 = .ok (.iload_n 3, 1) := by decide +kernel
theorem dX5_takeNotesOf_99 : decode cX5_takeNotesOf 99 = .ok (.isub, 1) := by decide +kernel
theorem dX5_takeNotesOf_100 : decode cX5_takeNotesOf 100 = .ok (.invokevirtual 60, 3) := by decide +kernel
theorem dX5_takeNotesOf_103 : decode cX5_takeNotesOf 103 = .ok (.ifCond .eq 5, 3) := by decide +kernel
theorem dX5_takeNotesOf_106 : decode cX5_takeNotesOf 106 = .ok (.iconst 1, 1) := by decide +kernel
theorem dX5_takeNotesOf_107 : decode cX5_takeNotesOf 107 = .ok (.ireturn, 1) := by decide +kernel
theorem dX5_takeNotesOf_108 : decode cX5_takeNotesOf 108 = .ok (.aload_n 0, 1) := by decide +kernel
theorem dX5_takeNotesOf_109 : decode cX5_takeNotesOf 109 = .ok (.iload_n 2, 1) := by decide +kernel
theorem dX5_takeNotesOf_110 : decode cX5_takeNotesOf 110 = .ok (.putfield 31, 3) := by decide +kernel
theorem dX5_takeNotesOf_113 : decode cX5_takeNotesOf 113 = .ok (.aload_n 0, 1) := by decide +kernel
theorem dX5_takeNotesOf_114 : decode cX5_takeNotesOf 114 = .ok (.iload_n 3, 1) := by decide +kernel
theorem dX5_takeNotesOf_115 : decode cX5_takeNotesOf 115 = .ok (.putfield 37, 3) := by decide +kernel
theorem dX5_takeNotesOf_118 : decode cX5_takeNotesOf 118 = .ok (.iconst 0, 1) := by decide +kernel
theorem dX5_takeNotesOf_119 : decode cX5_takeNotesOf 119 = .ok (.ireturn, 1) := by decide +kernel
theorem dX5_findDealing_0 : decode cX5_findDealing 0 = .ok (.aload_n 0, 1) := by decide +kernel
theorem dX5_findDealing_1 : decode cX5_findDealing 1 = .ok (.getfield 37, 3) := by decide +kernel
theorem dX5_findDealing_4 : decode cX5_findDealing 4 = .ok (.bipush 6, 2) := by decide +kernel
theorem dX5_findDealing_6 : decode cX5_findDealing 6 = .ok (.if_icmp .le 5, 3) := by decide +kernel
theorem dX5_findDealing_9 : decode cX5_findDealing 9 = .ok (.iconst 0, 1) := by decide +kernel
theorem dX5_findDealing_10 : decode cX5_findDealing 10 = .ok (.ireturn, 1) := by decide +kernel
theorem dX5_findDealing_11 : decode cX5_findDealing 11 = .ok (.aload_n 0, 1) := by decide +kernel
theorem dX5_findDealing_12 : decode cX5_findDealing 12 = .ok (.getfield 40, 3) := by decide +kernel
theorem dX5_findDealing_15 : decode cX5_findDealing 15 = .ok (.iload_n 1, 1) := by decide +kernel
theorem dX5_findDealing_16 : decode cX5_findDealing 16 = .ok (.ishl, 1) := by decide +kernel
theorem dX5_findDealing_17 : decode cX5_findDealing 17 = .ok (.istore_n 2, 1) := by decide +kernel
theorem dX5_findDealing_18 : decode cX5_findDealing 18 = .ok (.iload_n 2, 1) := by decide +kernel
theorem dX5_findDealing_19 : decode cX5_findDealing 19 = .ok (.aload_n 0, 1) := by decide +kernel
theorem dX5_findDealing_20 : decode cX5_findDealing 20 = .ok (.invokevirtual 64, 3) := by decide +kernel
theorem dX5_findDealing_23 : decode cX5_findDealing 23 = .ok (.if_icmp .ge 41, 3) := by decide +kernel
theorem dX5_findDealing_26 : decode cX5_findDealing 26 = .ok (.aload_n 0, 1) := by decide +kernel
theorem dX5_findDealing_27 : decode cX5_findDealing 27 = .ok (.iload_n 2, 1) := by decide +kernel
theorem dX5_findDealing_28 : decode cX5_findDealing 28 = .ok (.invokevirtual 68, 3) := by decide +kernel
theorem dX5_findDealing_31 : decode cX5_findDealing 31 = .ok (.aload_n 0, 1) := by decide +kernel
theorem dX5_findDealing_32 : decode cX5_findDealing 32 = .ok (.getfield 20, 3) := by decide +kernel
theorem dX5_findDealing_35 : decode cX5_findDealing 35 = .ok (.invokevirtual 72, 3) := by decide +kernel
theorem dX5_findDealing_38 : decode cX5_findDealing 38 = .ok (.ifCond .eq 20, 3) := by decide +kernel
theorem dX5_findDealing_41 : decode cX5_findDealing 41 = .ok (.aload_n 0, 1) := by decide +kernel
theorem dX5_findDealing_42 : decode cX5_findDealing 42 = .ok (.getfield 24, 3) := by decide +kernel
theorem dX5_findDealing_45 : decode cX5_findDealing 45 = .ok (.invokevirtual 72, 3) := by decide +kernel
theorem dX5_findDealing_48 : decode cX5_findDealing 48 = .ok (.ifCond .eq 10, 3) := by decide +kernel
theorem dX5_findDealing_51 : decode cX5_findDealing 51 = .ok (.aload_n 0, 1) := by decide +kernel
theorem dX5_findDealing_52 : decode cX5_findDealing 52 = .ok (.iload_n 2, 1) := by decide +kernel
theorem dX5_findDealing_53 : decode cX5_findDealing 53 = .ok (.putfield 40, 3) := by decide +kernel
theorem dX5_findDealing_56 : decode cX5_findDealing 56 = .ok (.iconst 1, 1) := by decide +kernel
theorem dX5_findDealing_57 : decode cX5_findDealing 57 = .ok (.ireturn, 1) := by decide +kernel
theorem dX5_findDealing_58 : decode cX5_findDealing 58 = .ok (.iinc 2 1, 3) := by decide +kernel
theorem dX5_findDealing_61 : decode cX5_findDealing 61 = .ok (.goto (-43), 3) := by decide +kernel
theorem dX5_findDealing_64 : decode cX5_findDealing 64 = .ok (.iconst 0, 1) := by decide +kernel
theorem dX5_findDealing_65 : decode cX5_findDealing 65 = .ok (.ireturn, 1) := by decide +kernel
theorem dX5_dealings_0 : decode cX5_dealings 0 = .ok (.iconst 1, 1) := by decide +kernel
theorem dX5_dealings_1 : decode cX5_dealings 1 = .ok (.aload_n 0, 1) := by decide +kernel
theorem dX5_dealings_2 : decode cX5_dealings 2 = .ok (.getfield 37, 3) := by decide +kernel
theorem dX5_dealings_5 : decode cX5_dealings 5 = .ok (.ishl, 1) := by decide +kernel
theorem dX5_dealings_6 : decode cX5_dealings 6 = .ok (.ireturn, 1) := by decide +kernel
theorem dX5_deal_0 : decode cX5_deal 0 = .ok (.aload_n 0, 1) := by decide +kernel
theorem dX5_deal_1 : decode cX5_deal 1 = .ok (.getfield 20, 3) := by decide +kernel
theorem dX5_deal_4 : decode cX5_deal 4 = .ok (.invokevirtual 76, 3) := by decide +kernel
theorem dX5_deal_7 : decode cX5_deal 7 = .ok (.aload_n 0, 1) := by decide +kernel
theorem dX5_deal_8 : decode cX5_deal 8 = .ok (.getfield 24, 3) := by decide +kernel
theorem dX5_deal_11 : decode cX5_deal 11 = .ok (.invokevirtual 76, 3) := by decide +kernel
theorem dX5_deal_14 : decode cX5_deal 14 = .ok (.aload_n 0, 1) := by decide +kernel
theorem dX5_deal_15 : decode cX5_deal 15 = .ok (.invokevirtual 64, 3) := by decide +kernel
theorem dX5_deal_18 : decode cX5_deal 18 = .ok (.iconst 1, 1) := by decide +kernel
theorem dX5_deal_19 : decode cX5_deal 19 = .ok (.ishr, 1) := by decide +kernel
theorem dX5_deal_20 : decode cX5_deal 20 = .ok (.istore_n 2, 1) := by decide +kernel
theorem dX5_deal_21 : decode cX5_deal 21 = .ok (.aload_n 0, 1) := by decide +kernel
theorem dX5_deal_22 : decode cX5_deal 22 = .ok (.getfield 34, 3) := by decide +kernel
theorem dX5_deal_25 : decode cX5_deal 25 = .ok (.istore_n 3, 1) := by decide +kernel
theorem dX5_deal_26 : decode cX5_deal 26 = .ok (.iload_n 3, 1) := by decide +kernel
theorem dX5_deal_27 : decode cX5_deal 27 = .ok (.aload_n 0, 1) := by decide +kernel
theorem dX5_deal_28 : decode cX5_deal 28 = .ok (.getfield 31, 3) := by decide +kernel
theorem dX5_deal_31 : decode cX5_deal 31 = .ok (.if_icmp .ge 88, 3) := by decide +kernel
theorem dX5_deal_34 : decode cX5_deal 34 = .ok (.aload_n 0, 1) := by decide +kernel
theorem dX5_deal_35 : decode cX5_deal 35 = .ok (.getfield 9, 3) := by decide +kernel
theorem dX5_deal_38 : decode cX5_deal 38 = .ok (.getfield 48, 3) := by decide +kernel
theorem dX5_deal_41 : decode cX5_deal 41 = .ok (.iload_n 3, 1) := by decide +kernel
theorem dX5_deal_42 : decode cX5_deal 42 = .ok (.aaload, 1) := by decide +kernel
theorem dX5_deal_43 : decode cX5_deal 43 = .ok (.astore 4, 2) := by decide +kernel
theorem dX5_deal_45 : decode cX5_deal 45 = .ok (.aload 4, 2) := by decide +kernel
theorem dX5_deal_47 : decode cX5_deal 47 = .ok (.getfield 57, 3) := by decide +kernel
theorem dX5_deal_50 : decode cX5_deal 50 = .ok (.iconst 1, 1) := by decide +kernel
theorem dX5_deal_51 : decode cX5_deal 51 = .ok (.if_icmp .ne 7, 3) := by decide +kernel
theorem dX5_deal_54 : decode cX5_deal 54 = .ok (.iconst 1, 1) := by decide +kernel
theorem dX5_deal_55 : decode cX5_deal 55 = .ok (.goto 4, 3) := by decide +kernel
theorem dX5_deal_58 : decode cX5_deal 58 = .ok (.iconst 0, 1) := by decide +kernel
theorem dX5_deal_59 : decode cX5_deal 59 = .ok (.istore 5, 2) := by decide +kernel
theorem dX5_deal_61 : decode cX5_deal 61 = .ok (.aload 4, 2) := by decide +kernel
theorem dX5_deal_63 : decode cX5_deal 63 = .ok (.getfield 57, 3) := by decide +kernel
theorem dX5_deal_66 : decode cX5_deal 66 = .ok (.iconst 2, 1) := by decide +kernel
theorem dX5_deal_67 : decode cX5_deal 67 = .ok (.if_icmp .ne 20, 3) := by decide +kernel
theorem dX5_deal_70 : decode cX5_deal 70 = .ok (.iload_n 1, 1) := by decide +kernel
theorem dX5_deal_71 : decode cX5_deal 71 = .ok (.iload_n 2, 1) := by decide +kernel
theorem dX5_deal_72 : decode cX5_deal 72 = .ok (.iand, 1) := by decide +kernel
theorem dX5_deal_73 : decode cX5_deal 73 = .ok (.ifCond .eq 7, 3) := by decide +kernel
theorem dX5_deal_76 : decode cX5_deal 76 = .ok (.iconst 1, 1) := by decide +kernel
theorem dX5_deal_77 : decode cX5_deal 77 = .ok (.goto 4, 3) := by decide +kernel
theorem dX5_deal_80 : decode cX5_deal 80 = .ok (.iconst 0, 1) := by decide +kernel
theorem dX5_deal_81 : decode cX5_deal 81 = .ok (.istore 5, 2) := by decide +kernel
theorem dX5_deal_83 : decode cX5_deal 83 = .ok (.iload_n 2, 1) := by decide +kernel
theorem dX5_deal_84 : decode cX5_deal 84 = .ok (.iconst 1, 1) := by decide +kernel
theorem dX5_deal_85 : decode cX5_deal 85 = .ok (.ishr, 1) := by decide +kernel
theorem dX5_deal_86 : decode cX5_deal 86 = .ok (.istore_n 2, 1) := by decide +kernel
theorem dX5_deal_87 : decode cX5_deal 87 = .ok (.iload 5, 2) := by decide +kernel
theorem dX5_deal_89 : decode cX5_deal 89 = .ok (.ifCond .eq 15, 3) := by decide +kernel
theorem dX5_deal_92 : decode cX5_deal 92 = .ok (.aload_n 0, 1) := by decide +kernel
theorem dX5_deal_93 : decode cX5_deal 93 = .ok (.getfield 24, 3) := by decide +kernel
theorem dX5_deal_96 : decode cX5_deal 96 = .ok (.aload 4, 2) := by decide +kernel
theorem dX5_deal_98 : decode cX5_deal 98 = .ok (.invokevirtual 79, 3) := by decide +kernel
theorem dX5_deal_101 : decode cX5_deal 101 = .ok (.goto 12, 3) := by decide +kernel
theorem dX5_deal_104 : decode cX5_deal 104 = .ok (.aload_n 0, 1) := by decide +kernel
theorem dX5_deal_105 : decode cX5_deal 105 = .ok (.getfield 20, 3) := by decide +kernel
theorem dX5_deal_108 : decode cX5_deal 108 = .ok (.aload 4, 2) := by decide +kernel
theorem dX5_deal_110 : decode cX5_deal 110 = .ok (.invokevirtual 79, 3) := by decide +kernel
theorem dX5_deal_113 : decode cX5_deal 113 = .ok (.iinc 3 1, 3) := by decide +kernel
theorem dX5_deal_116 : decode cX5_deal 116 = .ok (.goto (-90), 3) := by decide +kernel
theorem dX5_deal_119 : decode cX5_deal 119 = .ok (.return_, 1) := by decide +kernel
theorem dX5_setBest_0 : decode cX5_setBest 0 = .ok (.ldc 83, 2) := by decide +kernel
theorem dX5_setBest_2 : decode cX5_setBest 2 = .ok (.istore_n 1, 1) := by decide +kernel
theorem dX5_setBest_3 : decode cX5_setBest 3 = .ok (.aload_n 0, 1) := by decide +kernel
theorem dX5_setBest_4 : decode cX5_setBest 4 = .ok (.getfield 40, 3) := by decide +kernel
theorem dX5_setBest_7 : decode cX5_setBest 7 = .ok (.istore_n 2, 1) := by decide +kernel
theorem dX5_setBest_8 : decode cX5_setBest 8 = .ok (.iconst 0, 1) := by decide +kernel
theorem dX5_setBest_9 : decode cX5_setBest 9 = .ok (.istore_n 3, 1) := by decide +kernel
theorem dX5_setBest_10 : decode cX5_setBest 10 = .ok (.iconst 0, 1) := by decide +kernel
theorem dX5_setBest_11 : decode cX5_setBest 11 = .ok (.istore 4, 2) := by decide +kernel
theorem dX5_setBest_13 : decode cX5_setBest 13 = .ok (.aload_n 0, 1) := by decide +kernel
theorem dX5_setBest_14 : decode cX5_setBest 14 = .ok (.getfield 40, 3) := by decide +kernel
theorem dX5_setBest_17 : decode cX5_setBest 17 = .ok (.istore 5, 2) := by decide +kernel
theorem dX5_setBest_19 : decode cX5_setBest 19 = .ok (.iload 5, 2) := by decide +kernel
theorem dX5_setBest_21 : decode cX5_setBest 21 = .ok (.aload_n 0, 1) := by decide +kernel
theorem dX5_setBest_22 : decode cX5_setBest 22 = .ok (.invokevirtual 64, 3) := by decide +kernel
theorem dX5_setBest_25 : decode cX5_setBest 25 = .ok (.if_icmp .ge 87, 3) := by decide +kernel
theorem dX5_setBest_28 : decode cX5_setBest 28 = .ok (.iload_n 1, 1) := by decide +kernel
theorem dX5_setBest_29 : decode cX5_setBest 29 = .ok (.ifCond .le 83, 3) := by decide +kernel
theorem dX5_setBest_32 : decode cX5_setBest 32 = .ok (.aload_n 0, 1) := by decide +kernel
theorem dX5_setBest_33 : decode cX5_setBest 33 = .ok (.iload 5, 2) := by decide +kernel
theorem dX5_setBest_35 : decode cX5_setBest 35 = .ok (.invokevirtual 68, 3) := by decide +kernel
theorem dX5_setBest_38 : decode cX5_setBest 38 = .ok (.aload_n 0, 1) := by decide +kernel
theorem dX5_setBest_39 : decode cX5_setBest 39 = .ok (.getfield 20, 3) := by decide +kernel
theorem dX5_setBest_42 : decode cX5_setBest 42 = .ok (.iload_n 1, 1) := by decide +kernel
theorem dX5_setBest_43 : decode cX5_setBest 43 = .ok (.invokevirtual 84, 3) := by decide +kernel
theorem dX5_setBest_46 : decode cX5_setBest 46 = .ok (.istore 6, 2) := by decide +kernel
theorem dX5_setBest_48 : decode cX5_setBest 48 = .ok (.iload 6, 2) := by decide +kernel
theorem dX5_setBest_50 : decode cX5_setBest 50 = .ok (.iload_n 1, 1) := by decide +kernel
theorem dX5_setBest_51 : decode cX5_setBest 51 = .ok (.if_icmp .ge 17, 3) := by decide +kernel
theorem dX5_setBest_54 : decode cX5_setBest 54 = .ok (.aload_n 0, 1) := by decide +kernel
theorem dX5_setBest_55 : decode cX5_setBest 55 = .ok (.getfield 24, 3) := by decide +kernel
theorem dX5_setBest_58 : decode cX5_setBest 58 = .ok (.iload_n 1, 1) := by decide +kernel
theorem dX5_setBest_59 : decode cX5_setBest 59 = .ok (.iload 6, 2) := by decide +kernel
theorem dX5_setBest_61 : decode cX5_setBest 61 = .ok (.isub, 1) := by decide +kernel
theorem dX5_setBest_62 : decode cX5_setBest 62 = .ok (.invokevirtual 84, 3) := by decide +kernel
theorem dX5_setBest_65 : decode cX5_setBest 65 = .ok (.goto 4, 3) := by decide +kernel
theorem dX5_setBest_68 : decode cX5_setBest 68 = .ok (.iconst 0, 1) := by decide +kernel
theorem dX5_setBest_69 : decode cX5_setBest 69 = .ok (.istore 7, 2) := by decide +kernel
theorem dX5_setBest_71 : decode cX5_setBest 71 = .ok (.iload 6, 2) := by decide +kernel
theorem dX5_setBest_73 : decode cX5_setBest 73 = .ok (.iload 7, 2) := by decide +kernel
theorem dX5_setBest_75 : decode cX5_setBest 75 = .ok (.iadd, 1) := by decide +kernel
theorem dX5_setBest_76 : decode cX5_setBest 76 = .ok (.iload_n 1, 1) := by decide +kernel
theorem dX5_setBest_77 : decode cX5_setBest 77 = .ok (.if_icmp .ge 29, 3) := by decide +kernel
theorem dX5_setBest_80 : decode cX5_setBest 80 = .ok (.iload 6, 2) := by decide +kernel
theorem dX5_setBest_82 : decode cX5_setBest 82 = .ok (.iload 7, 2) := by decide +kernel
theorem dX5_setBest_84 : decode cX5_setBest 84 = .ok (.iadd, 1) := by decide +kernel
theorem dX5_setBest_85 : decode cX5_setBest 85 = .ok (.istore_n 1, 1) := by decide +kernel
theorem dX5_setBest_86 : decode cX5_setBest 86 = .ok (.iload 5, 2) := by decide +kernel
theorem dX5_setBest_88 : decode cX5_setBest 88 = .ok (.istore_n 2, 1) := by decide +kernel
theorem dX5_setBest_89 : decode cX5_setBest 89 = .ok (.aload_n 0, 1) := by decide +kernel
theorem dX5_setBest_90 : decode cX5_setBest 90 = .ok (.getfield 20, 3) := by decide +kernel
theorem dX5_setBest_93 : decode cX5_setBest 93 = .ok (.getfield 88, 3) := by decide +kernel
theorem dX5_setBest_96 : decode cX5_setBest 96 = .ok (.istore_n 3, 1) := by decide +kernel
theorem dX5_setBest_97 : decode cX5_setBest 97 = .ok (.aload_n 0, 1) := by decide +kernel
theorem dX5_setBest_98 : decode cX5_setBest 98 = .ok (.getfield 24, 3) := by decide +kernel
theorem dX5_setBest_101 : decode cX5_setBest 101 = .ok (.getfield 88, 3) := by decide +kernel
theorem dX5_setBest_104 : decode cX5_setBest 104 = .ok (.istore 4, 2) := by decide +kernel
theorem dX5_setBest_106 : decode cX5_setBest 106 = .ok (.iinc 5 1, 3) := by decide +kernel
theorem dX5_setBest_109 : decode cX5_setBest 109 = .ok (.goto (-90), 3) := by decide +kernel
theorem dX5_setBest_112 : decode cX5_setBest 112 = .ok (.aload_n 0, 1) := by decide +kernel
theorem dX5_setBest_113 : decode cX5_setBest 113 = .ok (.iload_n 2, 1) := by decide +kernel
theorem dX5_setBest_114 : decode cX5_setBest 114 = .ok (.invokevirtual 68, 3) := by decide +kernel
theorem dX5_setBest_117 : decode cX5_setBest 117 = .ok (.aload_n 0, 1) := by decide +kernel
theorem dX5_setBest_118 : decode cX5_setBest 118 = .ok (.getfield 20, 3) := by decide +kernel
theorem dX5_setBest_121 : decode cX5_setBest 121 = .ok (.iload_n 3, 1) := by decide +kernel
theorem dX5_setBest_122 : decode cX5_setBest 122 = .ok (.invokevirtual 91, 3) := by decide +kernel
theorem dX5_setBest_125 : decode cX5_setBest 125 = .ok (.aload_n 0, 1) := by decide +kernel
theorem dX5_setBest_126 : decode cX5_setBest 126 = .ok (.getfield 24, 3) := by decide +kernel
theorem dX5_setBest_129 : decode cX5_setBest 129 = .ok (.iload 4, 2) := by decide +kernel
theorem dX5_setBest_131 : decode cX5_setBest 131 = .ok (.invokevirtual 91, 3) := by decide +kernel
theorem dX5_setBest_134 : decode cX5_setBest 134 = .ok (.iload_n 1, 1) := by decide +kernel
theorem dX5_setBest_135 : decode cX5_setBest 135 = .ok (.ireturn, 1) := by decide +kernel
theorem dX6_init_0 : decode cX6_init 0 = .ok (.aload_n 0, 1) := by decide +kernel
theorem dX6_init_1 : decode cX6_init 1 = .ok (.invokespecial 3, 3) := by decide +kernel
theorem dX6_init_4 : decode cX6_init 4 = .ok (.aload_n 0, 1) := by decide +kernel
theorem dX6_init_5 : decode cX6_init 5 = .ok (.new 9, 3) := by decide +kernel
theorem dX6_init_8 : decode cX6_init 8 = .ok (.dup, 1) := by decide +kernel
theorem dX6_init_9 : decode cX6_init 9 = .ok (.invokespecial 11, 3) := by decide +kernel
theorem dX6_init_12 : decode cX6_init 12 = .ok (.putfield 12, 3) := by decide +kernel
theorem dX6_init_15 : decode cX6_init 15 = .ok (.aload_n 0, 1) := by decide +kernel
theorem dX6_init_16 : decode cX6_init 16 = .ok (.new 16, 3) := by decide +kernel
theorem dX6_init_19 : decode cX6_init 19 = .ok (.dup, 1) := by decide +kernel
theorem dX6_init_20 : decode cX6_init 20 = .ok (.aload_n 0, 1) := by decide +kernel
theorem dX6_init_21 : decode cX6_init 21 = .ok (.getfield 12, 3) := by decide +kernel
theorem dX6_init_24 : decode cX6_init 24 = .ok (.invokespecial 18, 3) := by decide +kernel
theorem dX6_init_27 : decode cX6_init 27 = .ok (.putfield 21, 3) := by decide +kernel
theorem dX6_init_30 : decode cX6_init 30 = .ok (.aload_n 0, 1) := by decide +kernel
theorem dX6_init_31 : decode cX6_init 31 = .ok (.iconst 0, 1) := by decide +kernel
theorem dX6_init_32 : decode cX6_init 32 = .ok (.putfield 25, 3) := by decide +kernel
theorem dX6_init_35 : decode cX6_init 35 = .ok (.return_, 1) := by decide +kernel
theorem dX6_status_0 : decode cX6_status 0 = .ok (.aload_n 0, 1) := by decide +kernel
theorem dX6_status_1 : decode cX6_status 1 = .ok (.getfield 25, 3) := by decide +kernel
theorem dX6_status_4 : decode cX6_status 4 = .ok (.ireturn, 1) := by decide +kernel
theorem dX6_page_0 : decode cX6_page 0 = .ok (.iload_n 1, 1) := by decide +kernel
theorem dX6_page_1 : decode cX6_page 1 = .ok (.bipush 10, 2) := by decide +kernel
theorem dX6_page_3 : decode cX6_page 3 = .ok (.sipush 400, 3) := by decide +kernel
theorem dX6_page_6 : decode cX6_page 6 = .ok (.invokestatic 29, 3) := by decide +kernel
theorem dX6_page_9 : decode cX6_page 9 = .ok (.ifCond .eq 13, 3) := by decide +kernel
theorem dX6_page_12 : decode cX6_page 12 = .ok (.iload_n 2, 1) := by decide +kernel
theorem dX6_page_13 : decode cX6_page 13 = .ok (.iconst 0, 1) := by decide +kernel
theorem dX6_page_14 : decode cX6_page 14 = .ok (.bipush 20, 2) := by decide +kernel
theorem dX6_page_16 : decode cX6_page 16 = .ok (.invokestatic 29, 3) := by decide +kernel
theorem dX6_page_19 : decode cX6_page 19 = .ok (.ifCond .ne 9, 3) := by decide +kernel
theorem dX6_page_22 : decode cX6_page 22 = .ok (.aload_n 0, 1) := by decide +kernel
theorem dX6_page_23 : decode cX6_page 23 = .ok (.iconst 2, 1) := by decide +kernel
theorem dX6_page_24 : decode cX6_page 24 = .ok (.invokevirtual 33, 3) := by decide +kernel
theorem dX6_page_27 : decode cX6_page 27 = .ok (.ireturn, 1) := by decide +kernel
theorem dX6_page_28 : decode cX6_page 28 = .ok (.aload_n 0, 1) := by decide +kernel
theorem dX6_page_29 : decode cX6_page 29 = .ok (.getfield 12, 3) := by decide +kernel
theorem dX6_page_32 : decode cX6_page 32 = .ok (.iload_n 1, 1) := by decide +kernel
theorem dX6_page_33 : decode cX6_page 33 = .ok (.putfield 37, 3) := by decide +kernel
theorem dX6_page_36 : decode cX6_page 36 = .ok (.aload_n 0, 1) := by decide +kernel
theorem dX6_page_37 : decode cX6_page 37 = .ok (.getfield 12, 3) := by decide +kernel
theorem dX6_page_40 : decode cX6_page 40 = .ok (.iload_n 2, 1) := by decide +kernel
theorem dX6_page_41 : decode cX6_page 41 = .ok (.putfield 40, 3) := by decide +kernel
theorem dX6_page_44 : decode cX6_page 44 = .ok (.aload_n 0, 1) := by decide +kernel
theorem dX6_page_45 : decode cX6_page 45 = .ok (.invokevirtual 43, 3) := by decide +kernel
theorem dX6_page_48 : decode cX6_page 48 = .ok (.ireturn, 1) := by decide +kernel
theorem dX6_line_0 : decode cX6_line 0 = .ok (.iload_n 1, 1) := by decide +kernel
theorem dX6_line_1 : decode cX6_line 1 = .ok (.invokestatic 47, 3) := by decide +kernel
theorem dX6_line_4 : decode cX6_line 4 = .ok (.ifCond .ne 9, 3) := by decide +kernel
theorem dX6_line_7 : decode cX6_line 7 = .ok (.aload_n 0, 1) := by decide +kernel
theorem dX6_line_8 : decode cX6_line 8 = .ok (.iconst 2, 1) := by decide +kernel
theorem dX6_line_9 : decode cX6_line 9 = .ok (.invokevirtual 50, 3) := by decide +kernel
theorem dX6_line_12 : decode cX6_line 12 = .ok (.ireturn, 1) := by decide +kernel
theorem dX6_line_13 : decode cX6_line 13 = .ok (.aload_n 0, 1) := by decide +kernel
theorem dX6_line_14 : decode cX6_line 14 = .ok (.getfield 12, 3) := by decide +kernel
theorem dX6_line_17 : decode cX6_line 17 = .ok (.getfield 54, 3) := by decide +kernel
theorem dX6_line_20 : decode cX6_line 20 = .ok (.bipush 60, 2) := by decide +kernel
theorem dX6_line_22 : decode cX6_line 22 = .ok (.if_icmp .lt 9, 3) := by decide +kernel
theorem dX6_line_25 : decode cX6_line 25 = .ok (.aload_n 0, 1) := by decide +kernel
theorem dX6_line_26 : decode cX6_line 26 = .ok (.iconst 3, 1) := by decide +kernel
theorem dX6_line_27 : decode cX6_line 27 = .ok (.invokevirtual 50, 3) := by decide +kernel
theorem dX6_line_30 : decode cX6_line 30 = .ok (.ireturn, 1) := by decide +kernel
theorem dX6_line_31 : decode cX6_line 31 = .ok (.aload_n 0, 1) := by decide +kernel
theorem dX6_line_32 : decode cX6_line 32 = .ok (.invokevirtual 43, 3) := by decide +kernel
theorem dX6_line_35 : decode cX6_line 35 = .ok (.pop, 1) := by decide +kernel
theorem dX6_line_36 : decode cX6_line 36 = .ok (.aload_n 0, 1) := by decide +kernel
theorem dX6_line_37 : decode cX6_line 37 = .ok (.aload_n 0, 1) := by decide +kernel
theorem dX6_line_38 : decode cX6_line 38 = .ok (.getfield 12, 3) := by decide +kernel
theorem dX6_line_41 : decode cX6_line 41 = .ok (.iload_n 1, 1) := by decide +kernel
theorem dX6_line_42 : decode cX6_line 42 = .ok (.invokevirtual 57, 3) := by decide +kernel
theorem dX6_line_45 : decode cX6_line 45 = .ok (.invokevirtual 60, 3) := by decide +kernel
theorem dX6_line_48 : decode cX6_line 48 = .ok (.ireturn, 1) := by decide +kernel
theorem dX6_change_0 : decode cX6_change 0 = .ok (.aload_n 0, 1) := by decide +kernel
theorem dX6_change_1 : decode cX6_change 1 = .ok (.getfield 12, 3) := by decide +kernel
theorem dX6_change_4 : decode cX6_change 4 = .ok (.iload_n 1, 1) := by decide +kernel
theorem dX6_change_5 : decode cX6_change 5 = .ok (.invokevirtual 63, 3) := by decide +kernel
theorem dX6_change_8 : decode cX6_change 8 = .ok (.ifCond .ne 9, 3) := by decide +kernel
theorem dX6_change_11 : decode cX6_change 11 = .ok (.aload_n 0, 1) := by decide +kernel
theorem dX6_change_12 : decode cX6_change 12 = .ok (.iconst 1, 1) := by decide +kernel
theorem dX6_change_13 : decode cX6_change 13 = .ok (.invokevirtual 33, 3) := by decide +kernel
theorem dX6_change_16 : decode cX6_change 16 = .ok (.ireturn, 1) := by decide +kernel
theorem dX6_change_17 : decode cX6_change 17 = .ok (.iload_n 2, 1) := by decide +kernel
theorem dX6_change_18 : decode cX6_change 18 = .ok (.invokestatic 47, 3) := by decide +kernel
theorem dX6_change_21 : decode cX6_change 21 = .ok (.ifCond .ne 9, 3) := by decide +kernel
theorem dX6_change_24 : decode cX6_change 24 = .ok (.aload_n 0, 1) := by decide +kernel
theorem dX6_change_25 : decode cX6_change 25 = .ok (.iconst 2, 1) := by decide +kernel
theorem dX6_change_26 : decode cX6_change 26 = .ok (.invokevirtual 33, 3) := by decide +kernel
theorem dX6_change_29 : decode cX6_change 29 = .ok (.ireturn, 1) := by decide +kernel
theorem dX6_change_30 : decode cX6_change 30 = .ok (.aload_n 0, 1) := by decide +kernel
theorem dX6_change_31 : decode cX6_change 31 = .ok (.getfield 12, 3) := by decide +kernel
theorem dX6_change_34 : decode cX6_change 34 = .ok (.getfield 66, 3) := by decide +kernel
theorem dX6_change_37 : decode cX6_change 37 = .ok (.iload_n 1, 1) := by decide +kernel
theorem dX6_change_38 : decode cX6_change 38 = .ok (.iload_n 2, 1) := by decide +kernel
theorem dX6_change_39 : decode cX6_change 39 = .ok (.iastore, 1) := by decide +kernel
theorem dX6_change_40 : decode cX6_change 40 = .ok (.aload_n 0, 1) := by decide +kernel
theorem dX6_change_41 : decode cX6_change 41 = .ok (.invokevirtual 43, 3) := by decide +kernel
theorem dX6_change_44 : decode cX6_change 44 = .ok (.ireturn, 1) := by decide +kernel
theorem dX6_note_0 : decode cX6_note 0 = .ok (.aload_n 0, 1) := by decide +kernel
theorem dX6_note_1 : decode cX6_note 1 = .ok (.getfield 12, 3) := by decide +kernel
theorem dX6_note_4 : decode cX6_note 4 = .ok (.iload_n 1, 1) := by decide +kernel
theorem dX6_note_5 : decode cX6_note 5 = .ok (.invokevirtual 63, 3) := by decide +kernel
theorem dX6_note_8 : decode cX6_note 8 = .ok (.ifCond .ne 9, 3) := by decide +kernel
theorem dX6_note_11 : decode cX6_note 11 = .ok (.aload_n 0, 1) := by decide +kernel
theorem dX6_note_12 : decode cX6_note 12 = .ok (.iconst 1, 1) := by decide +kernel
theorem dX6_note_13 : decode cX6_note 13 = .ok (.invokevirtual 50, 3) := by decide +kernel
theorem dX6_note_16 : decode cX6_note 16 = .ok (.ireturn, 1) := by decide +kernel
theorem dX6_note_17 : decode cX6_note 17 = .ok (.iload_n 2, 1) := by decide +kernel
theorem dX6_note_18 : decode cX6_note 18 = .ok (.invokestatic 70, 3) := by decide +kernel
theorem dX6_note_21 : decode cX6_note 21 = .ok (.ifCond .eq 37, 3) := by decide +kernel
theorem dX6_note_24 : decode cX6_note 24 = .ok (.iload_n 3, 1) := by decide +kernel
theorem dX6_note_25 : decode cX6_note 25 = .ok (.iconst 1, 1) := by decide +kernel
theorem dX6_note_26 : decode cX6_note 26 = .ok (.bipush 20, 2) := by decide +kernel
theorem dX6_note_28 : decode cX6_note 28 = .ok (.invokestatic 29, 3) := by decide +kernel
theorem dX6_note_31 : decode cX6_note 31 = .ok (.ifCond .eq 27, 3) := by decide +kernel
theorem dX6_note_34 : decode cX6_note 34 = .ok (.iload 4, 2) := by decide +kernel
theorem dX6_note_36 : decode cX6_note 36 = .ok (.iconst 0, 1) := by decide +kernel
theorem dX6_note_37 : decode cX6_note 37 = .ok (.iconst 2, 1) := by decide +kernel
theorem dX6_note_38 : decode cX6_note 38 = .ok (.invokestatic 29, 3) := by decide +kernel
theorem dX6_note_41 : decode cX6_note 41 = .ok (.ifCond .eq 17, 3) := by decide +kernel
theorem dX6_note_44 : decode cX6_note 44 = .ok (.iload 5, 2) := by decide +kernel
theorem dX6_note_46 : decode cX6_note 46 = .ok (.iconst 0, 1) := by decide +kernel
theorem dX6_note_47 : decode cX6_note 47 = .ok (.iconst 3, 1) := by decide +kernel
theorem dX6_note_48 : decode cX6_note 48 = .ok (.invokestatic 29, 3) := by decide +kernel
theorem dX6_note_51 : decode cX6_note 51 = .ok (.ifCond .eq 7, 3) := by decide +kernel
theorem dX6_note_54 : decode cX6_note 54 = .ok (.iconst 1, 1) := by decide +kernel
theorem dX6_note_55 : decode cX6_note 55 = .ok (.goto 4, 3) := by decide +kernel
theorem dX6_note_58 : decode cX6_note 58 = .ok (.iconst 0, 1) := by decide +kernel
theorem dX6_note_59 : decode cX6_note 59 = .ok (.istore 6, 2) := by decide +kernel
theorem dX6_note_61 : decode cX6_note 61 = .ok (.iload 6, 2) := by decide +kernel
theorem dX6_note_63 : decode cX6_note 63 = .ok (.ifCond .ne 9, 3) := by decide +kernel
theorem dX6_note_66 : decode cX6_note 66 = .ok (.aload_n 0, 1) := by decide +kernel
theorem dX6_note_67 : decode cX6_note 67 = .ok (.iconst 2, 1) := by decide +kernel
theorem dX6_note_68 : decode cX6_note 68 = .ok (.invokevirtual 50, 3) := by decide +kernel
theorem dX6_note_71 : decode cX6_note 71 = .ok (.ireturn, 1) := by decide +kernel
theorem dX6_note_72 : decode cX6_note 72 = .ok (.aload_n 0, 1) := by decide +kernel
theorem dX6_note_73 : decode cX6_note 73 = .ok (.getfield 12, 3) := by decide +kernel
theorem dX6_note_76 : decode cX6_note 76 = .ok (.getfield 73, 3) := by decide +kernel
theorem dX6_note_79 : decode cX6_note 79 = .ok (.bipush 24, 2) := by decide +kernel
theorem dX6_note_81 : decode cX6_note 81 = .ok (.if_icmp .lt 9, 3) := by decide +kernel
theorem dX6_note_84 : decode cX6_note 84 = .ok (.aload_n 0, 1) := by decide +kernel
theorem dX6_note_85 : decode cX6_note 85 = .ok (.iconst 3, 1) := by decide +kernel
theorem dX6_note_86 : decode cX6_note 86 = .ok (.invokevirtual 50, 3) := by decide +kernel
theorem dX6_note_89 : decode cX6_note 89 = .ok (.ireturn, 1) := by decide +kernel
theorem dX6_note_90 : decode cX6_note 90 = .ok (.aload_n 0, 1) := by decide +kernel
theorem dX6_note_91 : decode cX6_note 91 = .ok (.invokevirtual 43, 3) := by decide +kernel
theorem dX6_note_94 : decode cX6_note 94 = .ok (.pop, 1) := by decide +kernel
theorem dX6_note_95 : decode cX6_note 95 = .ok (.aload_n 0, 1) := by decide +kernel
theorem dX6_note_96 : decode cX6_note 96 = .ok (.aload_n 0, 1) := by decide +kernel
theorem dX6_note_97 : decode cX6_note 97 = .ok (.getfield 12, 3) := by decide +kernel
theorem dX6_note_100 : decode cX6_note 100 = .ok (.new 76, 3) := by decide +kernel
theorem dX6_note_103 : decode cX6_note 103 = .ok (.dup, 1) := by decide +kernel
theorem dX6_note_104 : decode cX6_note 104 = .ok (.iload_n 1, 1) := by decide +kernel
theorem dX6_note_105 : decode cX6_note 105 = .ok (.iload_n 2, 1) := by decide +kernel
theorem dX6_note_106 : decode cX6_note 106 = .ok (.iload_n 3, 1) := by decide +kernel
theorem dX6_note_107 : decode cX6_note 107 = .ok (.iload 4, 2) := by decide +kernel
theorem dX6_note_109 : decode cX6_note 109 = .ok (.iload 5, 2) := by decide +kernel
theorem dX6_note_111 : decode cX6_note 111 = .ok (.invokespecial 78, 3) := by decide +kernel
theorem dX6_note_114 : decode cX6_note 114 = .ok (.invokevirtual 81, 3) := by decide +kernel
theorem dX6_note_117 : decode cX6_note 117 = .ok (.invokevirtual 60, 3) := by decide +kernel
theorem dX6_note_120 : decode cX6_note 120 = .ok (.ireturn, 1) := by decide +kernel
theorem dX6_answer_0 : decode cX6_answer 0 = .ok (.aload_n 0, 1) := by decide +kernel
theorem dX6_answer_1 : decode cX6_answer 1 = .ok (.getfield 12, 3) := by decide +kernel
theorem dX6_answer_4 : decode cX6_answer 4 = .ok (.iload_n 1, 1) := by decide +kernel
theorem dX6_answer_5 : decode cX6_answer 5 = .ok (.invokevirtual 85, 3) := by decide +kernel
theorem dX6_answer_8 : decode cX6_answer 8 = .ok (.astore_n 3, 1) := by decide +kernel
theorem dX6_answer_9 : decode cX6_answer 9 = .ok (.aload_n 3, 1) := by decide +kernel
theorem dX6_answer_10 : decode cX6_answer 10 = .ok (.ifnonnull 9, 3) := by decide +kernel
theorem dX6_answer_13 : decode cX6_answer 13 = .ok (.aload_n 0, 1) := by decide +kernel
theorem dX6_answer_14 : decode cX6_answer 14 = .ok (.iconst 1, 1) := by decide +kernel
theorem dX6_answer_15 : decode cX6_answer 15 = .ok (.invokevirtual 50, 3) := by decide +kernel
theorem dX6_answer_18 : decode cX6_answer 18 = .ok (.ireturn, 1) := by decide +kernel
theorem dX6_answer_19 : decode cX6_answer 19 = .ok (.iload_n 2, 1) := by decide +kernel
theorem dX6_answer_20 : decode cX6_answer 20 = .ok (.invokestatic 70, 3) := by decide +kernel
theorem dX6_answer_23 : decode cX6_answer 23 = .ok (.ifCond .ne 9, 3) := by decide +kernel
theorem dX6_answer_26 : decode cX6_answer 26 = .ok (.aload_n 0, 1) := by decide +kernel
theorem dX6_answer_27 : decode cX6_answer 27 = .ok (.iconst 2, 1) := by decide +kernel
theorem dX6_answer_28 : decode cX6_answer 28 = .ok (.invokevirtual 50, 3) := by decide +kernel
theorem dX6_answer_31 : decode cX6_answer 31 = .ok (.ireturn, 1) := by decide +kernel
theorem dX6_answer_32 : decode cX6_answer 32 = .ok (.aload_n 3, 1) := by decide +kernel
theorem dX6_answer_33 : decode cX6_answer 33 = .ok (.getfield 89, 3) := by decide +kernel
theorem dX6_answer_36 : decode cX6_answer 36 = .ok (.iconst 4, 1) := by decide +kernel
theorem dX6_answer_37 : decode cX6_answer 37 = .ok (.if_icmp .lt 9, 3) := by decide +kernel
theorem dX6_answer_40 : decode cX6_answer 40 = .ok (.aload_n 0, 1) := by decide +kernel
theorem dX6_answer_41 : decode cX6_answer 41 = .ok (.iconst 3, 1) := by decide +kernel
theorem dX6_answer_42 : decode cX6_answer 42 = .ok (.invokevirtual 50, 3) := by decide +kernel
theorem dX6_answer_45 : decode cX6_answer 45 = .ok (.ireturn, 1) := by decide +kernel
theorem dX6_answer_46 : decode cX6_answer 46 = .ok (.aload_n 3, 1) := by decide +kernel
theorem dX6_answer_47 : decode cX6_answer 47 = .ok (.getfield 92, 3) := by decide +kernel
theorem dX6_answer_50 : decode cX6_answer 50 = .ok (.ifCond .le 10, 3) := by decide +kernel
theorem dX6_answer_53 : decode cX6_answer 53 = .ok (.aload_n 0, 1) := by decide +kernel
theorem dX6_answer_54 : decode cX6_answer 54 = .ok (.bipush 7, 2) := by decide +kernel
theorem dX6_answer_56 : decode cX6_answer 56 = .ok (.invokevirtual 50, 3) := by decide +kernel
theorem dX6_answer_59 : decode cX6_answer 59 = .ok (.ireturn, 1) := by decide +kernel
theorem dX6_answer_60 : decode cX6_answer 60 = .ok (.aload_n 3, 1) := by decide +kernel
theorem dX6_answer_61 : decode cX6_answer 61 = .ok (.dup, 1) := by decide +kernel
theorem dX6_answer_62 : decode cX6_answer 62 = .ok (.getfield 89, 3) := by decide +kernel
theorem dX6_answer_65 : decode cX6_answer 65 = .ok (.iconst 1, 1) := by decide +kernel
theorem dX6_answer_66 : decode cX6_answer 66 = .ok (.iadd, 1) := by decide +kernel
theorem dX6_answer_67 : decode cX6_answer 67 = .ok (.putfield 89, 3) := by decide +kernel
theorem dX6_answer_70 : decode cX6_answer 70 = .ok (.aload_n 3, 1) := by decide +kernel
theorem dX6_answer_71 : decode cX6_answer 71 = .ok (.dup, 1) := by decide +kernel
theorem dX6_answer_72 : decode cX6_answer 72 = .ok (.getfield 95, 3) := by decide +kernel
theorem dX6_answer_75 : decode cX6_answer 75 = .ok (.iload_n 2, 1) := by decide +kernel
theorem dX6_answer_76 : decode cX6_answer 76 = .ok (.iadd, 1) := by decide +kernel
theorem dX6_answer_77 : decode cX6_answer 77 = .ok (.putfield 95, 3) := by decide +kernel
theorem dX6_answer_80 : decode cX6_answer 80 = .ok (.aload_n 0, 1) := by decide +kernel
theorem dX6_answer_81 : decode cX6_answer 81 = .ok (.invokevirtual 43, 3) := by decide +kernel
theorem dX6_answer_84 : decode cX6_answer 84 = .ok (.pop, 1) := by decide +kernel
theorem dX6_answer_85 : decode cX6_answer 85 = .ok (.aload_n 0, 1) := by decide +kernel
theorem dX6_answer_86 : decode cX6_answer 86 = .ok (.aload_n 3, 1) := by decide +kernel
theorem dX6_answer_87 : decode cX6_answer 87 = .ok (.getfield 89, 3) := by decide +kernel
theorem dX6_answer_90 : decode cX6_answer 90 = .ok (.invokevirtual 60, 3) := by decide +kernel
theorem dX6_answer_93 : decode cX6_answer 93 = .ok (.ireturn, 1) := by decide +kernel
theorem dX6_cut_0 : decode cX6_cut 0 = .ok (.aload_n 0, 1) := by decide +kernel
theorem dX6_cut_1 : decode cX6_cut 1 = .ok (.getfield 12, 3) := by decide +kernel
theorem dX6_cut_4 : decode cX6_cut 4 = .ok (.iload_n 1, 1) := by decide +kernel
theorem dX6_cut_5 : decode cX6_cut 5 = .ok (.invokevirtual 85, 3) := by decide +kernel
theorem dX6_cut_8 : decode cX6_cut 8 = .ok (.astore_n 3, 1) := by decide +kernel
theorem dX6_cut_9 : decode cX6_cut 9 = .ok (.aload_n 3, 1) := by decide +kernel
theorem dX6_cut_10 : decode cX6_cut 10 = .ok (.ifnonnull 9, 3) := by decide +kernel
theorem dX6_cut_13 : decode cX6_cut 13 = .ok (.aload_n 0, 1) := by decide +kernel
theorem dX6_cut_14 : decode cX6_cut 14 = .ok (.iconst 1, 1) := by decide +kernel
theorem dX6_cut_15 : decode cX6_cut 15 = .ok (.invokevirtual 50, 3) := by decide +kernel
theorem dX6_cut_18 : decode cX6_cut 18 = .ok (.ireturn, 1) := by decide +kernel
theorem dX6_cut_19 : decode cX6_cut 19 = .ok (.iload_n 2, 1) := by decide +kernel
theorem dX6_cut_20 : decode cX6_cut 20 = .ok (.iconst 1, 1) := by decide +kernel
theorem dX6_cut_21 : decode cX6_cut 21 = .ok (.aload_n 3, 1) := by decide +kernel
theorem dX6_cut_22 : decode cX6_cut 22 = .ok (.getfield 98, 3) := by decide +kernel
theorem dX6_cut_25 : decode cX6_cut 25 = .ok (.iconst 1, 1) := by decide +kernel
theorem dX6_cut_26 : decode cX6_cut 26 = .ok (.isub, 1) := by decide +kernel
theorem dX6_cut_27 : decode cX6_cut 27 = .ok (.invokestatic 29, 3) := by decide +kernel
theorem dX6_cut_30 : decode cX6_cut 30 = .ok (.ifCond .ne 9, 3) := by decide +kernel
theorem dX6_cut_33 : decode cX6_cut 33 = .ok (.aload_n 0, 1) := by decide +kernel
theorem dX6_cut_34 : decode cX6_cut 34 = .ok (.iconst 2, 1) := by decide +kernel
theorem dX6_cut_35 : decode cX6_cut 35 = .ok (.invokevirtual 50, 3) := by decide +kernel
theorem dX6_cut_38 : decode cX6_cut 38 = .ok (.ireturn, 1) := by decide +kernel
theorem dX6_cut_39 : decode cX6_cut 39 = .ok (.aload_n 3, 1) := by decide +kernel
theorem dX6_cut_40 : decode cX6_cut 40 = .ok (.getfield 92, 3) := by decide +kernel
theorem dX6_cut_43 : decode cX6_cut 43 = .ok (.iconst 3, 1) := by decide +kernel
theorem dX6_cut_44 : decode cX6_cut 44 = .ok (.if_icmp .lt 9, 3) := by decide +kernel
theorem dX6_cut_47 : decode cX6_cut 47 = .ok (.aload_n 0, 1) := by decide +kernel
theorem dX6_cut_48 : decode cX6_cut 48 = .ok (.iconst 3, 1) := by decide +kernel
theorem dX6_cut_49 : decode cX6_cut 49 = .ok (.invokevirtual 50, 3) := by decide +kernel
theorem dX6_cut_52 : decode cX6_cut 52 = .ok (.ireturn, 1) := by decide +kernel
theorem dX6_cut_53 : decode cX6_cut 53 = .ok (.aload_n 3, 1) := by decide +kernel
theorem dX6_cut_54 : decode cX6_cut 54 = .ok (.iload_n 2, 1) := by decide +kernel
theorem dX6_cut_55 : decode cX6_cut 55 = .ok (.invokevirtual 99, 3) := by decide +kernel
theorem dX6_cut_58 : decode cX6_cut 58 = .ok (.ifCond .eq 9, 3) := by decide +kernel
theorem dX6_cut_61 : decode cX6_cut 61 = .ok (.aload_n 0, 1) := by decide +kernel
theorem dX6_cut_62 : decode cX6_cut 62 = .ok (.iconst 4, 1) := by decide +kernel
theorem dX6_cut_63 : decode cX6_cut 63 = .ok (.invokevirtual 50, 3) := by decide +kernel
theorem dX6_cut_66 : decode cX6_cut 66 = .ok (.ireturn, 1) := by decide +kernel
theorem dX6_cut_67 : decode cX6_cut 67 = .ok (.aload_n 3, 1) := by decide +kernel
theorem dX6_cut_68 : decode cX6_cut 68 = .ok (.getfield 89, 3) := by decide +kernel
theorem dX6_cut_71 : decode cX6_cut 71 = .ok (.ifCond .le 10, 3) := by decide +kernel
theorem dX6_cut_74 : decode cX6_cut 74 = .ok (.aload_n 0, 1) := by decide +kernel
theorem dX6_cut_75 : decode cX6_cut 75 = .ok (.bipush 7, 2) := by decide +kernel
theorem dX6_cut_77 : decode cX6_cut 77 = .ok (.invokevirtual 50, 3) := by decide +kernel
theorem dX6_cut_80 : decode cX6_cut 80 = .ok (.ireturn, 1) := by decide +kernel
theorem dX6_cut_81 : decode cX6_cut 81 = .ok (.aload_n 3, 1) := by decide +kernel
theorem dX6_cut_82 : decode cX6_cut 82 = .ok (.iload_n 2, 1) := by decide +kernel
theorem dX6_cut_83 : decode cX6_cut 83 = .ok (.invokevirtual 102, 3) := by decide +kernel
theorem dX6_cut_86 : decode cX6_cut 86 = .ok (.aload_n 0, 1) := by decide +kernel
theorem dX6_cut_87 : decode cX6_cut 87 = .ok (.invokevirtual 43, 3) := by decide +kernel
theorem dX6_cut_90 : decode cX6_cut 90 = .ok (.pop, 1) := by decide +kernel
theorem dX6_cut_91 : decode cX6_cut 91 = .ok (.aload_n 0, 1) := by decide +kernel
theorem dX6_cut_92 : decode cX6_cut 92 = .ok (.aload_n 3, 1) := by decide +kernel
theorem dX6_cut_93 : decode cX6_cut 93 = .ok (.getfield 92, 3) := by decide +kernel
theorem dX6_cut_96 : decode cX6_cut 96 = .ok (.invokevirtual 60, 3) := by decide +kernel
theorem dX6_cut_99 : decode cX6_cut 99 = .ok (.ireturn, 1) := by decide +kernel
theorem dX6_cutting_0 : decode cX6_cutting 0 = .ok (.iload_n 1, 1) := by decide +kernel
theorem dX6_cutting_1 : decode cX6_cutting 1 = .ok (.iconst 0, 1) := by decide +kernel
theorem dX6_cutting_2 : decode cX6_cutting 2 = .ok (.sipush 1000, 3) := by decide +kernel
theorem dX6_cutting_5 : decode cX6_cutting 5 = .ok (.invokestatic 29, 3) := by decide +kernel
theorem dX6_cutting_8 : decode cX6_cutting 8 = .ok (.ifCond .ne 9, 3) := by decide +kernel
theorem dX6_cutting_11 : decode cX6_cutting 11 = .ok (.aload_n 0, 1) := by decide +kernel
theorem dX6_cutting_12 : decode cX6_cutting 12 = .ok (.iconst 2, 1) := by decide +kernel
theorem dX6_cutting_13 : decode cX6_cutting 13 = .ok (.invokevirtual 33, 3) := by decide +kernel
theorem dX6_cutting_16 : decode cX6_cutting 16 = .ok (.ireturn, 1) := by decide +kernel
theorem dX6_cutting_17 : decode cX6_cutting 17 = .ok (.aload_n 0, 1) := by decide +kernel
theorem dX6_cutting_18 : decode cX6_cutting 18 = .ok (.getfield 12, 3) := by decide +kernel
theorem dX6_cutting_21 : decode cX6_cutting 21 = .ok (.iload_n 1, 1) := by decide +kernel
theorem dX6_cutting_22 : decode cX6_cutting 22 = .ok (.putfield 106, 3) := by decide +kernel
theorem dX6_cutting_25 : decode cX6_cutting 25 = .ok (.aload_n 0, 1) := by decide +kernel
theorem dX6_cutting_26 : decode cX6_cutting 26 = .ok (.invokevirtual 43, 3) := by decide +kernel
theorem dX6_cutting_29 : decode cX6_cutting 29 = .ok (.ireturn, 1) := by decide +kernel
theorem dX6_bind_0 : decode cX6_bind 0 = .ok (.aload_n 0, 1) := by decide +kernel
theorem dX6_bind_1 : decode cX6_bind 1 = .ok (.getfield 12, 3) := by decide +kernel
theorem dX6_bind_4 : decode cX6_bind 4 = .ok (.iload_n 1, 1) := by decide +kernel
theorem dX6_bind_5 : decode cX6_bind 5 = .ok (.invokevirtual 85, 3) := by decide +kernel
theorem dX6_bind_8 : decode cX6_bind 8 = .ok (.astore_n 3, 1) := by decide +kernel
theorem dX6_bind_9 : decode cX6_bind 9 = .ok (.aload_n 3, 1) := by decide +kernel
theorem dX6_bind_10 : decode cX6_bind 10 = .ok (.ifnull 19, 3) := by decide +kernel
theorem dX6_bind_13 : decode cX6_bind 13 = .ok (.iload_n 2, 1) := by decide +kernel
theorem dX6_bind_14 : decode cX6_bind 14 = .ok (.iconst (-1), 1) := by decide +kernel
theorem dX6_bind_15 : decode cX6_bind 15 = .ok (.if_icmp .eq 20, 3) := by decide +kernel
theorem dX6_bind_18 : decode cX6_bind 18 = .ok (.aload_n 0, 1) := by decide +kernel
theorem dX6_bind_19 : decode cX6_bind 19 = .ok (.getfield 12, 3) := by decide +kernel
theorem dX6_bind_22 : decode cX6_bind 22 = .ok (.iload_n 2, 1) := by decide +kernel
theorem dX6_bind_23 : decode cX6_bind 23 = .ok (.invokevirtual 63, 3) := by decide +kernel
theorem dX6_bind_26 : decode cX6_bind 26 = .ok (.ifCond .ne 9, 3) := by decide +kernel
theorem dX6_bind_29 : decode cX6_bind 29 = .ok (.aload_n 0, 1) := by decide +kernel
theorem dX6_bind_30 : decode cX6_bind 30 = .ok (.iconst 1, 1) := by decide +kernel
theorem dX6_bind_31 : decode cX6_bind 31 = .ok (.invokevirtual 33, 3) := by decide +kernel
theorem dX6_bind_34 : decode cX6_bind 34 = .ok (.ireturn, 1) := by decide +kernel
theorem dX6_bind_35 : decode cX6_bind 35 = .ok (.iload_n 2, 1) := by decide +kernel
theorem dX6_bind_36 : decode cX6_bind 36 = .ok (.iconst (-1), 1) := by decide +kernel
theorem dX6_bind_37 : decode cX6_bind 37 = .ok (.if_icmp .eq 17, 3) := by decide +kernel
theorem dX6_bind_40 : decode cX6_bind 40 = .ok (.iload_n 2, 1) := by decide +kernel
theorem dX6_bind_41 : decode cX6_bind 41 = .ok (.aload_n 3, 1) := by decide +kernel
theorem dX6_bind_42 : decode cX6_bind 42 = .ok (.getfield 109, 3) := by decide +kernel
theorem dX6_bind_45 : decode cX6_bind 45 = .ok (.if_icmp .ge 9, 3) := by decide +kernel
theorem dX6_bind_48 : decode cX6_bind 48 = .ok (.aload_n 0, 1) := by decide +kernel
theorem dX6_bind_49 : decode cX6_bind 49 = .ok (.iconst 2, 1) := by decide +kernel
theorem dX6_bind_50 : decode cX6_bind 50 = .ok (.invokevirtual 33, 3) := by decide +kernel
theorem dX6_bind_53 : decode cX6_bind 53 = .ok (.ireturn, 1) := by decide +kernel
theorem dX6_bind_54 : decode cX6_bind 54 = .ok (.aload_n 3, 1) := by decide +kernel
theorem dX6_bind_55 : decode cX6_bind 55 = .ok (.iload_n 2, 1) := by decide +kernel
theorem dX6_bind_56 : decode cX6_bind 56 = .ok (.putfield 112, 3) := by decide +kernel
theorem dX6_bind_59 : decode cX6_bind 59 = .ok (.aload_n 0, 1) := by decide +kernel
theorem dX6_bind_60 : decode cX6_bind 60 = .ok (.iload_n 2, 1) := by decide +kernel
theorem dX6_bind_61 : decode cX6_bind 61 = .ok (.invokevirtual 60, 3) := by decide +kernel
theorem dX6_bind_64 : decode cX6_bind 64 = .ok (.pop, 1) := by decide +kernel
theorem dX6_bind_65 : decode cX6_bind 65 = .ok (.iconst 1, 1) := by decide +kernel
theorem dX6_bind_66 : decode cX6_bind 66 = .ok (.ireturn, 1) := by decide +kernel
theorem dX6_fix_0 : decode cX6_fix 0 = .ok (.aload_n 0, 1) := by decide +kernel
theorem dX6_fix_1 : decode cX6_fix 1 = .ok (.getfield 12, 3) := by decide +kernel
theorem dX6_fix_4 : decode cX6_fix 4 = .ok (.iload_n 1, 1) := by decide +kernel
theorem dX6_fix_5 : decode cX6_fix 5 = .ok (.invokevirtual 85, 3) := by decide +kernel
theorem dX6_fix_8 : decode cX6_fix 8 = .ok (.astore_n 3, 1) := by decide +kernel
theorem dX6_fix_9 : decode cX6_fix 9 = .ok (.aload_n 3, 1) := by decide +kernel
theorem dX6_fix_10 : decode cX6_fix 10 = .ok (.ifnonnull 9, 3) := by decide +kernel
theorem dX6_fix_13 : decode cX6_fix 13 = .ok (.aload_n 0, 1) := by decide +kernel
theorem dX6_fix_14 : decode cX6_fix 14 = .ok (.iconst 1, 1) := by decide +kernel
theorem dX6_fix_15 : decode cX6_fix 15 = .ok (.invokevirtual 33, 3) := by decide +kernel
theorem dX6_fix_18 : decode cX6_fix 18 = .ok (.ireturn, 1) := by decide +kernel
theorem dX6_fix_19 : decode cX6_fix 19 = .ok (.iload_n 2, 1) := by decide +kernel
theorem dX6_fix_20 : decode cX6_fix 20 = .ok (.iconst 0, 1) := by decide +kernel
theorem dX6_fix_21 : decode cX6_fix 21 = .ok (.sipush 400, 3) := by decide +kernel
theorem dX6_fix_24 : decode cX6_fix 24 = .ok (.invokestatic 29, 3) := by decide +kernel
theorem dX6_fix_27 : decode cX6_fix 27 = .ok (.ifCond .ne 9, 3) := by decide +kernel
theorem dX6_fix_30 : decode cX6_fix 30 = .ok (.aload_n 0, 1) := by decide +kernel
theorem dX6_fix_31 : decode cX6_fix 31 = .ok (.iconst 2, 1) := by decide +kernel
theorem dX6_fix_32 : decode cX6_fix 32 = .ok (.invokevirtual 33, 3) := by decide +kernel
theorem dX6_fix_35 : decode cX6_fix 35 = .ok (.ireturn, 1) := by decide +kernel
theorem dX6_fix_36 : decode cX6_fix 36 = .ok (.aload_n 3, 1) := by decide +kernel
theorem dX6_fix_37 : decode cX6_fix 37 = .ok (.iload_n 2, 1) := by decide +kernel
theorem dX6_fix_38 : decode cX6_fix 38 = .ok (.putfield 115, 3) := by decide +kernel
theorem dX6_fix_41 : decode cX6_fix 41 = .ok (.aload_n 0, 1) := by decide +kernel
theorem dX6_fix_42 : decode cX6_fix 42 = .ok (.invokevirtual 43, 3) := by decide +kernel
theorem dX6_fix_45 : decode cX6_fix 45 = .ok (.ireturn, 1) := by decide +kernel
theorem dX6_loose_0 : decode cX6_loose 0 = .ok (.aload_n 0, 1) := by decide +kernel
theorem dX6_loose_1 : decode cX6_loose 1 = .ok (.getfield 12, 3) := by decide +kernel
theorem dX6_loose_4 : decode cX6_loose 4 = .ok (.iload_n 1, 1) := by decide +kernel
theorem dX6_loose_5 : decode cX6_loose 5 = .ok (.invokevirtual 85, 3) := by decide +kernel
theorem dX6_loose_8 : decode cX6_loose 8 = .ok (.astore_n 2, 1) := by decide +kernel
theorem dX6_loose_9 : decode cX6_loose 9 = .ok (.aload_n 2, 1) := by decide +kernel
theorem dX6_loose_10 : decode cX6_loose 10 = .ok (.ifnonnull 9, 3) := by decide +kernel
theorem dX6_loose_13 : decode cX6_loose 13 = .ok (.aload_n 0, 1) := by decide +kernel
theorem dX6_loose_14 : decode cX6_loose 14 = .ok (.iconst 1, 1) := by decide +kernel
theorem dX6_loose_15 : decode cX6_loose 15 = .ok (.invokevirtual 33, 3) := by decide +kernel
theorem dX6_loose_18 : decode cX6_loose 18 = .ok (.ireturn, 1) := by decide +kernel
theorem dX6_loose_19 : decode cX6_loose 19 = .ok (.aload_n 2, 1) := by decide +kernel
theorem dX6_loose_20 : decode cX6_loose 20 = .ok (.invokevirtual 118, 3) := by decide +kernel
theorem dX6_loose_23 : decode cX6_loose 23 = .ok (.ifCond .ne 9, 3) := by decide +kernel
theorem dX6_loose_26 : decode cX6_loose 26 = .ok (.aload_n 0, 1) := by decide +kernel
theorem dX6_loose_27 : decode cX6_loose 27 = .ok (.iconst 4, 1) := by decide +kernel
theorem dX6_loose_28 : decode cX6_loose 28 = .ok (.invokevirtual 33, 3) := by decide +kernel
theorem dX6_loose_31 : decode cX6_loose 31 = .ok (.ireturn, 1) := by decide +kernel
theorem dX6_loose_32 : decode cX6_loose 32 = .ok (.aload_n 2, 1) := by decide +kernel
theorem dX6_loose_33 : decode cX6_loose 33 = .ok (.iconst (-1), 1) := by decide +kernel
theorem dX6_loose_34 : decode cX6_loose 34 = .ok (.putfield 115, 3) := by decide +kernel
theorem dX6_loose_37 : decode cX6_loose 37 = .ok (.aload_n 0, 1) := by decide +kernel
theorem dX6_loose_38 : decode cX6_loose 38 = .ok (.invokevirtual 43, 3) := by decide +kernel
theorem dX6_loose_41 : decode cX6_loose 41 = .ok (.ireturn, 1) := by decide +kernel
theorem dX6_move_0 : decode cX6_move 0 = .ok (.aload_n 0, 1) := by decide +kernel
theorem dX6_move_1 : decode cX6_move 1 = .ok (.getfield 12, 3) := by decide +kernel
theorem dX6_move_4 : decode cX6_move 4 = .ok (.iload_n 1, 1) := by decide +kernel
theorem dX6_move_5 : decode cX6_move 5 = .ok (.invokevirtual 85, 3) := by decide +kernel
theorem dX6_move_8 : decode cX6_move 8 = .ok (.astore_n 3, 1) := by decide +kernel
theorem dX6_move_9 : decode cX6_move 9 = .ok (.aload_n 3, 1) := by decide +kernel
theorem dX6_move_10 : decode cX6_move 10 = .ok (.ifnull 14, 3) := by decide +kernel
theorem dX6_move_13 : decode cX6_move 13 = .ok (.aload_n 0, 1) := by decide +kernel
theorem dX6_move_14 : decode cX6_move 14 = .ok (.getfield 12, 3) := by decide +kernel
theorem dX6_move_17 : decode cX6_move 17 = .ok (.iload_n 2, 1) := by decide +kernel
theorem dX6_move_18 : decode cX6_move 18 = .ok (.invokevirtual 63, 3) := by decide +kernel
theorem dX6_move_21 : decode cX6_move 21 = .ok (.ifCond .ne 9, 3) := by decide +kernel
theorem dX6_move_24 : decode cX6_move 24 = .ok (.aload_n 0, 1) := by decide +kernel
theorem dX6_move_25 : decode cX6_move 25 = .ok (.iconst 1, 1) := by decide +kernel
theorem dX6_move_26 : decode cX6_move 26 = .ok (.invokevirtual 33, 3) := by decide +kernel
theorem dX6_move_29 : decode cX6_move 29 = .ok (.ireturn, 1) := by decide +kernel
theorem dX6_move_30 : decode cX6_move 30 = .ok (.aload_n 3, 1) := by decide +kernel
theorem dX6_move_31 : decode cX6_move 31 = .ok (.getfield 109, 3) := by decide +kernel
theorem dX6_move_34 : decode cX6_move 34 = .ok (.iload_n 2, 1) := by decide +kernel
theorem dX6_move_35 : decode cX6_move 35 = .ok (.if_icmp .ne 9, 3) := by decide +kernel
theorem dX6_move_38 : decode cX6_move 38 = .ok (.aload_n 0, 1) := by decide +kernel
theorem dX6_move_39 : decode cX6_move 39 = .ok (.iconst 4, 1) := by decide +kernel
theorem dX6_move_40 : decode cX6_move 40 = .ok (.invokevirtual 33, 3) := by decide +kernel
theorem dX6_move_43 : decode cX6_move 43 = .ok (.ireturn, 1) := by decide +kernel
theorem dX6_move_44 : decode cX6_move 44 = .ok (.aload_n 3, 1) := by decide +kernel
theorem dX6_move_45 : decode cX6_move 45 = .ok (.iload_n 2, 1) := by decide +kernel
theorem dX6_move_46 : decode cX6_move 46 = .ok (.putfield 109, 3) := by decide +kernel
theorem dX6_move_49 : decode cX6_move 49 = .ok (.aload_n 3, 1) := by decide +kernel
theorem dX6_move_50 : decode cX6_move 50 = .ok (.getfield 112, 3) := by decide +kernel
theorem dX6_move_53 : decode cX6_move 53 = .ok (.iload_n 2, 1) := by decide +kernel
theorem dX6_move_54 : decode cX6_move 54 = .ok (.if_icmp .ge 8, 3) := by decide +kernel
theorem dX6_move_57 : decode cX6_move 57 = .ok (.aload_n 3, 1) := by decide +kernel
theorem dX6_move_58 : decode cX6_move 58 = .ok (.iconst (-1), 1) := by decide +kernel
theorem dX6_move_59 : decode cX6_move 59 = .ok (.putfield 112, 3) := by decide +kernel
theorem dX6_move_62 : decode cX6_move 62 = .ok (.aload_n 0, 1) := by decide +kernel
theorem dX6_move_63 : decode cX6_move 63 = .ok (.invokevirtual 43, 3) := by decide +kernel
theorem dX6_move_66 : decode cX6_move 66 = .ok (.ireturn, 1) := by decide +kernel
theorem dX6_show_0 : decode cX6_show 0 = .ok (.iload_n 1, 1) := by decide +kernel
theorem dX6_show_1 : decode cX6_show 1 = .ok (.iconst 0, 1) := by decide +kernel
theorem dX6_show_2 : decode cX6_show 2 = .ok (.bipush 15, 2) := by decide +kernel
theorem dX6_show_4 : decode cX6_show 4 = .ok (.invokestatic 29, 3) := by decide +kernel
theorem dX6_show_7 : decode cX6_show 7 = .ok (.ifCond .ne 9, 3) := by decide +kernel
theorem dX6_show_10 : decode cX6_show 10 = .ok (.aload_n 0, 1) := by decide +kernel
theorem dX6_show_11 : decode cX6_show 11 = .ok (.iconst 2, 1) := by decide +kernel
theorem dX6_show_12 : decode cX6_show 12 = .ok (.invokevirtual 33, 3) := by decide +kernel
theorem dX6_show_15 : decode cX6_show 15 = .ok (.ireturn, 1) := by decide +kernel
theorem dX6_show_16 : decode cX6_show 16 = .ok (.aload_n 0, 1) := by decide +kernel
theorem dX6_show_17 : decode cX6_show 17 = .ok (.getfield 12, 3) := by decide +kernel
theorem dX6_show_20 : decode cX6_show 20 = .ok (.iload_n 1, 1) := by decide +kernel
theorem dX6_show_21 : decode cX6_show 21 = .ok (.putfield 121, 3) := by decide +kernel
theorem dX6_show_24 : decode cX6_show 24 = .ok (.aload_n 0, 1) := by decide +kernel
theorem dX6_show_25 : decode cX6_show 25 = .ok (.invokevirtual 43, 3) := by decide +kernel
theorem dX6_show_28 : decode cX6_show 28 = .ok (.ireturn, 1) := by decide +kernel
theorem dX6_keep_0 : decode cX6_keep 0 = .ok (.aload_n 0, 1) := by decide +kernel
theorem dX6_keep_1 : decode cX6_keep 1 = .ok (.getfield 12, 3) := by decide +kernel
theorem dX6_keep_4 : decode cX6_keep 4 = .ok (.iload_n 1, 1) := by decide +kernel
theorem dX6_keep_5 : decode cX6_keep 5 = .ok (.putfield 124, 3) := by decide +kernel
theorem dX6_keep_8 : decode cX6_keep 8 = .ok (.aload_n 0, 1) := by decide +kernel
theorem dX6_keep_9 : decode cX6_keep 9 = .ok (.invokevirtual 43, 3) := by decide +kernel
theorem dX6_keep_12 : decode cX6_keep 12 = .ok (.ireturn, 1) := by decide +kernel
theorem dX6_told_0 : decode cX6_told 0 = .ok (.aload_n 0, 1) := by decide +kernel
theorem dX6_told_1 : decode cX6_told 1 = .ok (.getfield 12, 3) := by decide +kernel
theorem dX6_told_4 : decode cX6_told 4 = .ok (.iload_n 1, 1) := by decide +kernel
theorem dX6_told_5 : decode cX6_told 5 = .ok (.invokevirtual 85, 3) := by decide +kernel
theorem dX6_told_8 : decode cX6_told 8 = .ok (.astore_n 3, 1) := by decide +kernel
theorem dX6_told_9 : decode cX6_told 9 = .ok (.aload_n 3, 1) := by decide +kernel
theorem dX6_told_10 : decode cX6_told 10 = .ok (.ifnonnull 9, 3) := by decide +kernel
theorem dX6_told_13 : decode cX6_told 13 = .ok (.aload_n 0, 1) := by decide +kernel
theorem dX6_told_14 : decode cX6_told 14 = .ok (.iconst 1, 1) := by decide +kernel
theorem dX6_told_15 : decode cX6_told 15 = .ok (.invokevirtual 50, 3) := by decide +kernel
theorem dX6_told_18 : decode cX6_told 18 = .ok (.ireturn, 1) := by decide +kernel
theorem dX6_told_19 : decode cX6_told 19 = .ok (.iload_n 2, 1) := by decide +kernel
theorem dX6_told_20 : decode cX6_told 20 = .ok (.tableswitch 158 0 9 #[56, 65, 74, 83, 92, 101, 110, 119, 140, 149], 56) := by decide +kernel
theorem dX6_told_76 : decode cX6_told 76 = .ok (.aload_n 0, 1) := by decide +kernel
theorem dX6_told_77 : decode cX6_told 77 = .ok (.aload_n 3, 1) := by decide +kernel
theorem dX6_told_78 : decode cX6_told 78 = .ok (.getfield 109, 3) := by decide +kernel
theorem dX6_told_81 : decode cX6_told 81 = .ok (.invokevirtual 60, 3) := by decide +kernel
theorem dX6_told_84 : decode cX6_told 84 = .ok (.ireturn, 1) := by decide +kernel
theorem dX6_told_85 : decode cX6_told 85 = .ok (.aload_n 0, 1) := by decide +kernel
theorem dX6_told_86 : decode cX6_told 86 = .ok (.aload_n 3, 1) := by decide +kernel
theorem dX6_told_87 : decode cX6_told 87 = .ok (.getfield 98, 3) := by decide +kernel
theorem dX6_told_90 : decode cX6_told 90 = .ok (.invokevirtual 60, 3) := by decide +kernel
theorem dX6_told_93 : decode cX6_told 93 = .ok (.ireturn, 1) := by decide +kernel
theorem dX6_told_94 : decode cX6_told 94 = .ok (.aload_n 0, 1) := by decide +kernel
theorem dX6_told_95 : decode cX6_told 95 = .ok (.aload_n 3, 1) := by decide +kernel
theorem dX6_told_96 : decode cX6_told 96 = .ok (.getfield 128, 3) := by decide +kernel
theorem dX6_told_99 : decode cX6_told 99 = .ok (.invokevirtual 60, 3) := by decide +kernel
theorem dX6_told_102 : decode cX6_told 102 = .ok (.ireturn, 1) := by decide +kernel
theorem dX6_told_103 : decode cX6_told 103 = .ok (.aload_n 0, 1) := by decide +kernel
theorem dX6_told_104 : decode cX6_told 104 = .ok (.aload_n 3, 1) := by decide +kernel
theorem dX6_told_105 : decode cX6_told 105 = .ok (.getfield 131, 3) := by decide +kernel
theorem dX6_told_108 : decode cX6_told 108 = .ok (.invokevirtual 60, 3) := by decide +kernel
theorem dX6_told_111 : decode cX6_told 111 = .ok (.ireturn, 1) := by decide +kernel
theorem dX6_told_112 : decode cX6_told 112 = .ok (.aload_n 0, 1) := by decide +kernel
theorem dX6_told_113 : decode cX6_told 113 = .ok (.aload_n 3, 1) := by decide +kernel
theorem dX6_told_114 : decode cX6_told 114 = .ok (.getfield 134, 3) := by decide +kernel
theorem dX6_told_117 : decode cX6_told 117 = .ok (.invokevirtual 60, 3) := by decide +kernel
theorem dX6_told_120 : decode cX6_told 120 = .ok (.ireturn, 1) := by decide +kernel
theorem dX6_told_121 : decode cX6_told 121 = .ok (.aload_n 0, 1) := by decide +kernel
theorem dX6_told_122 : decode cX6_told 122 = .ok (.aload_n 3, 1) := by decide +kernel
theorem dX6_told_123 : decode cX6_told 123 = .ok (.getfield 95, 3) := by decide +kernel
theorem dX6_told_126 : decode cX6_told 126 = .ok (.invokevirtual 60, 3) := by decide +kernel
theorem dX6_told_129 : decode cX6_told 129 = .ok (.ireturn, 1) := by decide +kernel
theorem dX6_told_130 : decode cX6_told 130 = .ok (.aload_n 0, 1) := by decide +kernel
theorem dX6_told_131 : decode cX6_told 131 = .ok (.aload_n 3, 1) := by decide +kernel
theorem dX6_told_132 : decode cX6_told 132 = .ok (.getfield 115, 3) := by decide +kernel
theorem dX6_told_135 : decode cX6_told 135 = .ok (.invokevirtual 60, 3) := by decide +kernel
theorem dX6_told_138 : decode cX6_told 138 = .ok (.ireturn, 1) := by decide +kernel
theorem dX6_told_139 : decode cX6_told 139 = .ok (.aload_n 0, 1) := by decide +kernel
theorem dX6_told_140 : decode cX6_told 140 = .ok (.aload_n 0, 1) := by decide +kernel
theorem dX6_told_141 : decode cX6_told 141 = .ok (.getfield 12, 3) := by decide +kernel
theorem dX6_told_144 : decode cX6_told 144 = .ok (.aload_n 3, 1) := by decide +kernel
theorem dX6_told_145 : decode cX6_told 145 = .ok (.invokevirtual 137, 3) := by decide +kernel
theorem dX6_told_148 : decode cX6_told 148 = .ok (.ifCond .eq 7, 3) := by decide +kernel
theorem dX6_told_151 : decode cX6_told 151 = .ok (.iconst 1, 1) := by decide +kernel
theorem dX6_told_152 : decode cX6_told 152 = .ok (.goto 4, 3) := by decide +kernel
theorem dX6_told_155 : decode cX6_told 155 = .ok (.iconst 0, 1) := by decide +kernel
theorem dX6_told_156 : decode cX6_told 156 = .ok (.invokevirtual 60, 3) := by decide +kernel
theorem dX6_told_159 : decode cX6_told 159 = .ok (.ireturn, 1) := by decide +kernel
theorem dX6_told_160 : decode cX6_told 160 = .ok (.aload_n 0, 1) := by decide +kernel
theorem dX6_told_161 : decode cX6_told 161 = .ok (.aload_n 3, 1) := by decide +kernel
theorem dX6_told_162 : decode cX6_told 162 = .ok (.getfield 92, 3) := by decide +kernel
theorem dX6_told_165 : decode cX6_told 165 = .ok (.invokevirtual 60, 3) := by decide +kernel
theorem dX6_told_168 : decode cX6_told 168 = .ok (.ireturn, 1) := by decide +kernel
theorem dX6_told_169 : decode cX6_told 169 = .ok (.aload_n 0, 1) := by decide +kernel
theorem dX6_told_170 : decode cX6_told 170 = .ok (.aload_n 3, 1) := by decide +kernel
theorem dX6_told_171 : decode cX6_told 171 = .ok (.getfield 112, 3) := by decide +kernel
theorem dX6_told_174 : decode cX6_told 174 = .ok (.invokevirtual 60, 3) := by decide +kernel
theorem dX6_told_177 : decode cX6_told 177 = .ok (.ireturn, 1) := by decide +kernel
theorem dX6_told_178 : decode cX6_told 178 = .ok (.aload_n 0, 1) := by decide +kernel
theorem dX6_told_179 : decode cX6_told 179 = .ok (.iconst 2, 1) := by decide +kernel
theorem dX6_told_180 : decode cX6_told 180 = .ok (.invokevirtual 50, 3) := by decide +kernel
theorem dX6_told_183 : decode cX6_told 183 = .ok (.ireturn, 1) := by decide +kernel
theorem dX6_pages_0 : decode cX6_pages 0 = .ok (.aload_n 0, 1) := by decide +kernel
theorem dX6_pages_1 : decode cX6_pages 1 = .ok (.getfield 21, 3) := by decide +kernel
theorem dX6_pages_4 : decode cX6_pages 4 = .ok (.invokevirtual 141, 3) := by decide +kernel
theorem dX6_pages_7 : decode cX6_pages 7 = .ok (.aload_n 0, 1) := by decide +kernel
theorem dX6_pages_8 : decode cX6_pages 8 = .ok (.getfield 21, 3) := by decide +kernel
theorem dX6_pages_11 : decode cX6_pages 11 = .ok (.getfield 144, 3) := by decide +kernel
theorem dX6_pages_14 : decode cX6_pages 14 = .ok (.ifCond .eq 17, 3) := by decide +kernel
theorem dX6_pages_17 : decode cX6_pages 17 = .ok (.aload_n 0, 1) := by decide +kernel
theorem dX6_pages_18 : decode cX6_pages 18 = .ok (.aload_n 0, 1) := by decide +kernel
theorem dX6_pages_19 : decode cX6_pages 19 = .ok (.getfield 21, 3) := by decide +kernel
theorem dX6_pages_22 : decode cX6_pages 22 = .ok (.getfield 147, 3) := by decide +kernel
theorem dX6_pages_25 : decode cX6_pages 25 = .ok (.invokevirtual 60, 3) := by decide +kernel
theorem dX6_pages_28 : decode cX6_pages 28 = .ok (.goto 9, 3) := by decide +kernel
theorem dX6_pages_31 : decode cX6_pages 31 = .ok (.aload_n 0, 1) := by decide +kernel
theorem dX6_pages_32 : decode cX6_pages 32 = .ok (.bipush 6, 2) := by decide +kernel
theorem dX6_pages_34 : decode cX6_pages 34 = .ok (.invokevirtual 50, 3) := by decide +kernel
theorem dX6_pages_37 : decode cX6_pages 37 = .ok (.ireturn, 1) := by decide +kernel
theorem dX6_pageOf_0 : decode cX6_pageOf 0 = .ok (.aload_n 0, 1) := by decide +kernel
theorem dX6_pageOf_1 : decode cX6_pageOf 1 = .ok (.getfield 21, 3) := by decide +kernel
theorem dX6_pageOf_4 : decode cX6_pageOf 4 = .ok (.invokevirtual 141, 3) := by decide +kernel
theorem dX6_pageOf_7 : decode cX6_pageOf 7 = .ok (.aload_n 0, 1) := by decide +kernel
theorem dX6_pageOf_8 : decode cX6_pageOf 8 = .ok (.iload_n 1, 1) := by decide +kernel
theorem dX6_pageOf_9 : decode cX6_pageOf 9 = .ok (.invokevirtual 150, 3) := by decide +kernel
theorem dX6_pageOf_12 : decode cX6_pageOf 12 = .ok (.istore_n 2, 1) := by decide +kernel
theorem dX6_pageOf_13 : decode cX6_pageOf 13 = .ok (.iload_n 2, 1) := by decide +kernel
theorem dX6_pageOf_14 : decode cX6_pageOf 14 = .ok (.ifCond .ne 19, 3) := by decide +kernel
theorem dX6_pageOf_17 : decode cX6_pageOf 17 = .ok (.aload_n 0, 1) := by decide +kernel
theorem dX6_pageOf_18 : decode cX6_pageOf 18 = .ok (.aload_n 0, 1) := by decide +kernel
theorem dX6_pageOf_19 : decode cX6_pageOf 19 = .ok (.getfield 21, 3) := by decide +kernel
theorem dX6_pageOf_22 : decode cX6_pageOf 22 = .ok (.getfield 153, 3) := by decide +kernel
theorem dX6_pageOf_25 : decode cX6_pageOf 25 = .ok (.iload_n 1, 1) := by decide +kernel
theorem dX6_pageOf_26 : decode cX6_pageOf 26 = .ok (.iaload, 1) := by decide +kernel
theorem dX6_pageOf_27 : decode cX6_pageOf 27 = .ok (.invokevirtual 60, 3) := by decide +kernel
theorem dX6_pageOf_30 : decode cX6_pageOf 30 = .ok (.goto 8, 3) := by decide +kernel
theorem dX6_pageOf_33 : decode cX6_pageOf 33 = .ok (.aload_n 0, 1) := by decide +kernel
theorem dX6_pageOf_34 : decode cX6_pageOf 34 = .ok (.iload_n 2, 1) := by decide +kernel
theorem dX6_pageOf_35 : decode cX6_pageOf 35 = .ok (.invokevirtual 50, 3) := by decide +kernel
theorem dX6_pageOf_38 : decode cX6_pageOf 38 = .ok (.ireturn, 1) := by decide +kernel
theorem dX6_top_0 : decode cX6_top 0 = .ok (.aload_n 0, 1) := by decide +kernel
theorem dX6_top_1 : decode cX6_top 1 = .ok (.getfield 21, 3) := by decide +kernel
theorem dX6_top_4 : decode cX6_top 4 = .ok (.invokevirtual 141, 3) := by decide +kernel
theorem dX6_top_7 : decode cX6_top 7 = .ok (.aload_n 0, 1) := by decide +kernel
theorem dX6_top_8 : decode cX6_top 8 = .ok (.iload_n 1, 1) := by decide +kernel
theorem dX6_top_9 : decode cX6_top 9 = .ok (.invokevirtual 150, 3) := by decide +kernel
theorem dX6_top_12 : decode cX6_top 12 = .ok (.istore_n 2, 1) := by decide +kernel
theorem dX6_top_13 : decode cX6_top 13 = .ok (.iload_n 2, 1) := by decide +kernel
theorem dX6_top_14 : decode cX6_top 14 = .ok (.ifCond .ne 19, 3) := by decide +kernel
theorem dX6_top_17 : decode cX6_top 17 = .ok (.aload_n 0, 1) := by decide +kernel
theorem dX6_top_18 : decode cX6_top 18 = .ok (.aload_n 0, 1) := by decide +kernel
theorem dX6_top_19 : decode cX6_top 19 = .ok (.getfield 21, 3) := by decide +kernel
theorem dX6_top_22 : decode cX6_top 22 = .ok (.getfield 156, 3) := by decide +kernel
theorem dX6_top_25 : decode cX6_top 25 = .ok (.iload_n 1, 1) := by decide +kernel
theorem dX6_top_26 : decode cX6_top 26 = .ok (.iaload, 1) := by decide +kernel
theorem dX6_top_27 : decode cX6_top 27 = .ok (.invokevirtual 60, 3) := by decide +kernel
theorem dX6_top_30 : decode cX6_top 30 = .ok (.goto 8, 3) := by decide +kernel
theorem dX6_top_33 : decode cX6_top 33 = .ok (.aload_n 0, 1) := by decide +kernel
theorem dX6_top_34 : decode cX6_top 34 = .ok (.iload_n 2, 1) := by decide +kernel
theorem dX6_top_35 : decode cX6_top 35 = .ok (.invokevirtual 50, 3) := by decide +kernel
theorem dX6_top_38 : decode cX6_top 38 = .ok (.ireturn, 1) := by decide +kernel
theorem dX6_side_0 : decode cX6_side 0 = .ok (.aload_n 0, 1) := by decide +kernel
theorem dX6_side_1 : decode cX6_side 1 = .ok (.getfield 21, 3) := by decide +kernel
theorem dX6_side_4 : decode cX6_side 4 = .ok (.invokevirtual 141, 3) := by decide +kernel
theorem dX6_side_7 : decode cX6_side 7 = .ok (.aload_n 0, 1) := by decide +kernel
theorem dX6_side_8 : decode cX6_side 8 = .ok (.getfield 12, 3) := by decide +kernel
theorem dX6_side_11 : decode cX6_side 11 = .ok (.iload_n 1, 1) := by decide +kernel
theorem dX6_side_12 : decode cX6_side 12 = .ok (.invokevirtual 85, 3) := by decide +kernel
theorem dX6_side_15 : decode cX6_side 15 = .ok (.astore_n 2, 1) := by decide +kernel
theorem dX6_side_16 : decode cX6_side 16 = .ok (.aload_n 0, 1) := by decide +kernel
theorem dX6_side_17 : decode cX6_side 17 = .ok (.aload_n 2, 1) := by decide +kernel
theorem dX6_side_18 : decode cX6_side 18 = .ok (.invokevirtual 159, 3) := by decide +kernel
theorem dX6_side_21 : decode cX6_side 21 = .ok (.istore_n 3, 1) := by decide +kernel
theorem dX6_side_22 : decode cX6_side 22 = .ok (.aload_n 2, 1) := by decide +kernel
theorem dX6_side_23 : decode cX6_side 23 = .ok (.ifnull 18, 3) := by decide +kernel
theorem dX6_side_26 : decode cX6_side 26 = .ok (.iload_n 3, 1) := by decide +kernel
theorem dX6_side_27 : decode cX6_side 27 = .ok (.ifCond .ne 14, 3) := by decide +kernel
theorem dX6_side_30 : decode cX6_side 30 = .ok (.aload_n 0, 1) := by decide +kernel
theorem dX6_side_31 : decode cX6_side 31 = .ok (.aload_n 2, 1) := by decide +kernel
theorem dX6_side_32 : decode cX6_side 32 = .ok (.getfield 162, 3) := by decide +kernel
theorem dX6_side_35 : decode cX6_side 35 = .ok (.invokevirtual 60, 3) := by decide +kernel
theorem dX6_side_38 : decode cX6_side 38 = .ok (.goto 8, 3) := by decide +kernel
theorem dX6_side_41 : decode cX6_side 41 = .ok (.aload_n 0, 1) := by decide +kernel
theorem dX6_side_42 : decode cX6_side 42 = .ok (.iload_n 3, 1) := by decide +kernel
theorem dX6_side_43 : decode cX6_side 43 = .ok (.invokevirtual 50, 3) := by decide +kernel
theorem dX6_side_46 : decode cX6_side 46 = .ok (.ireturn, 1) := by decide +kernel
theorem dX6_place_0 : decode cX6_place 0 = .ok (.aload_n 0, 1) := by decide +kernel
theorem dX6_place_1 : decode cX6_place 1 = .ok (.getfield 21, 3) := by decide +kernel
theorem dX6_place_4 : decode cX6_place 4 = .ok (.invokevirtual 141, 3) := by decide +kernel
theorem dX6_place_7 : decode cX6_place 7 = .ok (.aload_n 0, 1) := by decide +kernel
theorem dX6_place_8 : decode cX6_place 8 = .ok (.getfield 12, 3) := by decide +kernel
theorem dX6_place_11 : decode cX6_place 11 = .ok (.iload_n 1, 1) := by decide +kernel
theorem dX6_place_12 : decode cX6_place 12 = .ok (.invokevirtual 85, 3) := by decide +kernel
theorem dX6_place_15 : decode cX6_place 15 = .ok (.astore_n 2, 1) := by decide +kernel
theorem dX6_place_16 : decode cX6_place 16 = .ok (.aload_n 0, 1) := by decide +kernel
theorem dX6_place_17 : decode cX6_place 17 = .ok (.aload_n 2, 1) := by decide +kernel
theorem dX6_place_18 : decode cX6_place 18 = .ok (.invokevirtual 159, 3) := by decide +kernel
theorem dX6_place_21 : decode cX6_place 21 = .ok (.istore_n 3, 1) := by decide +kernel
theorem dX6_place_22 : decode cX6_place 22 = .ok (.aload_n 2, 1) := by decide +kernel
theorem dX6_place_23 : decode cX6_place 23 = .ok (.ifnull 18, 3) := by decide +kernel
theorem dX6_place_26 : decode cX6_place 26 = .ok (.iload_n 3, 1) := by decide +kernel
theorem dX6_place_27 : decode cX6_place 27 = .ok (.ifCond .ne 14, 3) := by decide +kernel
theorem dX6_place_30 : decode cX6_place 30 = .ok (.aload_n 0, 1) := by decide +kernel
theorem dX6_place_31 : decode cX6_place 31 = .ok (.aload_n 2, 1) := by decide +kernel
theorem dX6_place_32 : decode cX6_place 32 = .ok (.getfield 165, 3) := by decide +kernel
theorem dX6_place_35 : decode cX6_place 35 = .ok (.invokevirtual 60, 3) := by decide +kernel
theorem dX6_place_38 : decode cX6_place 38 = .ok (.goto 8, 3) := by decide +kernel
theorem dX6_place_41 : decode cX6_place 41 = .ok (.aload_n 0, 1) := by decide +kernel
theorem dX6_place_42 : decode cX6_place 42 = .ok (.iload_n 3, 1) := by decide +kernel
theorem dX6_place_43 : decode cX6_place 43 = .ok (.invokevirtual 50, 3) := by decide +kernel
theorem dX6_place_46 : decode cX6_place 46 = .ok (.ireturn, 1) := by decide +kernel
theorem dX6_rest_0 : decode cX6_rest 0 = .ok (.aload_n 0, 1) := by decide +kernel
theorem dX6_rest_1 : decode cX6_rest 1 = .ok (.getfield 21, 3) := by decide +kernel
theorem dX6_rest_4 : decode cX6_rest 4 = .ok (.invokevirtual 141, 3) := by decide +kernel
theorem dX6_rest_7 : decode cX6_rest 7 = .ok (.aload_n 0, 1) := by decide +kernel
theorem dX6_rest_8 : decode cX6_rest 8 = .ok (.getfield 12, 3) := by decide +kernel
theorem dX6_rest_11 : decode cX6_rest 11 = .ok (.iload_n 1, 1) := by decide +kernel
theorem dX6_rest_12 : decode cX6_rest 12 = .ok (.invokevirtual 85, 3) := by decide +kernel
theorem dX6_rest_15 : decode cX6_rest 15 = .ok (.astore_n 2, 1) := by decide +kernel
theorem dX6_rest_16 : decode cX6_rest 16 = .ok (.aload_n 0, 1) := by decide +kernel
theorem dX6_rest_17 : decode cX6_rest 17 = .ok (.aload_n 2, 1) := by decide +kernel
theorem dX6_rest_18 : decode cX6_rest 18 = .ok (.invokevirtual 159, 3) := by decide +kernel
theorem dX6_rest_21 : decode cX6_rest 21 = .ok (.istore_n 3, 1) := by decide +kernel
theorem dX6_rest_22 : decode cX6_rest 22 = .ok (.aload_n 2, 1) := by decide +kernel
theorem dX6_rest_23 : decode cX6_rest 23 = .ok (.ifnull 18, 3) := by decide +kernel
theorem dX6_rest_26 : decode cX6_rest 26 = .ok (.iload_n 3, 1) := by decide +kernel
theorem dX6_rest_27 : decode cX6_rest 27 = .ok (.ifCond .ne 14, 3) := by decide +kernel
theorem dX6_rest_30 : decode cX6_rest 30 = .ok (.aload_n 0, 1) := by decide +kernel
theorem dX6_rest_31 : decode cX6_rest 31 = .ok (.aload_n 2, 1) := by decide +kernel
theorem dX6_rest_32 : decode cX6_rest 32 = .ok (.getfield 168, 3) := by decide +kernel
theorem dX6_rest_35 : decode cX6_rest 35 = .ok (.invokevirtual 60, 3) := by decide +kernel
theorem dX6_rest_38 : decode cX6_rest 38 = .ok (.goto 8, 3) := by decide +kernel
theorem dX6_rest_41 : decode cX6_rest 41 = .ok (.aload_n 0, 1) := by decide +kernel
theorem dX6_rest_42 : decode cX6_rest 42 = .ok (.iload_n 3, 1) := by decide +kernel
theorem dX6_rest_43 : decode cX6_rest 43 = .ok (.invokevirtual 50, 3) := by decide +kernel
theorem dX6_rest_46 : decode cX6_rest 46 = .ok (.ireturn, 1) := by decide +kernel
theorem dX6_column_0 : decode cX6_column 0 = .ok (.aload_n 0, 1) := by decide +kernel
theorem dX6_column_1 : decode cX6_column 1 = .ok (.getfield 21, 3) := by decide +kernel
theorem dX6_column_4 : decode cX6_column 4 = .ok (.invokevirtual 141, 3) := by decide +kernel
theorem dX6_column_7 : decode cX6_column 7 = .ok (.aload_n 0, 1) := by decide +kernel
theorem dX6_column_8 : decode cX6_column 8 = .ok (.getfield 12, 3) := by decide +kernel
theorem dX6_column_11 : decode cX6_column 11 = .ok (.iload_n 1, 1) := by decide +kernel
theorem dX6_column_12 : decode cX6_column 12 = .ok (.invokevirtual 85, 3) := by decide +kernel
theorem dX6_column_15 : decode cX6_column 15 = .ok (.astore_n 3, 1) := by decide +kernel
theorem dX6_column_16 : decode cX6_column 16 = .ok (.aload_n 0, 1) := by decide +kernel
theorem dX6_column_17 : decode cX6_column 17 = .ok (.aload_n 3, 1) := by decide +kernel
theorem dX6_column_18 : decode cX6_column 18 = .ok (.iload_n 2, 1) := by decide +kernel
theorem dX6_column_19 : decode cX6_column 19 = .ok (.invokevirtual 171, 3) := by decide +kernel
theorem dX6_column_22 : decode cX6_column 22 = .ok (.istore 4, 2) := by decide +kernel
theorem dX6_column_24 : decode cX6_column 24 = .ok (.aload_n 3, 1) := by decide +kernel
theorem dX6_column_25 : decode cX6_column 25 = .ok (.ifnull 24, 3) := by decide +kernel
theorem dX6_column_28 : decode cX6_column 28 = .ok (.iload 4, 2) := by decide +kernel
theorem dX6_column_30 : decode cX6_column 30 = .ok (.ifCond .ne 19, 3) := by decide +kernel
theorem dX6_column_33 : decode cX6_column 33 = .ok (.aload_n 0, 1) := by decide +kernel
theorem dX6_column_34 : decode cX6_column 34 = .ok (.aload_n 0, 1) := by decide +kernel
theorem dX6_column_35 : decode cX6_column 35 = .ok (.getfield 21, 3) := by decide +kernel
theorem dX6_column_38 : decode cX6_column 38 = .ok (.aload_n 3, 1) := by decide +kernel
theorem dX6_column_39 : decode cX6_column 39 = .ok (.iload_n 2, 1) := by decide +kernel
theorem dX6_column_40 : decode cX6_column 40 = .ok (.invokevirtual 175, 3) := by decide +kernel
theorem dX6_column_43 : decode cX6_column 43 = .ok (.invokevirtual 60, 3) := by decide +kernel
theorem dX6_column_46 : decode cX6_column 46 = .ok (.goto 9, 3) := by decide +kernel
theorem dX6_column_49 : decode cX6_column 49 = .ok (.aload_n 0, 1) := by decide +kernel
theorem dX6_column_50 : decode cX6_column 50 = .ok (.iload 4, 2) := by decide +kernel
theorem dX6_column_52 : decode cX6_column 52 = .ok (.invokevirtual 50, 3) := by decide +kernel
theorem dX6_column_55 : decode cX6_column 55 = .ok (.ireturn, 1) := by decide +kernel
theorem dX6_bracket_0 : decode cX6_bracket 0 = .ok (.aload_n 0, 1) := by decide +kernel
theorem dX6_bracket_1 : decode cX6_bracket 1 = .ok (.getfield 21, 3) := by decide +kernel
theorem dX6_bracket_4 : decode cX6_bracket 4 = .ok (.invokevirtual 141, 3) := by decide +kernel
theorem dX6_bracket_7 : decode cX6_bracket 7 = .ok (.aload_n 0, 1) := by decide +kernel
theorem dX6_bracket_8 : decode cX6_bracket 8 = .ok (.getfield 12, 3) := by decide +kernel
theorem dX6_bracket_11 : decode cX6_bracket 11 = .ok (.iload_n 1, 1) := by decide +kernel
theorem dX6_bracket_12 : decode cX6_bracket 12 = .ok (.invokevirtual 85, 3) := by decide +kernel
theorem dX6_bracket_15 : decode cX6_bracket 15 = .ok (.astore 4, 2) := by decide +kernel
theorem dX6_bracket_17 : decode cX6_bracket 17 = .ok (.aload_n 0, 1) := by decide +kernel
theorem dX6_bracket_18 : decode cX6_bracket 18 = .ok (.aload 4, 2) := by decide +kernel
theorem dX6_bracket_20 : decode cX6_bracket 20 = .ok (.iload_n 2, 1) := by decide +kernel
theorem dX6_bracket_21 : decode cX6_bracket 21 = .ok (.invokevirtual 171, 3) := by decide +kernel
theorem dX6_bracket_24 : decode cX6_bracket 24 = .ok (.istore 5, 2) := by decide +kernel
theorem dX6_bracket_26 : decode cX6_bracket 26 = .ok (.aload 4, 2) := by decide +kernel
theorem dX6_bracket_28 : decode cX6_bracket 28 = .ok (.ifnull 8, 3) := by decide +kernel
theorem dX6_bracket_31 : decode cX6_bracket 31 = .ok (.iload 5, 2) := by decide +kernel
theorem dX6_bracket_33 : decode cX6_bracket 33 = .ok (.ifCond .eq 10, 3) := by decide +kernel
theorem dX6_bracket_36 : decode cX6_bracket 36 = .ok (.aload_n 0, 1) := by decide +kernel
theorem dX6_bracket_37 : decode cX6_bracket 37 = .ok (.iload 5, 2) := by decide +kernel
theorem dX6_bracket_39 : decode cX6_bracket 39 = .ok (.invokevirtual 50, 3) := by decide +kernel
theorem dX6_bracket_42 : decode cX6_bracket 42 = .ok (.ireturn, 1) := by decide +kernel
theorem dX6_bracket_43 : decode cX6_bracket 43 = .ok (.aload_n 0, 1) := by decide +kernel
theorem dX6_bracket_44 : decode cX6_bracket 44 = .ok (.iload_n 3, 1) := by decide +kernel
theorem dX6_bracket_45 : decode cX6_bracket 45 = .ok (.ifCond .eq 16, 3) := by decide +kernel
theorem dX6_bracket_48 : decode cX6_bracket 48 = .ok (.aload_n 0, 1) := by decide +kernel
theorem dX6_bracket_49 : decode cX6_bracket 49 = .ok (.getfield 21, 3) := by decide +kernel
theorem dX6_bracket_52 : decode cX6_bracket 52 = .ok (.aload 4, 2) := by decide +kernel
theorem dX6_bracket_54 : decode cX6_bracket 54 = .ok (.iload_n 2, 1) := by decide +kernel
theorem dX6_bracket_55 : decode cX6_bracket 55 = .ok (.invokevirtual 178, 3) := by decide +kernel
theorem dX6_bracket_58 : decode cX6_bracket 58 = .ok (.goto 13, 3) := by decide +kernel
theorem dX6_bracket_61 : decode cX6_bracket 61 = .ok (.aload_n 0, 1) := by decide +kernel
theorem dX6_bracket_62 : decode cX6_bracket 62 = .ok (.getfield 21, 3) := by decide +kernel
theorem dX6_bracket_65 : decode cX6_bracket 65 = .ok (.aload 4, 2) := by decide +kernel
theorem dX6_bracket_67 : decode cX6_bracket 67 = .ok (.iload_n 2, 1) := by decide +kernel
theorem dX6_bracket_68 : decode cX6_bracket 68 = .ok (.invokevirtual 181, 3) := by decide +kernel
theorem dX6_bracket_71 : decode cX6_bracket 71 = .ok (.invokevirtual 60, 3) := by decide +kernel
theorem dX6_bracket_74 : decode cX6_bracket 74 = .ok (.ireturn, 1) := by decide +kernel
theorem dX6_cost_0 : decode cX6_cost 0 = .ok (.aload_n 0, 1) := by decide +kernel
theorem dX6_cost_1 : decode cX6_cost 1 = .ok (.getfield 21, 3) := by decide +kernel
theorem dX6_cost_4 : decode cX6_cost 4 = .ok (.invokevirtual 141, 3) := by decide +kernel
theorem dX6_cost_7 : decode cX6_cost 7 = .ok (.aload_n 0, 1) := by decide +kernel
theorem dX6_cost_8 : decode cX6_cost 8 = .ok (.iload_n 1, 1) := by decide +kernel
theorem dX6_cost_9 : decode cX6_cost 9 = .ok (.invokevirtual 184, 3) := by decide +kernel
theorem dX6_cost_12 : decode cX6_cost 12 = .ok (.istore_n 2, 1) := by decide +kernel
theorem dX6_cost_13 : decode cX6_cost 13 = .ok (.iload_n 2, 1) := by decide +kernel
theorem dX6_cost_14 : decode cX6_cost 14 = .ok (.ifCond .ne 19, 3) := by decide +kernel
theorem dX6_cost_17 : decode cX6_cost 17 = .ok (.aload_n 0, 1) := by decide +kernel
theorem dX6_cost_18 : decode cX6_cost 18 = .ok (.aload_n 0, 1) := by decide +kernel
theorem dX6_cost_19 : decode cX6_cost 19 = .ok (.getfield 21, 3) := by decide +kernel
theorem dX6_cost_22 : decode cX6_cost 22 = .ok (.getfield 187, 3) := by decide +kernel
theorem dX6_cost_25 : decode cX6_cost 25 = .ok (.iload_n 1, 1) := by decide +kernel
theorem dX6_cost_26 : decode cX6_cost 26 = .ok (.iaload, 1) := by decide +kernel
theorem dX6_cost_27 : decode cX6_cost 27 = .ok (.invokevirtual 60, 3) := by decide +kernel
theorem dX6_cost_30 : decode cX6_cost 30 = .ok (.goto 8, 3) := by decide +kernel
theorem dX6_cost_33 : decode cX6_cost 33 = .ok (.aload_n 0, 1) := by decide +kernel
theorem dX6_cost_34 : decode cX6_cost 34 = .ok (.iload_n 2, 1) := by decide +kernel
theorem dX6_cost_35 : decode cX6_cost 35 = .ok (.invokevirtual 50, 3) := by decide +kernel
theorem dX6_cost_38 : decode cX6_cost 38 = .ok (.ireturn, 1) := by decide +kernel
theorem dX6_runs_0 : decode cX6_runs 0 = .ok (.aload_n 0, 1) := by decide +kernel
theorem dX6_runs_1 : decode cX6_runs 1 = .ok (.getfield 21, 3) := by decide +kernel
theorem dX6_runs_4 : decode cX6_runs 4 = .ok (.invokevirtual 141, 3) := by decide +kernel
theorem dX6_runs_7 : decode cX6_runs 7 = .ok (.iload_n 2, 1) := by decide +kernel
theorem dX6_runs_8 : decode cX6_runs 8 = .ok (.iconst 0, 1) := by decide +kernel
theorem dX6_runs_9 : decode cX6_runs 9 = .ok (.iconst 1, 1) := by decide +kernel
theorem dX6_runs_10 : decode cX6_runs 10 = .ok (.invokestatic 29, 3) := by decide +kernel
theorem dX6_runs_13 : decode cX6_runs 13 = .ok (.ifCond .eq 11, 3) := by decide +kernel
theorem dX6_runs_16 : decode cX6_runs 16 = .ok (.aload_n 0, 1) := by decide +kernel
theorem dX6_runs_17 : decode cX6_runs 17 = .ok (.iload_n 1, 1) := by decide +kernel
theorem dX6_runs_18 : decode cX6_runs 18 = .ok (.invokevirtual 184, 3) := by decide +kernel
theorem dX6_runs_21 : decode cX6_runs 21 = .ok (.goto 4, 3) := by decide +kernel
theorem dX6_runs_24 : decode cX6_runs 24 = .ok (.iconst 2, 1) := by decide +kernel
theorem dX6_runs_25 : decode cX6_runs 25 = .ok (.istore_n 3, 1) := by decide +kernel
theorem dX6_runs_26 : decode cX6_runs 26 = .ok (.iload_n 3, 1) := by decide +kernel
theorem dX6_runs_27 : decode cX6_runs 27 = .ok (.ifCond .ne 19, 3) := by decide +kernel
theorem dX6_runs_30 : decode cX6_runs 30 = .ok (.aload_n 0, 1) := by decide +kernel
theorem dX6_runs_31 : decode cX6_runs 31 = .ok (.aload_n 0, 1) := by decide +kernel
theorem dX6_runs_32 : decode cX6_runs 32 = .ok (.getfield 21, 3) := by decide +kernel
theorem dX6_runs_35 : decode cX6_runs 35 = .ok (.iload_n 1, 1) := by decide +kernel
theorem dX6_runs_36 : decode cX6_runs 36 = .ok (.iload_n 2, 1) := by decide +kernel
theorem dX6_runs_37 : decode cX6_runs 37 = .ok (.invokevirtual 190, 3) := by decide +kernel
theorem dX6_runs_40 : decode cX6_runs 40 = .ok (.invokevirtual 60, 3) := by decide +kernel
theorem dX6_runs_43 : decode cX6_runs 43 = .ok (.goto 8, 3) := by decide +kernel
theorem dX6_runs_46 : decode cX6_runs 46 = .ok (.aload_n 0, 1) := by decide +kernel
theorem dX6_runs_47 : decode cX6_runs 47 = .ok (.iload_n 3, 1) := by decide +kernel
theorem dX6_runs_48 : decode cX6_runs 48 = .ok (.invokevirtual 50, 3) := by decide +kernel
theorem dX6_runs_51 : decode cX6_runs 51 = .ok (.ireturn, 1) := by decide +kernel
theorem dX6_moved_0 : decode cX6_moved 0 = .ok (.aload_n 0, 1) := by decide +kernel
theorem dX6_moved_1 : decode cX6_moved 1 = .ok (.getfield 21, 3) := by decide +kernel
theorem dX6_moved_4 : decode cX6_moved 4 = .ok (.invokevirtual 141, 3) := by decide +kernel
theorem dX6_moved_7 : decode cX6_moved 7 = .ok (.aload_n 0, 1) := by decide +kernel
theorem dX6_moved_8 : decode cX6_moved 8 = .ok (.iload_n 1, 1) := by decide +kernel
theorem dX6_moved_9 : decode cX6_moved 9 = .ok (.invokevirtual 184, 3) := by decide +kernel
theorem dX6_moved_12 : decode cX6_moved 12 = .ok (.istore_n 2, 1) := by decide +kernel
theorem dX6_moved_13 : decode cX6_moved 13 = .ok (.iload_n 2, 1) := by decide +kernel
theorem dX6_moved_14 : decode cX6_moved 14 = .ok (.ifCond .ne 18, 3) := by decide +kernel
theorem dX6_moved_17 : decode cX6_moved 17 = .ok (.aload_n 0, 1) := by decide +kernel
theorem dX6_moved_18 : decode cX6_moved 18 = .ok (.aload_n 0, 1) := by decide +kernel
theorem dX6_moved_19 : decode cX6_moved 19 = .ok (.getfield 21, 3) := by decide +kernel
theorem dX6_moved_22 : decode cX6_moved 22 = .ok (.iload_n 1, 1) := by decide +kernel
theorem dX6_moved_23 : decode cX6_moved 23 = .ok (.invokevirtual 194, 3) := by decide +kernel
theorem dX6_moved_26 : decode cX6_moved 26 = .ok (.invokevirtual 60, 3) := by decide +kernel
theorem dX6_moved_29 : decode cX6_moved 29 = .ok (.goto 8, 3) := by decide +kernel
theorem dX6_moved_32 : decode cX6_moved 32 = .ok (.aload_n 0, 1) := by decide +kernel
theorem dX6_moved_33 : decode cX6_moved 33 = .ok (.iload_n 2, 1) := by decide +kernel
theorem dX6_moved_34 : decode cX6_moved 34 = .ok (.invokevirtual 50, 3) := by decide +kernel
theorem dX6_moved_37 : decode cX6_moved 37 = .ok (.ireturn, 1) := by decide +kernel
theorem dX6_faultOfLine_0 : decode cX6_faultOfLine 0 = .ok (.aload_n 0, 1) := by decide +kernel
theorem dX6_faultOfLine_1 : decode cX6_faultOfLine 1 = .ok (.getfield 12, 3) := by decide +kernel
theorem dX6_faultOfLine_4 : decode cX6_faultOfLine 4 = .ok (.iload_n 1, 1) := by decide +kernel
theorem dX6_faultOfLine_5 : decode cX6_faultOfLine 5 = .ok (.invokevirtual 63, 3) := by decide +kernel
theorem dX6_faultOfLine_8 : decode cX6_faultOfLine 8 = .ok (.ifCond .ne 5, 3) := by decide +kernel
theorem dX6_faultOfLine_11 : decode cX6_faultOfLine 11 = .ok (.iconst 1, 1) := by decide +kernel
theorem dX6_faultOfLine_12 : decode cX6_faultOfLine 12 = .ok (.ireturn, 1) := by decide +kernel
theorem dX6_faultOfLine_13 : decode cX6_faultOfLine 13 = .ok (.aload_n 0, 1) := by decide +kernel
theorem dX6_faultOfLine_14 : decode cX6_faultOfLine 14 = .ok (.getfield 21, 3) := by decide +kernel
theorem dX6_faultOfLine_17 : decode cX6_faultOfLine 17 = .ok (.getfield 144, 3) := by decide +kernel
theorem dX6_faultOfLine_20 : decode cX6_faultOfLine 20 = .ok (.ifCond .eq 7, 3) := by decide +kernel
theorem dX6_faultOfLine_23 : decode cX6_faultOfLine 23 = .ok (.iconst 0, 1) := by decide +kernel
theorem dX6_faultOfLine_24 : decode cX6_faultOfLine 24 = .ok (.goto 5, 3) := by decide +kernel
theorem dX6_faultOfLine_27 : decode cX6_faultOfLine 27 = .ok (.bipush 6, 2) := by decide +kernel
theorem dX6_faultOfLine_29 : decode cX6_faultOfLine 29 = .ok (.ireturn, 1) := by decide +kernel
theorem dX6_faultOfNote_0 : decode cX6_faultOfNote 0 = .ok (.aload_n 1, 1) := by decide +kernel
theorem dX6_faultOfNote_1 : decode cX6_faultOfNote 1 = .ok (.ifnonnull 5, 3) := by decide +kernel
theorem dX6_faultOfNote_4 : decode cX6_faultOfNote 4 = .ok (.iconst 1, 1) := by decide +kernel
theorem dX6_faultOfNote_5 : decode cX6_faultOfNote 5 = .ok (.ireturn, 1) := by decide +kernel
theorem dX6_faultOfNote_6 : decode cX6_faultOfNote 6 = .ok (.aload_n 0, 1) := by decide +kernel
theorem dX6_faultOfNote_7 : decode cX6_faultOfNote 7 = .ok (.getfield 12, 3) := by decide +kernel
theorem dX6_faultOfNote_10 : decode cX6_faultOfNote 10 = .ok (.aload_n 1, 1) := by decide +kernel
theorem dX6_faultOfNote_11 : decode cX6_faultOfNote 11 = .ok (.invokevirtual 137, 3) := by decide +kernel
theorem dX6_faultOfNote_14 : decode cX6_faultOfNote 14 = .ok (.ifCond .ne 5, 3) := by decide +kernel
theorem dX6_faultOfNote_17 : decode cX6_faultOfNote 17 = .ok (.iconst 5, 1) := by decide +kernel
theorem dX6_faultOfNote_18 : decode cX6_faultOfNote 18 = .ok (.ireturn, 1) := by decide +kernel
theorem dX6_faultOfNote_19 : decode cX6_faultOfNote 19 = .ok (.aload_n 0, 1) := by decide +kernel
theorem dX6_faultOfNote_20 : decode cX6_faultOfNote 20 = .ok (.getfield 21, 3) := by decide +kernel
theorem dX6_faultOfNote_23 : decode cX6_faultOfNote 23 = .ok (.getfield 144, 3) := by decide +kernel
theorem dX6_faultOfNote_26 : decode cX6_faultOfNote 26 = .ok (.ifCond .eq 7, 3) := by decide +kernel
theorem dX6_faultOfNote_29 : decode cX6_faultOfNote 29 = .ok (.iconst 0, 1) := by decide +kernel
theorem dX6_faultOfNote_30 : decode cX6_faultOfNote 30 = .ok (.goto 5, 3) := by decide +kernel
theorem dX6_faultOfNote_33 : decode cX6_faultOfNote 33 = .ok (.bipush 6, 2) := by decide +kernel
theorem dX6_faultOfNote_35 : decode cX6_faultOfNote 35 = .ok (.ireturn, 1) := by decide +kernel
theorem dX6_faultOfPage_0 : decode cX6_faultOfPage 0 = .ok (.aload_n 0, 1) := by decide +kernel
theorem dX6_faultOfPage_1 : decode cX6_faultOfPage 1 = .ok (.getfield 21, 3) := by decide +kernel
theorem dX6_faultOfPage_4 : decode cX6_faultOfPage 4 = .ok (.getfield 144, 3) := by decide +kernel
theorem dX6_faultOfPage_7 : decode cX6_faultOfPage 7 = .ok (.ifCond .ne 6, 3) := by decide +kernel
theorem dX6_faultOfPage_10 : decode cX6_faultOfPage 10 = .ok (.bipush 6, 2) := by decide +kernel
theorem dX6_faultOfPage_12 : decode cX6_faultOfPage 12 = .ok (.ireturn, 1) := by decide +kernel
theorem dX6_faultOfPage_13 : decode cX6_faultOfPage 13 = .ok (.aload_n 0, 1) := by decide +kernel
theorem dX6_faultOfPage_14 : decode cX6_faultOfPage 14 = .ok (.getfield 21, 3) := by decide +kernel
theorem dX6_faultOfPage_17 : decode cX6_faultOfPage 17 = .ok (.iload_n 1, 1) := by decide +kernel
theorem dX6_faultOfPage_18 : decode cX6_faultOfPage 18 = .ok (.invokevirtual 197, 3) := by decide +kernel
theorem dX6_faultOfPage_21 : decode cX6_faultOfPage 21 = .ok (.ifCond .eq 7, 3) := by decide +kernel
theorem dX6_faultOfPage_24 : decode cX6_faultOfPage 24 = .ok (.iconst 0, 1) := by decide +kernel
theorem dX6_faultOfPage_25 : decode cX6_faultOfPage 25 = .ok (.goto 4, 3) := by decide +kernel
theorem dX6_faultOfPage_28 : decode cX6_faultOfPage 28 = .ok (.iconst 1, 1) := by decide +kernel
theorem dX6_faultOfPage_29 : decode cX6_faultOfPage 29 = .ok (.ireturn, 1) := by decide +kernel
theorem dX6_faultOfBracket_0 : decode cX6_faultOfBracket 0 = .ok (.aload_n 0, 1) := by decide +kernel
theorem dX6_faultOfBracket_1 : decode cX6_faultOfBracket 1 = .ok (.aload_n 1, 1) := by decide +kernel
theorem dX6_faultOfBracket_2 : decode cX6_faultOfBracket 2 = .ok (.invokevirtual 159, 3) := by decide +kernel
theorem dX6_faultOfBracket_5 : decode cX6_faultOfBracket 5 = .ok (.istore_n 3, 1) := by decide +kernel
theorem dX6_faultOfBracket_6 : decode cX6_faultOfBracket 6 = .ok (.aload_n 1, 1) := by decide +kernel
theorem dX6_faultOfBracket_7 : decode cX6_faultOfBracket 7 = .ok (.ifnull 7, 3) := by decide +kernel
theorem dX6_faultOfBracket_10 : decode cX6_faultOfBracket 10 = .ok (.iload_n 3, 1) := by decide +kernel
theorem dX6_faultOfBracket_11 : decode cX6_faultOfBracket 11 = .ok (.ifCond .eq 5, 3) := by decide +kernel
theorem dX6_faultOfBracket_14 : decode cX6_faultOfBracket 14 = .ok (.iload_n 3, 1) := by decide +kernel
theorem dX6_faultOfBracket_15 : decode cX6_faultOfBracket 15 = .ok (.ireturn, 1) := by decide +kernel
theorem dX6_faultOfBracket_16 : decode cX6_faultOfBracket 16 = .ok (.aload_n 0, 1) := by decide +kernel
theorem dX6_faultOfBracket_17 : decode cX6_faultOfBracket 17 = .ok (.getfield 21, 3) := by decide +kernel
theorem dX6_faultOfBracket_20 : decode cX6_faultOfBracket 20 = .ok (.iload_n 2, 1) := by decide +kernel
theorem dX6_faultOfBracket_21 : decode cX6_faultOfBracket 21 = .ok (.invokevirtual 197, 3) := by decide +kernel
theorem dX6_faultOfBracket_24 : decode cX6_faultOfBracket 24 = .ok (.ifCond .ne 5, 3) := by decide +kernel
theorem dX6_faultOfBracket_27 : decode cX6_faultOfBracket 27 = .ok (.iconst 1, 1) := by decide +kernel
theorem dX6_faultOfBracket_28 : decode cX6_faultOfBracket 28 = .ok (.ireturn, 1) := by decide +kernel
theorem dX6_faultOfBracket_29 : decode cX6_faultOfBracket 29 = .ok (.aload_n 0, 1) := by decide +kernel
theorem dX6_faultOfBracket_30 : decode cX6_faultOfBracket 30 = .ok (.getfield 21, 3) := by decide +kernel
theorem dX6_faultOfBracket_33 : decode cX6_faultOfBracket 33 = .ok (.aload_n 1, 1) := by decide +kernel
theorem dX6_faultOfBracket_34 : decode cX6_faultOfBracket 34 = .ok (.iload_n 2, 1) := by decide +kernel
theorem dX6_faultOfBracket_35 : decode cX6_faultOfBracket 35 = .ok (.invokevirtual 200, 3) := by decide +kernel
theorem dX6_faultOfBracket_38 : decode cX6_faultOfBracket 38 = .ok (.ifCond .eq 7, 3) := by decide +kernel
theorem dX6_faultOfBracket_41 : decode cX6_faultOfBracket 41 = .ok (.iconst 0, 1) := by decide +kernel
theorem dX6_faultOfBracket_42 : decode cX6_faultOfBracket 42 = .ok (.goto 5, 3) := by decide +kernel
theorem dX6_faultOfBracket_45 : decode cX6_faultOfBracket 45 = .ok (.bipush 8, 2) := by decide +kernel
theorem dX6_faultOfBracket_47 : decode cX6_faultOfBracket 47 = .ok (.ireturn, 1) := by decide +kernel
theorem dX6_accept_0 : decode cX6_accept 0 = .ok (.aload_n 0, 1) := by decide +kernel
theorem dX6_accept_1 : decode cX6_accept 1 = .ok (.getfield 21, 3) := by decide +kernel
theorem dX6_accept_4 : decode cX6_accept 4 = .ok (.iconst 1, 1) := by decide +kernel
theorem dX6_accept_5 : decode cX6_accept 5 = .ok (.putfield 204, 3) := by decide +kernel
theorem dX6_accept_8 : decode cX6_accept 8 = .ok (.aload_n 0, 1) := by decide +kernel
theorem dX6_accept_9 : decode cX6_accept 9 = .ok (.iconst 0, 1) := by decide +kernel
theorem dX6_accept_10 : decode cX6_accept 10 = .ok (.putfield 25, 3) := by decide +kernel
theorem dX6_accept_13 : decode cX6_accept 13 = .ok (.iconst 1, 1) := by decide +kernel
theorem dX6_accept_14 : decode cX6_accept 14 = .ok (.ireturn, 1) := by decide +kernel
theorem dX6_refuse_0 : decode cX6_refuse 0 = .ok (.aload_n 0, 1) := by decide +kernel
theorem dX6_refuse_1 : decode cX6_refuse 1 = .ok (.iload_n 1, 1) := by decide +kernel
theorem dX6_refuse_2 : decode cX6_refuse 2 = .ok (.putfield 25, 3) := by decide +kernel
theorem dX6_refuse_5 : decode cX6_refuse 5 = .ok (.iconst 0, 1) := by decide +kernel
theorem dX6_refuse_6 : decode cX6_refuse 6 = .ok (.ireturn, 1) := by decide +kernel
theorem dX6_give_0 : decode cX6_give 0 = .ok (.aload_n 0, 1) := by decide +kernel
theorem dX6_give_1 : decode cX6_give 1 = .ok (.iconst 0, 1) := by decide +kernel
theorem dX6_give_2 : decode cX6_give 2 = .ok (.putfield 25, 3) := by decide +kernel
theorem dX6_give_5 : decode cX6_give 5 = .ok (.iload_n 1, 1) := by decide +kernel
theorem dX6_give_6 : decode cX6_give 6 = .ok (.ireturn, 1) := by decide +kernel
theorem dX6_none_0 : decode cX6_none 0 = .ok (.aload_n 0, 1) := by decide +kernel
theorem dX6_none_1 : decode cX6_none 1 = .ok (.iload_n 1, 1) := by decide +kernel
theorem dX6_none_2 : decode cX6_none 2 = .ok (.putfield 25, 3) := by decide +kernel
theorem dX6_none_5 : decode cX6_none 5 = .ok (.iconst (-1), 1) := by decide +kernel
theorem dX6_none_6 : decode cX6_none 6 = .ok (.ireturn, 1) := by decide +kernel
theorem dX6_within_0 : decode cX6_within 0 = .ok (.iload_n 0, 1) := by decide +kernel
theorem dX6_within_1 : decode cX6_within 1 = .ok (.iload_n 1, 1) := by decide +kernel
theorem dX6_within_2 : decode cX6_within 2 = .ok (.if_icmp .lt 12, 3) := by decide +kernel
theorem dX6_within_5 : decode cX6_within 5 = .ok (.iload_n 0, 1) := by decide +kernel
theorem dX6_within_6 : decode cX6_within 6 = .ok (.iload_n 2, 1) := by decide +kernel
theorem dX6_within_7 : decode cX6_within 7 = .ok (.if_icmp .gt 7, 3) := by decide +kernel
theorem dX6_within_10 : decode cX6_within 10 = .ok (.iconst 1, 1) := by decide +kernel
theorem dX6_within_11 : decode cX6_within 11 = .ok (.goto 4, 3) := by decide +kernel
theorem dX6_within_14 : decode cX6_within 14 = .ok (.iconst 0, 1) := by decide +kernel
theorem dX6_within_15 : decode cX6_within 15 = .ok (.ireturn, 1) := by decide +kernel
theorem dX6_isLineHeight_0 : decode cX6_isLineHeight 0 = .ok (.iload_n 0, 1) := by decide +kernel
theorem dX6_isLineHeight_1 : decode cX6_isLineHeight 1 = .ok (.iconst 1, 1) := by decide +kernel
theorem dX6_isLineHeight_2 : decode cX6_isLineHeight 2 = .ok (.bipush 50, 2) := by decide +kernel
theorem dX6_isLineHeight_4 : decode cX6_isLineHeight 4 = .ok (.invokestatic 29, 3) := by decide +kernel
theorem dX6_isLineHeight_7 : decode cX6_isLineHeight 7 = .ok (.ireturn, 1) := by decide +kernel
theorem dX6_isNoteHeight_0 : decode cX6_isNoteHeight 0 = .ok (.iload_n 0, 1) := by decide +kernel
theorem dX6_isNoteHeight_1 : decode cX6_isNoteHeight 1 = .ok (.iconst 1, 1) := by decide +kernel
theorem dX6_isNoteHeight_2 : decode cX6_isNoteHeight 2 = .ok (.bipush 100, 2) := by decide +kernel
theorem dX6_isNoteHeight_4 : decode cX6_isNoteHeight 4 = .ok (.invokestatic 29, 3) := by decide +kernel
theorem dX6_isNoteHeight_7 : decode cX6_isNoteHeight 7 = .ok (.ireturn, 1) := by decide +kernel
theorem dX7_init_0 : decode cX7_init 0 = .ok (.aload_n 0, 1) := by decide +kernel
theorem dX7_init_1 : decode cX7_init 1 = .ok (.invokespecial 1, 3) := by decide +kernel
theorem dX7_init_4 : decode cX7_init 4 = .ok (.aload_n 0, 1) := by decide +kernel
theorem dX7_init_5 : decode cX7_init 5 = .ok (.bipush 100, 2) := by decide +kernel
theorem dX7_init_7 : decode cX7_init 7 = .ok (.putfield 7, 3) := by decide +kernel
theorem dX7_init_10 : decode cX7_init 10 = .ok (.aload_n 0, 1) := by decide +kernel
theorem dX7_init_11 : decode cX7_init 11 = .ok (.iconst 2, 1) := by decide +kernel
theorem dX7_init_12 : decode cX7_init 12 = .ok (.putfield 13, 3) := by decide +kernel
theorem dX7_init_15 : decode cX7_init 15 = .ok (.aload_n 0, 1) := by decide +kernel
theorem dX7_init_16 : decode cX7_init 16 = .ok (.bipush 50, 2) := by decide +kernel
theorem dX7_init_18 : decode cX7_init 18 = .ok (.putfield 16, 3) := by decide +kernel
theorem dX7_init_21 : decode cX7_init 21 = .ok (.aload_n 0, 1) := by decide +kernel
theorem dX7_init_22 : decode cX7_init 22 = .ok (.bipush 15, 2) := by decide +kernel
theorem dX7_init_24 : decode cX7_init 24 = .ok (.putfield 19, 3) := by decide +kernel
theorem dX7_init_27 : decode cX7_init 27 = .ok (.aload_n 0, 1) := by decide +kernel
theorem dX7_init_28 : decode cX7_init 28 = .ok (.bipush 60, 2) := by decide +kernel
theorem dX7_init_30 : decode cX7_init 30 = .ok (.newarray .int, 2) := by decide +kernel
theorem dX7_init_32 : decode cX7_init 32 = .ok (.putfield 22, 3) := by decide +kernel
theorem dX7_init_35 : decode cX7_init 35 = .ok (.aload_n 0, 1) := by decide +kernel
theorem dX7_init_36 : decode cX7_init 36 = .ok (.bipush 24, 2) := by decide +kernel
theorem dX7_init_38 : decode cX7_init 38 = .ok (.newarray .int, 2) := by decide +kernel
theorem dX7_init_40 : decode cX7_init 40 = .ok (.putfield 26, 3) := by decide +kernel
theorem dX7_init_43 : decode cX7_init 43 = .ok (.aload_n 0, 1) := by decide +kernel
theorem dX7_init_44 : decode cX7_init 44 = .ok (.bipush 24, 2) := by decide +kernel
theorem dX7_init_46 : decode cX7_init 46 = .ok (.newarray .int, 2) := by decide +kernel
theorem dX7_init_48 : decode cX7_init 48 = .ok (.putfield 29, 3) := by decide +kernel
theorem dX7_init_51 : decode cX7_init 51 = .ok (.aload_n 0, 1) := by decide +kernel
theorem dX7_init_52 : decode cX7_init 52 = .ok (.bipush 24, 2) := by decide +kernel
theorem dX7_init_54 : decode cX7_init 54 = .ok (.newarray .int, 2) := by decide +kernel
theorem dX7_init_56 : decode cX7_init 56 = .ok (.putfield 32, 3) := by decide +kernel
theorem dX7_init_59 : decode cX7_init 59 = .ok (.aload_n 0, 1) := by decide +kernel
theorem dX7_init_60 : decode cX7_init 60 = .ok (.bipush 24, 2) := by decide +kernel
theorem dX7_init_62 : decode cX7_init 62 = .ok (.newarray .int, 2) := by decide +kernel
theorem dX7_init_64 : decode cX7_init 64 = .ok (.putfield 35, 3) := by decide +kernel
theorem dX7_init_67 : decode cX7_init 67 = .ok (.aload_n 0, 1) := by decide +kernel
theorem dX7_init_68 : decode cX7_init 68 = .ok (.bipush 24, 2) := by decide +kernel
theorem dX7_init_70 : decode cX7_init 70 = .ok (.newarray .int, 2) := by decide +kernel
theorem dX7_init_72 : decode cX7_init 72 = .ok (.putfield 38, 3) := by decide +kernel
theorem dX7_init_75 : decode cX7_init 75 = .ok (.aload_n 0, 1) := by decide +kernel
theorem dX7_init_76 : decode cX7_init 76 = .ok (.bipush 24, 2) := by decide +kernel
theorem dX7_init_78 : decode cX7_init 78 = .ok (.newarray .int, 2) := by decide +kernel
theorem dX7_init_80 : decode cX7_init 80 = .ok (.putfield 41, 3) := by decide +kernel
theorem dX7_init_83 : decode cX7_init 83 = .ok (.aload_n 0, 1) := by decide +kernel
theorem dX7_init_84 : decode cX7_init 84 = .ok (.bipush 24, 2) := by decide +kernel
theorem dX7_init_86 : decode cX7_init 86 = .ok (.newarray .int, 2) := by decide +kernel
theorem dX7_init_88 : decode cX7_init 88 = .ok (.putfield 44, 3) := by decide +kernel
theorem dX7_init_91 : decode cX7_init 91 = .ok (.aload_n 0, 1) := by decide +kernel
theorem dX7_init_92 : decode cX7_init 92 = .ok (.bipush 24, 2) := by decide +kernel
theorem dX7_init_94 : decode cX7_init 94 = .ok (.newarray .int, 2) := by decide +kernel
theorem dX7_init_96 : decode cX7_init 96 = .ok (.putfield 47, 3) := by decide +kernel
theorem dX7_init_99 : decode cX7_init 99 = .ok (.aload_n 0, 1) := by decide +kernel
theorem dX7_init_100 : decode cX7_init 100 = .ok (.bipush 24, 2) := by decide +kernel
theorem dX7_init_102 : decode cX7_init 102 = .ok (.newarray .int, 2) := by decide +kernel
theorem dX7_init_104 : decode cX7_init 104 = .ok (.putfield 50, 3) := by decide +kernel
theorem dX7_init_107 : decode cX7_init 107 = .ok (.aload_n 0, 1) := by decide +kernel
theorem dX7_init_108 : decode cX7_init 108 = .ok (.bipush 24, 2) := by decide +kernel
theorem dX7_init_110 : decode cX7_init 110 = .ok (.newarray .int, 2) := by decide +kernel
theorem dX7_init_112 : decode cX7_init 112 = .ok (.putfield 53, 3) := by decide +kernel
theorem dX7_init_115 : decode cX7_init 115 = .ok (.aload_n 0, 1) := by decide +kernel
theorem dX7_init_116 : decode cX7_init 116 = .ok (.bipush 72, 2) := by decide +kernel
theorem dX7_init_118 : decode cX7_init 118 = .ok (.newarray .int, 2) := by decide +kernel
theorem dX7_init_120 : decode cX7_init 120 = .ok (.putfield 56, 3) := by decide +kernel
theorem dX7_init_123 : decode cX7_init 123 = .ok (.aload_n 0, 1) := by decide +kernel
theorem dX7_init_124 : decode cX7_init 124 = .ok (.sipush 141, 3) := by decide +kernel
theorem dX7_init_127 : decode cX7_init 127 = .ok (.newarray .int, 2) := by decide +kernel
theorem dX7_init_129 : decode cX7_init 129 = .ok (.putfield 59, 3) := by decide +kernel
theorem dX7_init_132 : decode cX7_init 132 = .ok (.aload_n 0, 1) := by decide +kernel
theorem dX7_init_133 : decode cX7_init 133 = .ok (.sipush 141, 3) := by decide +kernel
theorem dX7_init_136 : decode cX7_init 136 = .ok (.newarray .int, 2) := by decide +kernel
theorem dX7_init_138 : decode cX7_init 138 = .ok (.putfield 62, 3) := by decide +kernel
theorem dX7_init_141 : decode cX7_init 141 = .ok (.aload_n 0, 1) := by decide +kernel
theorem dX7_init_142 : decode cX7_init 142 = .ok (.sipush 282, 3) := by decide +kernel
theorem dX7_init_145 : decode cX7_init 145 = .ok (.newarray .int, 2) := by decide +kernel
theorem dX7_init_147 : decode cX7_init 147 = .ok (.putfield 65, 3) := by decide +kernel
theorem dX7_init_150 : decode cX7_init 150 = .ok (.aload_n 0, 1) := by decide +kernel
theorem dX7_init_151 : decode cX7_init 151 = .ok (.sipush 141, 3) := by decide +kernel
theorem dX7_init_154 : decode cX7_init 154 = .ok (.newarray .long, 2) := by decide +kernel
theorem dX7_init_156 : decode cX7_init 156 = .ok (.putfield 68, 3) := by decide +kernel
theorem dX7_init_159 : decode cX7_init 159 = .ok (.aload_n 0, 1) := by decide +kernel
theorem dX7_init_160 : decode cX7_init 160 = .ok (.bipush 60, 2) := by decide +kernel
theorem dX7_init_162 : decode cX7_init 162 = .ok (.newarray .int, 2) := by decide +kernel
theorem dX7_init_164 : decode cX7_init 164 = .ok (.putfield 72, 3) := by decide +kernel
theorem dX7_init_167 : decode cX7_init 167 = .ok (.aload_n 0, 1) := by decide +kernel
theorem dX7_init_168 : decode cX7_init 168 = .ok (.bipush 60, 2) := by decide +kernel
theorem dX7_init_170 : decode cX7_init 170 = .ok (.newarray .int, 2) := by decide +kernel
theorem dX7_init_172 : decode cX7_init 172 = .ok (.putfield 75, 3) := by decide +kernel
theorem dX7_init_175 : decode cX7_init 175 = .ok (.aload_n 0, 1) := by decide +kernel
theorem dX7_init_176 : decode cX7_init 176 = .ok (.bipush 24, 2) := by decide +kernel
theorem dX7_init_178 : decode cX7_init 178 = .ok (.newarray .int, 2) := by decide +kernel
theorem dX7_init_180 : decode cX7_init 180 = .ok (.putfield 78, 3) := by decide +kernel
theorem dX7_init_183 : decode cX7_init 183 = .ok (.aload_n 0, 1) := by decide +kernel
theorem dX7_init_184 : decode cX7_init 184 = .ok (.bipush 24, 2) := by decide +kernel
theorem dX7_init_186 : decode cX7_init 186 = .ok (.newarray .int, 2) := by decide +kernel
theorem dX7_init_188 : decode cX7_init 188 = .ok (.putfield 81, 3) := by decide +kernel
theorem dX7_init_191 : decode cX7_init 191 = .ok (.aload_n 0, 1) := by decide +kernel
theorem dX7_init_192 : decode cX7_init 192 = .ok (.bipush 24, 2) := by decide +kernel
theorem dX7_init_194 : decode cX7_init 194 = .ok (.newarray .int, 2) := by decide +kernel
theorem dX7_init_196 : decode cX7_init 196 = .ok (.putfield 84, 3) := by decide +kernel
theorem dX7_init_199 : decode cX7_init 199 = .ok (.aload_n 0, 1) := by decide +kernel
theorem dX7_init_200 : decode cX7_init 200 = .ok (.bipush 24, 2) := by decide +kernel
theorem dX7_init_202 : decode cX7_init 202 = .ok (.newarray .int, 2) := by decide +kernel
theorem dX7_init_204 : decode cX7_init 204 = .ok (.putfield 87, 3) := by decide +kernel
theorem dX7_init_207 : decode cX7_init 207 = .ok (.aload_n 0, 1) := by decide +kernel
theorem dX7_init_208 : decode cX7_init 208 = .ok (.bipush 24, 2) := by decide +kernel
theorem dX7_init_210 : decode cX7_init 210 = .ok (.newarray .int, 2) := by decide +kernel
theorem dX7_init_212 : decode cX7_init 212 = .ok (.putfield 90, 3) := by decide +kernel
theorem dX7_init_215 : decode cX7_init 215 = .ok (.aload_n 0, 1) := by decide +kernel
theorem dX7_init_216 : decode cX7_init 216 = .ok (.bipush 24, 2) := by decide +kernel
theorem dX7_init_218 : decode cX7_init 218 = .ok (.newarray .int, 2) := by decide +kernel
theorem dX7_init_220 : decode cX7_init 220 = .ok (.putfield 93, 3) := by decide +kernel
theorem dX7_init_223 : decode cX7_init 223 = .ok (.aload_n 0, 1) := by decide +kernel
theorem dX7_init_224 : decode cX7_init 224 = .ok (.bipush 24, 2) := by decide +kernel
theorem dX7_init_226 : decode cX7_init 226 = .ok (.newarray .int, 2) := by decide +kernel
theorem dX7_init_228 : decode cX7_init 228 = .ok (.putfield 96, 3) := by decide +kernel
theorem dX7_init_231 : decode cX7_init 231 = .ok (.aload_n 0, 1) := by decide +kernel
theorem dX7_init_232 : decode cX7_init 232 = .ok (.bipush 24, 2) := by decide +kernel
theorem dX7_init_234 : decode cX7_init 234 = .ok (.newarray .int, 2) := by decide +kernel
theorem dX7_init_236 : decode cX7_init 236 = .ok (.putfield 99, 3) := by decide +kernel
theorem dX7_init_239 : decode cX7_init 239 = .ok (.aload_n 0, 1) := by decide +kernel
theorem dX7_init_240 : decode cX7_init 240 = .ok (.bipush 24, 2) := by decide +kernel
theorem dX7_init_242 : decode cX7_init 242 = .ok (.newarray .int, 2) := by decide +kernel
theorem dX7_init_244 : decode cX7_init 244 = .ok (.putfield 102, 3) := by decide +kernel
theorem dX7_init_247 : decode cX7_init 247 = .ok (.aload_n 0, 1) := by decide +kernel
theorem dX7_init_248 : decode cX7_init 248 = .ok (.iconst 2, 1) := by decide +kernel
theorem dX7_init_249 : decode cX7_init 249 = .ok (.newarray .int, 2) := by decide +kernel
theorem dX7_init_251 : decode cX7_init 251 = .ok (.putfield 105, 3) := by decide +kernel
theorem dX7_init_254 : decode cX7_init 254 = .ok (.aload_n 0, 1) := by decide +kernel
theorem dX7_init_255 : decode cX7_init 255 = .ok (.iconst 2, 1) := by decide +kernel
theorem dX7_init_256 : decode cX7_init 256 = .ok (.newarray .int, 2) := by decide +kernel
theorem dX7_init_258 : decode cX7_init 258 = .ok (.putfield 108, 3) := by decide +kernel
theorem dX7_init_261 : decode cX7_init 261 = .ok (.aload_n 0, 1) := by decide +kernel
theorem dX7_init_262 : decode cX7_init 262 = .ok (.sipush 10025, 3) := by decide +kernel
theorem dX7_init_265 : decode cX7_init 265 = .ok (.newarray .long, 2) := by decide +kernel
theorem dX7_init_267 : decode cX7_init 267 = .ok (.putfield 111, 3) := by decide +kernel
theorem dX7_init_270 : decode cX7_init 270 = .ok (.aload_n 0, 1) := by decide +kernel
theorem dX7_init_271 : decode cX7_init 271 = .ok (.bipush 24, 2) := by decide +kernel
theorem dX7_init_273 : decode cX7_init 273 = .ok (.newarray .int, 2) := by decide +kernel
theorem dX7_init_275 : decode cX7_init 275 = .ok (.putfield 114, 3) := by decide +kernel
theorem dX7_init_278 : decode cX7_init 278 = .ok (.aload_n 0, 1) := by decide +kernel
theorem dX7_init_279 : decode cX7_init 279 = .ok (.bipush 24, 2) := by decide +kernel
theorem dX7_init_281 : decode cX7_init 281 = .ok (.newarray .int, 2) := by decide +kernel
theorem dX7_init_283 : decode cX7_init 283 = .ok (.putfield 117, 3) := by decide +kernel
theorem dX7_init_286 : decode cX7_init 286 = .ok (.aload_n 0, 1) := by decide +kernel
theorem dX7_init_287 : decode cX7_init 287 = .ok (.bipush 24, 2) := by decide +kernel
theorem dX7_init_289 : decode cX7_init 289 = .ok (.newarray .int, 2) := by decide +kernel
theorem dX7_init_291 : decode cX7_init 291 = .ok (.putfield 120, 3) := by decide +kernel
theorem dX7_init_294 : decode cX7_init 294 = .ok (.return_, 1) := by decide +kernel
theorem dX7_status_0 : decode cX7_status 0 = .ok (.aload_n 0, 1) := by decide +kernel
theorem dX7_status_1 : decode cX7_status 1 = .ok (.iconst 0, 1) := by decide +kernel
theorem dX7_status_2 : decode cX7_status 2 = .ok (.putfield 123, 3) := by decide +kernel
theorem dX7_status_5 : decode cX7_status 5 = .ok (.aload_n 0, 1) := by decide +kernel
theorem dX7_status_6 : decode cX7_status 6 = .ok (.getfield 126, 3) := by decide +kernel
theorem dX7_status_9 : decode cX7_status 9 = .ok (.ireturn, 1) := by decide +kernel
theorem dX7_refuse_0 : decode cX7_refuse 0 = .ok (.aload_n 0, 1) := by decide +kernel
theorem dX7_refuse_1 : decode cX7_refuse 1 = .ok (.iload_n 1, 1) := by decide +kernel
theorem dX7_refuse_2 : decode cX7_refuse 2 = .ok (.putfield 126, 3) := by decide +kernel
theorem dX7_refuse_5 : decode cX7_refuse 5 = .ok (.iconst (-1), 1) := by decide +kernel
theorem dX7_refuse_6 : decode cX7_refuse 6 = .ok (.ireturn, 1) := by decide +kernel
theorem dX7_no_0 : decode cX7_no 0 = .ok (.aload_n 0, 1) := by decide +kernel
theorem dX7_no_1 : decode cX7_no 1 = .ok (.iload_n 1, 1) := by decide +kernel
theorem dX7_no_2 : decode cX7_no 2 = .ok (.putfield 126, 3) := by decide +kernel
theorem dX7_no_5 : decode cX7_no 5 = .ok (.iconst 0, 1) := by decide +kernel
theorem dX7_no_6 : decode cX7_no 6 = .ok (.ireturn, 1) := by decide +kernel
theorem dX7_done_0 : decode cX7_done 0 = .ok (.aload_n 0, 1) := by decide +kernel
theorem dX7_done_1 : decode cX7_done 1 = .ok (.iconst 0, 1) := by decide +kernel
theorem dX7_done_2 : decode cX7_done 2 = .ok (.putfield 129, 3) := by decide +kernel
theorem dX7_done_5 : decode cX7_done 5 = .ok (.iconst 1, 1) := by decide +kernel
theorem dX7_done_6 : decode cX7_done 6 = .ok (.ireturn, 1) := by decide +kernel
theorem dX7_isLine_0 : decode cX7_isLine 0 = .ok (.iload_n 1, 1) := by decide +kernel
theorem dX7_isLine_1 : decode cX7_isLine 1 = .ok (.ifCond .lt 15, 3) := by decide +kernel
theorem dX7_isLine_4 : decode cX7_isLine 4 = .ok (.iload_n 1, 1) := by decide +kernel
theorem dX7_isLine_5 : decode cX7_isLine 5 = .ok (.aload_n 0, 1) := by decide +kernel
theorem dX7_isLine_6 : decode cX7_isLine 6 = .ok (.getfield 133, 3) := by decide +kernel
theorem dX7_isLine_9 : decode cX7_isLine 9 = .ok (.if_icmp .ge 7, 3) := by decide +kernel
theorem dX7_isLine_12 : decode cX7_isLine 12 = .ok (.iconst 1, 1) := by decide +kernel
theorem dX7_isLine_13 : decode cX7_isLine 13 = .ok (.goto 4, 3) := by decide +kernel
theorem dX7_isLine_16 : decode cX7_isLine 16 = .ok (.iconst 0, 1) := by decide +kernel
theorem dX7_isLine_17 : decode cX7_isLine 17 = .ok (.ireturn, 1) := by decide +kernel
theorem dX7_isNote_0 : decode cX7_isNote 0 = .ok (.iload_n 1, 1) := by decide +kernel
theorem dX7_isNote_1 : decode cX7_isNote 1 = .ok (.ifCond .lt 15, 3) := by decide +kernel
theorem dX7_isNote_4 : decode cX7_isNote 4 = .ok (.iload_n 1, 1) := by decide +kernel
theorem dX7_isNote_5 : decode cX7_isNote 5 = .ok (.aload_n 0, 1) := by decide +kernel
theorem dX7_isNote_6 : decode cX7_isNote 6 = .ok (.getfield 136, 3) := by decide +kernel
theorem dX7_isNote_9 : decode cX7_isNote 9 = .ok (.if_icmp .ge 7, 3) := by decide +kernel
theorem dX7_isNote_12 : decode cX7_isNote 12 = .ok (.iconst 1, 1) := by decide +kernel
theorem dX7_isNote_13 : decode cX7_isNote 13 = .ok (.goto 4, 3) := by decide +kernel
theorem dX7_isNote_16 : decode cX7_isNote 16 = .ok (.iconst 0, 1) := by decide +kernel
theorem dX7_isNote_17 : decode cX7_isNote 17 = .ok (.ireturn, 1) := by decide +kernel
theorem dX7_page_0 : decode cX7_page 0 = .ok (.aload_n 0, 1) := by decide +kernel
theorem dX7_page_1 : decode cX7_page 1 = .ok (.iconst 0, 1) := by decide +kernel
theorem dX7_page_2 : decode cX7_page 2 = .ok (.putfield 123, 3) := by decide +kernel
theorem dX7_page_5 : decode cX7_page 5 = .ok (.aload_n 0, 1) := by decide +kernel
theorem dX7_page_6 : decode cX7_page 6 = .ok (.iconst 0, 1) := by decide +kernel
theorem dX7_page_7 : decode cX7_page 7 = .ok (.putfield 126, 3) := by decide +kernel
theorem dX7_page_10 : decode cX7_page 10 = .ok (.iload_n 1, 1) := by decide +kernel
theorem dX7_page_11 : decode cX7_page 11 = .ok (.bipush 10, 2) := by decide +kernel
theorem dX7_page_13 : decode cX7_page 13 = .ok (.if_icmp .lt 20, 3) := by decide +kernel
theorem dX7_page_16 : decode cX7_page 16 = .ok (.iload_n 1, 1) := by decide +kernel
theorem dX7_page_17 : decode cX7_page 17 = .ok (.sipush 400, 3) := by decide +kernel
theorem dX7_page_20 : decode cX7_page 20 = .ok (.if_icmp .gt 13, 3) := by decide +kernel
theorem dX7_page_23 : decode cX7_page 23 = .ok (.iload_n 2, 1) := by decide +kernel
theorem dX7_page_24 : decode cX7_page 24 = .ok (.ifCond .lt 9, 3) := by decide +kernel
theorem dX7_page_27 : decode cX7_page 27 = .ok (.iload_n 2, 1) := by decide +kernel
theorem dX7_page_28 : decode cX7_page 28 = .ok (.bipush 20, 2) := by decide +kernel
theorem dX7_page_30 : decode cX7_page 30 = .ok (.if_icmp .le 9, 3) := by decide +kernel
theorem dX7_page_33 : decode cX7_page 33 = .ok (.aload_n 0, 1) := by decide +kernel
theorem dX7_page_34 : decode cX7_page 34 = .ok (.iconst 2, 1) := by decide +kernel
theorem dX7_page_35 : decode cX7_page 35 = .ok (.invokevirtual 139, 3) := by decide +kernel
theorem dX7_page_38 : decode cX7_page 38 = .ok (.ireturn, 1) := by decide +kernel
theorem dX7_page_39 : decode cX7_page 39 = .ok (.aload_n 0, 1) := by decide +kernel
theorem dX7_page_40 : decode cX7_page 40 = .ok (.iload_n 1, 1) := by decide +kernel
theorem dX7_page_41 : decode cX7_page 41 = .ok (.putfield 7, 3) := by decide +kernel
theorem dX7_page_44 : decode cX7_page 44 = .ok (.aload_n 0, 1) := by decide +kernel
theorem dX7_page_45 : decode cX7_page 45 = .ok (.iload_n 2, 1) := by decide +kernel
theorem dX7_page_46 : decode cX7_page 46 = .ok (.putfield 13, 3) := by decide +kernel
theorem dX7_page_49 : decode cX7_page 49 = .ok (.aload_n 0, 1) := by decide +kernel
theorem dX7_page_50 : decode cX7_page 50 = .ok (.invokevirtual 143, 3) := by decide +kernel
theorem dX7_page_53 : decode cX7_page 53 = .ok (.ireturn, 1) := by decide +kernel
theorem dX7_line_0 : decode cX7_line 0 = .ok (.aload_n 0, 1) := by decide +kernel
theorem dX7_line_1 : decode cX7_line 1 = .ok (.iconst 0, 1) := by decide +kernel
theorem dX7_line_2 : decode cX7_line 2 = .ok (.putfield 123, 3) := by decide +kernel
theorem dX7_line_5 : decode cX7_line 5 = .ok (.aload_n 0, 1) := by decide +kernel
theorem dX7_line_6 : decode cX7_line 6 = .ok (.iconst 0, 1) := by decide +kernel
theorem dX7_line_7 : decode cX7_line 7 = .ok (.putfield 126, 3) := by decide +kernel
theorem dX7_line_10 : decode cX7_line 10 = .ok (.iload_n 1, 1) := by decide +kernel
theorem dX7_line_11 : decode cX7_line 11 = .ok (.iconst 1, 1) := by decide +kernel
theorem dX7_line_12 : decode cX7_line 12 = .ok (.if_icmp .lt 9, 3) := by decide +kernel
theorem dX7_line_15 : decode cX7_line 15 = .ok (.iload_n 1, 1) := by decide +kernel
theorem dX7_line_16 : decode cX7_line 16 = .ok (.bipush 50, 2) := by decide +kernel
theorem dX7_line_18 : decode cX7_line 18 = .ok (.if_icmp .le 9, 3) := by decide +kernel
theorem dX7_line_21 : decode cX7_line 21 = .ok (.aload_n 0, 1) := by decide +kernel
theorem dX7_line_22 : decode cX7_line 22 = .ok (.iconst 2, 1) := by decide +kernel
theorem dX7_line_23 : decode cX7_line 23 = .ok (.invokevirtual 147, 3) := by decide +kernel
theorem dX7_line_26 : decode cX7_line 26 = .ok (.ireturn, 1) := by decide +kernel
theorem dX7_line_27 : decode cX7_line 27 = .ok (.aload_n 0, 1) := by decide +kernel
theorem dX7_line_28 : decode cX7_line 28 = .ok (.getfield 133, 3) := by decide +kernel
theorem dX7_line_31 : decode cX7_line 31 = .ok (.bipush 60, 2) := by decide +kernel
theorem dX7_line_33 : decode cX7_line 33 = .ok (.if_icmp .ne 9, 3) := by decide +kernel
theorem dX7_line_36 : decode cX7_line 36 = .ok (.aload_n 0, 1) := by decide +kernel
theorem dX7_line_37 : decode cX7_line 37 = .ok (.iconst 3, 1) := by decide +kernel
theorem dX7_line_38 : decode cX7_line 38 = .ok (.invokevirtual 147, 3) := by decide +kernel
theorem dX7_line_41 : decode cX7_line 41 = .ok (.ireturn, 1) := by decide +kernel
theorem dX7_line_42 : decode cX7_line 42 = .ok (.aload_n 0, 1) := by decide +kernel
theorem dX7_line_43 : decode cX7_line 43 = .ok (.getfield 22, 3) := by decide +kernel
theorem dX7_line_46 : decode cX7_line 46 = .ok (.aload_n 0, 1) := by decide +kernel
theorem dX7_line_47 : decode cX7_line 47 = .ok (.getfield 133, 3) := by decide +kernel
theorem dX7_line_50 : decode cX7_line 50 = .ok (.iload_n 1, 1) := by decide +kernel
theorem dX7_line_51 : decode cX7_line 51 = .ok (.iastore, 1) := by decide +kernel
theorem dX7_line_52 : decode cX7_line 52 = .ok (.aload_n 0, 1) := by decide +kernel
theorem dX7_line_53 : decode cX7_line 53 = .ok (.dup, 1) := by decide +kernel
theorem dX7_line_54 : decode cX7_line 54 = .ok (.getfield 133, 3) := by decide +kernel
theorem dX7_line_57 : decode cX7_line 57 = .ok (.iconst 1, 1) := by decide +kernel
theorem dX7_line_58 : decode cX7_line 58 = .ok (.iadd, 1) := by decide +kernel
theorem dX7_line_59 : decode cX7_line 59 = .ok (.putfield 133, 3) := by decide +kernel
theorem dX7_line_62 : decode cX7_line 62 = .ok (.aload_n 0, 1) := by decide +kernel
theorem dX7_line_63 : decode cX7_line 63 = .ok (.invokevirtual 143, 3) := by decide +kernel
theorem dX7_line_66 : decode cX7_line 66 = .ok (.pop, 1) := by decide +kernel
theorem dX7_line_67 : decode cX7_line 67 = .ok (.aload_n 0, 1) := by decide +kernel
theorem dX7_line_68 : decode cX7_line 68 = .ok (.getfield 133, 3) := by decide +kernel
theorem dX7_line_71 : decode cX7_line 71 = .ok (.iconst 1, 1) := by decide +kernel
theorem dX7_line_72 : decode cX7_line 72 = .ok (.isub, 1) := by decide +kernel
theorem dX7_line_73 : decode cX7_line 73 = .ok (.ireturn, 1) := by decide +kernel
theorem dX7_change_0 : decode cX7_change 0 = .ok (.aload_n 0, 1) := by decide +kernel
theorem dX7_change_1 : decode cX7_change 1 = .ok (.iconst 0, 1) := by decide +kernel
theorem dX7_change_2 : decode cX7_change 2 = .ok (.putfield 123, 3) := by decide +kernel
theorem dX7_change_5 : decode cX7_change 5 = .ok (.aload_n 0, 1) := by decide +kernel
theorem dX7_change_6 : decode cX7_change 6 = .ok (.iconst 0, 1) := by decide +kernel
theorem dX7_change_7 : decode cX7_change 7 = .ok (.putfield 126, 3) := by decide +kernel
theorem dX7_change_10 : decode cX7_change 10 = .ok (.aload_n 0, 1) := by decide +kernel
theorem dX7_change_11 : decode cX7_change 11 = .ok (.iload_n 1, 1) := by decide +kernel
theorem dX7_change_12 : decode cX7_change 12 = .ok (.invokevirtual 151, 3) := by decide +kernel
theorem dX7_change_15 : decode cX7_change 15 = .ok (.ifCond .ne 9, 3) := by decide +kernel
theorem dX7_change_18 : decode cX7_change 18 = .ok (.aload_n 0, 1) := by decide +kernel
theorem dX7_change_19 : decode cX7_change 19 = .ok (.iconst 1, 1) := by decide +kernel
theorem dX7_change_20 : decode cX7_change 20 = .ok (.invokevirtual 139, 3) := by decide +kernel
theorem dX7_change_23 : decode cX7_change 23 = .ok (.ireturn, 1) := by decide +kernel
theorem dX7_change_24 : decode cX7_change 24 = .ok (.iload_n 2, 1) := by decide +kernel
theorem dX7_change_25 : decode cX7_change 25 = .ok (.iconst 1, 1) := by decide +kernel
theorem dX7_change_26 : decode cX7_change 26 = .ok (.if_icmp .lt 9, 3) := by decide +kernel
theorem dX7_change_29 : decode cX7_change 29 = .ok (.iload_n 2, 1) := by decide +kernel
theorem dX7_change_30 : decode cX7_change 30 = .ok (.bipush 50, 2) := by decide +kernel
theorem dX7_change_32 : decode cX7_change 32 = .ok (.if_icmp .le 9, 3) := by decide +kernel
theorem dX7_change_35 : decode cX7_change 35 = .ok (.aload_n 0, 1) := by decide +kernel
theorem dX7_change_36 : decode cX7_change 36 = .ok (.iconst 2, 1) := by decide +kernel
