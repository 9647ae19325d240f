theorem dX9_init_0 : decode cX9_init 0 = .ok (.aload_n 0, 1) := by decide +kernel
theorem dX9_init_1 : decode cX9_init 1 = .ok (.invokespecial 3, 3) := by decide +kernel
theorem dX9_init_4 : decode cX9_init 4 = .ok (.aload_n 0, 1) := by decide +kernel
theorem dX9_init_5 : decode cX9_init 5 = .ok (.new 9, 3) := by decide +kernel
theorem dX9_init_8 : decode cX9_init 8 = .ok (.dup, 1) := by decide +kernel
theorem dX9_init_9 : decode cX9_init 9 = .ok (.invokespecial 11, 3) := by decide +kernel
theorem dX9_init_12 : decode cX9_init 12 = .ok (.putfield 12, 3) := by decide +kernel
theorem dX9_init_15 : decode cX9_init 15 = .ok (.aload_n 0, 1) := by decide +kernel
theorem dX9_init_16 : decode cX9_init 16 = .ok (.new 16, 3) := by decide +kernel
theorem dX9_init_19 : decode cX9_init 19 = .ok (.dup, 1) := by decide +kernel
theorem dX9_init_20 : decode cX9_init 20 = .ok (.invokespecial 18, 3) := by decide +kernel
theorem dX9_init_23 : decode cX9_init 23 = .ok (.putfield 19, 3) := by decide +kernel
theorem dX9_init_26 : decode cX9_init 26 = .ok (.aload_n 0, 1) := by decide +kernel
theorem dX9_init_27 : decode cX9_init 27 = .ok (.new 16, 3) := by decide +kernel
theorem dX9_init_30 : decode cX9_init 30 = .ok (.dup, 1) := by decide +kernel
theorem dX9_init_31 : decode cX9_init 31 = .ok (.invokespecial 18, 3) := by decide +kernel
theorem dX9_init_34 : decode cX9_init 34 = .ok (.putfield 23, 3) := by decide +kernel
theorem dX9_init_37 : decode cX9_init 37 = .ok (.aload_n 0, 1) := by decide +kernel
theorem dX9_init_38 : decode cX9_init 38 = .ok (.new 26, 3) := by decide +kernel
theorem dX9_init_41 : decode cX9_init 41 = .ok (.dup, 1) := by decide +kernel
theorem dX9_init_42 : decode cX9_init 42 = .ok (.invokespecial 28, 3) := by decide +kernel
theorem dX9_init_45 : decode cX9_init 45 = .ok (.putfield 29, 3) := by decide +kernel
theorem dX9_init_48 : decode cX9_init 48 = .ok (.aload_n 0, 1) := by decide +kernel
theorem dX9_init_49 : decode cX9_init 49 = .ok (.new 33, 3) := by decide +kernel
theorem dX9_init_52 : decode cX9_init 52 = .ok (.dup, 1) := by decide +kernel
theorem dX9_init_53 : decode cX9_init 53 = .ok (.invokespecial 35, 3) := by decide +kernel
theorem dX9_init_56 : decode cX9_init 56 = .ok (.putfield 36, 3) := by decide +kernel
theorem dX9_init_59 : decode cX9_init 59 = .ok (.aload_n 0, 1) := by decide +kernel
theorem dX9_init_60 : decode cX9_init 60 = .ok (.iconst 2, 1) := by decide +kernel
theorem dX9_init_61 : decode cX9_init 61 = .ok (.anewarray 40, 3) := by decide +kernel
theorem dX9_init_64 : decode cX9_init 64 = .ok (.putfield 42, 3) := by decide +kernel
theorem dX9_init_67 : decode cX9_init 67 = .ok (.aload_n 0, 1) := by decide +kernel
theorem dX9_init_68 : decode cX9_init 68 = .ok (.new 46, 3) := by decide +kernel
theorem dX9_init_71 : decode cX9_init 71 = .ok (.dup, 1) := by decide +kernel
theorem dX9_init_72 : decode cX9_init 72 = .ok (.invokespecial 48, 3) := by decide +kernel
theorem dX9_init_75 : decode cX9_init 75 = .ok (.putfield 49, 3) := by decide +kernel
theorem dX9_init_78 : decode cX9_init 78 = .ok (.aload_n 0, 1) := by decide +kernel
theorem dX9_init_79 : decode cX9_init 79 = .ok (.new 53, 3) := by decide +kernel
theorem dX9_init_82 : decode cX9_init 82 = .ok (.dup, 1) := by decide +kernel
theorem dX9_init_83 : decode cX9_init 83 = .ok (.invokespecial 55, 3) := by decide +kernel
theorem dX9_init_86 : decode cX9_init 86 = .ok (.putfield 56, 3) := by decide +kernel
theorem dX9_init_89 : decode cX9_init 89 = .ok (.aload_n 0, 1) := by decide +kernel
theorem dX9_init_90 : decode cX9_init 90 = .ok (.new 60, 3) := by decide +kernel
theorem dX9_init_93 : decode cX9_init 93 = .ok (.dup, 1) := by decide +kernel
theorem dX9_init_94 : decode cX9_init 94 = .ok (.invokespecial 62, 3) := by decide +kernel
theorem dX9_init_97 : decode cX9_init 97 = .ok (.putfield 63, 3) := by decide +kernel
theorem dX9_init_100 : decode cX9_init 100 = .ok (.aload_n 0, 1) := by decide +kernel
theorem dX9_init_101 : decode cX9_init 101 = .ok (.new 67, 3) := by decide +kernel
theorem dX9_init_104 : decode cX9_init 104 = .ok (.dup, 1) := by decide +kernel
theorem dX9_init_105 : decode cX9_init 105 = .ok (.invokespecial 69, 3) := by decide +kernel
theorem dX9_init_108 : decode cX9_init 108 = .ok (.putfield 70, 3) := by decide +kernel
theorem dX9_init_111 : decode cX9_init 111 = .ok (.iconst 0, 1) := by decide +kernel
theorem dX9_init_112 : decode cX9_init 112 = .ok (.istore_n 1, 1) := by decide +kernel
theorem dX9_init_113 : decode cX9_init 113 = .ok (.iload_n 1, 1) := by decide +kernel
theorem dX9_init_114 : decode cX9_init 114 = .ok (.iconst 2, 1) := by decide +kernel
theorem dX9_init_115 : decode cX9_init 115 = .ok (.if_icmp .ge 22, 3) := by decide +kernel
theorem dX9_init_118 : decode cX9_init 118 = .ok (.aload_n 0, 1) := by decide +kernel
theorem dX9_init_119 : decode cX9_init 119 = .ok (.getfield 42, 3) := by decide +kernel
theorem dX9_init_122 : decode cX9_init 122 = .ok (.iload_n 1, 1) := by decide +kernel
theorem dX9_init_123 : decode cX9_init 123 = .ok (.new 40, 3) := by decide +kernel
theorem dX9_init_126 : decode cX9_init 126 = .ok (.dup, 1) := by decide +kernel
theorem dX9_init_127 : decode cX9_init 127 = .ok (.invokespecial 74, 3) := by decide +kernel
theorem dX9_init_130 : decode cX9_init 130 = .ok (.aastore, 1) := by decide +kernel
theorem dX9_init_131 : decode cX9_init 131 = .ok (.iinc 1 1, 3) := by decide +kernel
theorem dX9_init_134 : decode cX9_init 134 = .ok (.goto (-21), 3) := by decide +kernel
theorem dX9_init_137 : decode cX9_init 137 = .ok (.return_, 1) := by decide +kernel
theorem dX9_type_0 : decode cX9_type 0 = .ok (.iload_n 1, 1) := by decide +kernel
theorem dX9_type_1 : decode cX9_type 1 = .ok (.ifCond .lt 10, 3) := by decide +kernel
theorem dX9_type_4 : decode cX9_type 4 = .ok (.iload_n 1, 1) := by decide +kernel
theorem dX9_type_5 : decode cX9_type 5 = .ok (.sipush 255, 3) := by decide +kernel
theorem dX9_type_8 : decode cX9_type 8 = .ok (.if_icmp .le 5, 3) := by decide +kernel
theorem dX9_type_11 : decode cX9_type 11 = .ok (.iconst (-1), 1) := by decide +kernel
theorem dX9_type_12 : decode cX9_type 12 = .ok (.ireturn, 1) := by decide +kernel
theorem dX9_type_13 : decode cX9_type 13 = .ok (.aload_n 0, 1) := by decide +kernel
theorem dX9_type_14 : decode cX9_type 14 = .ok (.getfield 12, 3) := by decide +kernel
theorem dX9_type_17 : decode cX9_type 17 = .ok (.iload_n 1, 1) := by decide +kernel
theorem dX9_type_18 : decode cX9_type 18 = .ok (.invokevirtual 75, 3) := by decide +kernel
theorem dX9_type_21 : decode cX9_type 21 = .ok (.ifCond .eq 13, 3) := by decide +kernel
theorem dX9_type_24 : decode cX9_type 24 = .ok (.aload_n 0, 1) := by decide +kernel
theorem dX9_type_25 : decode cX9_type 25 = .ok (.getfield 12, 3) := by decide +kernel
theorem dX9_type_28 : decode cX9_type 28 = .ok (.getfield 79, 3) := by decide +kernel
theorem dX9_type_31 : decode cX9_type 31 = .ok (.goto 5, 3) := by decide +kernel
theorem dX9_type_34 : decode cX9_type 34 = .ok (.bipush (-3), 2) := by decide +kernel
theorem dX9_type_36 : decode cX9_type 36 = .ok (.ireturn, 1) := by decide +kernel
theorem dX9_clear_0 : decode cX9_clear 0 = .ok (.aload_n 0, 1) := by decide +kernel
theorem dX9_clear_1 : decode cX9_clear 1 = .ok (.getfield 12, 3) := by decide +kernel
theorem dX9_clear_4 : decode cX9_clear 4 = .ok (.getfield 79, 3) := by decide +kernel
theorem dX9_clear_7 : decode cX9_clear 7 = .ok (.istore_n 1, 1) := by decide +kernel
theorem dX9_clear_8 : decode cX9_clear 8 = .ok (.aload_n 0, 1) := by decide +kernel
theorem dX9_clear_9 : decode cX9_clear 9 = .ok (.getfield 12, 3) := by decide +kernel
theorem dX9_clear_12 : decode cX9_clear 12 = .ok (.iconst 0, 1) := by decide +kernel
theorem dX9_clear_13 : decode cX9_clear 13 = .ok (.putfield 79, 3) := by decide +kernel
theorem dX9_clear_16 : decode cX9_clear 16 = .ok (.iload_n 1, 1) := by decide +kernel
theorem dX9_clear_17 : decode cX9_clear 17 = .ok (.ireturn, 1) := by decide +kernel
theorem dX9_city_0 : decode cX9_city 0 = .ok (.aload_n 0, 1) := by decide +kernel
theorem dX9_city_1 : decode cX9_city 1 = .ok (.getfield 12, 3) := by decide +kernel
theorem dX9_city_4 : decode cX9_city 4 = .ok (.aload_n 0, 1) := by decide +kernel
theorem dX9_city_5 : decode cX9_city 5 = .ok (.getfield 23, 3) := by decide +kernel
theorem dX9_city_8 : decode cX9_city 8 = .ok (.invokevirtual 83, 3) := by decide +kernel
theorem dX9_city_11 : decode cX9_city 11 = .ok (.istore_n 1, 1) := by decide +kernel
theorem dX9_city_12 : decode cX9_city 12 = .ok (.iload_n 1, 1) := by decide +kernel
theorem dX9_city_13 : decode cX9_city 13 = .ok (.ifCond .ge 5, 3) := by decide +kernel
theorem dX9_city_16 : decode cX9_city 16 = .ok (.iload_n 1, 1) := by decide +kernel
theorem dX9_city_17 : decode cX9_city 17 = .ok (.ireturn, 1) := by decide +kernel
theorem dX9_city_18 : decode cX9_city 18 = .ok (.aload_n 0, 1) := by decide +kernel
theorem dX9_city_19 : decode cX9_city 19 = .ok (.getfield 23, 3) := by decide +kernel
theorem dX9_city_22 : decode cX9_city 22 = .ok (.invokevirtual 87, 3) := by decide +kernel
theorem dX9_city_25 : decode cX9_city 25 = .ok (.aload_n 0, 1) := by decide +kernel
theorem dX9_city_26 : decode cX9_city 26 = .ok (.getfield 19, 3) := by decide +kernel
theorem dX9_city_29 : decode cX9_city 29 = .ok (.astore_n 2, 1) := by decide +kernel
theorem dX9_city_30 : decode cX9_city 30 = .ok (.aload_n 0, 1) := by decide +kernel
theorem dX9_city_31 : decode cX9_city 31 = .ok (.aload_n 0, 1) := by decide +kernel
theorem dX9_city_32 : decode cX9_city 32 = .ok (.getfield 23, 3) := by decide +kernel
theorem dX9_city_35 : decode cX9_city 35 = .ok (.putfield 19, 3) := by decide +kernel
theorem dX9_city_38 : decode cX9_city 38 = .ok (.aload_n 0, 1) := by decide +kernel
theorem dX9_city_39 : decode cX9_city 39 = .ok (.aload_n 2, 1) := by decide +kernel
theorem dX9_city_40 : decode cX9_city 40 = .ok (.putfield 23, 3) := by decide +kernel
theorem dX9_city_43 : decode cX9_city 43 = .ok (.aload_n 0, 1) := by decide +kernel
theorem dX9_city_44 : decode cX9_city 44 = .ok (.getfield 12, 3) := by decide +kernel
theorem dX9_city_47 : decode cX9_city 47 = .ok (.iconst 0, 1) := by decide +kernel
theorem dX9_city_48 : decode cX9_city 48 = .ok (.putfield 79, 3) := by decide +kernel
theorem dX9_city_51 : decode cX9_city 51 = .ok (.aload_n 0, 1) := by decide +kernel
theorem dX9_city_52 : decode cX9_city 52 = .ok (.invokevirtual 90, 3) := by decide +kernel
theorem dX9_city_55 : decode cX9_city 55 = .ok (.iload_n 1, 1) := by decide +kernel
theorem dX9_city_56 : decode cX9_city 56 = .ok (.ireturn, 1) := by decide +kernel
theorem dX9_street_0 : decode cX9_street 0 = .ok (.aload_n 0, 1) := by decide +kernel
theorem dX9_street_1 : decode cX9_street 1 = .ok (.getfield 19, 3) := by decide +kernel
theorem dX9_street_4 : decode cX9_street 4 = .ok (.iload_n 1, 1) := by decide +kernel
theorem dX9_street_5 : decode cX9_street 5 = .ok (.invokevirtual 93, 3) := by decide +kernel
theorem dX9_street_8 : decode cX9_street 8 = .ok (.ifCond .ne 5, 3) := by decide +kernel
theorem dX9_street_11 : decode cX9_street 11 = .ok (.iconst (-1), 1) := by decide +kernel
theorem dX9_street_12 : decode cX9_street 12 = .ok (.ireturn, 1) := by decide +kernel
theorem dX9_street_13 : decode cX9_street 13 = .ok (.iload_n 2, 1) := by decide +kernel
theorem dX9_street_14 : decode cX9_street 14 = .ok (.tableswitch 85 0 4 #[34, 44, 54, 64, 73], 34) := by decide +kernel
theorem dX9_street_48 : decode cX9_street 48 = .ok (.aload_n 0, 1) := by decide +kernel
theorem dX9_street_49 : decode cX9_street 49 = .ok (.getfield 19, 3) := by decide +kernel
theorem dX9_street_52 : decode cX9_street 52 = .ok (.getfield 96, 3) := by decide +kernel
theorem dX9_street_55 : decode cX9_street 55 = .ok (.iload_n 1, 1) := by decide +kernel
theorem dX9_street_56 : decode cX9_street 56 = .ok (.iaload, 1) := by decide +kernel
theorem dX9_street_57 : decode cX9_street 57 = .ok (.ireturn, 1) := by decide +kernel
theorem dX9_street_58 : decode cX9_street 58 = .ok (.aload_n 0, 1) := by decide +kernel
theorem dX9_street_59 : decode cX9_street 59 = .ok (.getfield 19, 3) := by decide +kernel
theorem dX9_street_62 : decode cX9_street 62 = .ok (.getfield 100, 3) := by decide +kernel
theorem dX9_street_65 : decode cX9_street 65 = .ok (.iload_n 1, 1) := by decide +kernel
theorem dX9_street_66 : decode cX9_street 66 = .ok (.iaload, 1) := by decide +kernel
theorem dX9_street_67 : decode cX9_street 67 = .ok (.ireturn, 1) := by decide +kernel
theorem dX9_street_68 : decode cX9_street 68 = .ok (.aload_n 0, 1) := by decide +kernel
theorem dX9_street_69 : decode cX9_street 69 = .ok (.getfield 19, 3) := by decide +kernel
theorem dX9_street_72 : decode cX9_street 72 = .ok (.getfield 103, 3) := by decide +kernel
theorem dX9_street_75 : decode cX9_street 75 = .ok (.iload_n 1, 1) := by decide +kernel
theorem dX9_street_76 : decode cX9_street 76 = .ok (.iaload, 1) := by decide +kernel
theorem dX9_street_77 : decode cX9_street 77 = .ok (.ireturn, 1) := by decide +kernel
theorem dX9_street_78 : decode cX9_street 78 = .ok (.aload_n 0, 1) := by decide +kernel
theorem dX9_street_79 : decode cX9_street 79 = .ok (.getfield 29, 3) := by decide +kernel
theorem dX9_street_82 : decode cX9_street 82 = .ok (.iload_n 1, 1) := by decide +kernel
theorem dX9_street_83 : decode cX9_street 83 = .ok (.invokevirtual 106, 3) := by decide +kernel
theorem dX9_street_86 : decode cX9_street 86 = .ok (.ireturn, 1) := by decide +kernel
theorem dX9_street_87 : decode cX9_street 87 = .ok (.aload_n 0, 1) := by decide +kernel
theorem dX9_street_88 : decode cX9_street 88 = .ok (.getfield 29, 3) := by decide +kernel
theorem dX9_street_91 : decode cX9_street 91 = .ok (.getfield 110, 3) := by decide +kernel
theorem dX9_street_94 : decode cX9_street 94 = .ok (.iload_n 1, 1) := by decide +kernel
theorem dX9_street_95 : decode cX9_street 95 = .ok (.ishr, 1) := by decide +kernel
theorem dX9_street_96 : decode cX9_street 96 = .ok (.iconst 1, 1) := by decide +kernel
theorem dX9_street_97 : decode cX9_street 97 = .ok (.iand, 1) := by decide +kernel
theorem dX9_street_98 : decode cX9_street 98 = .ok (.ireturn, 1) := by decide +kernel
theorem dX9_street_99 : decode cX9_street 99 = .ok (.iconst (-1), 1) := by decide +kernel
theorem dX9_street_100 : decode cX9_street 100 = .ok (.ireturn, 1) := by decide +kernel
theorem dX9_leader_0 : decode cX9_leader 0 = .ok (.aload_n 0, 1) := by decide +kernel
theorem dX9_leader_1 : decode cX9_leader 1 = .ok (.getfield 19, 3) := by decide +kernel
theorem dX9_leader_4 : decode cX9_leader 4 = .ok (.iload_n 1, 1) := by decide +kernel
theorem dX9_leader_5 : decode cX9_leader 5 = .ok (.invokevirtual 113, 3) := by decide +kernel
theorem dX9_leader_8 : decode cX9_leader 8 = .ok (.ifCond .ne 5, 3) := by decide +kernel
theorem dX9_leader_11 : decode cX9_leader 11 = .ok (.iconst (-1), 1) := by decide +kernel
theorem dX9_leader_12 : decode cX9_leader 12 = .ok (.ireturn, 1) := by decide +kernel
theorem dX9_leader_13 : decode cX9_leader 13 = .ok (.iload_n 2, 1) := by decide +kernel
theorem dX9_leader_14 : decode cX9_leader 14 = .ok (.tableswitch 58 0 2 #[26, 36, 46], 26) := by decide +kernel
theorem dX9_leader_40 : decode cX9_leader 40 = .ok (.aload_n 0, 1) := by decide +kernel
theorem dX9_leader_41 : decode cX9_leader 41 = .ok (.getfield 19, 3) := by decide +kernel
theorem dX9_leader_44 : decode cX9_leader 44 = .ok (.getfield 116, 3) := by decide +kernel
theorem dX9_leader_47 : decode cX9_leader 47 = .ok (.iload_n 1, 1) := by decide +kernel
theorem dX9_leader_48 : decode cX9_leader 48 = .ok (.iaload, 1) := by decide +kernel
theorem dX9_leader_49 : decode cX9_leader 49 = .ok (.ireturn, 1) := by decide +kernel
theorem dX9_leader_50 : decode cX9_leader 50 = .ok (.aload_n 0, 1) := by decide +kernel
theorem dX9_leader_51 : decode cX9_leader 51 = .ok (.getfield 19, 3) := by decide +kernel
theorem dX9_leader_54 : decode cX9_leader 54 = .ok (.getfield 119, 3) := by decide +kernel
theorem dX9_leader_57 : decode cX9_leader 57 = .ok (.iload_n 1, 1) := by decide +kernel
theorem dX9_leader_58 : decode cX9_leader 58 = .ok (.iaload, 1) := by decide +kernel
theorem dX9_leader_59 : decode cX9_leader 59 = .ok (.ireturn, 1) := by decide +kernel
theorem dX9_leader_60 : decode cX9_leader 60 = .ok (.aload_n 0, 1) := by decide +kernel
theorem dX9_leader_61 : decode cX9_leader 61 = .ok (.getfield 29, 3) := by decide +kernel
theorem dX9_leader_64 : decode cX9_leader 64 = .ok (.getfield 122, 3) := by decide +kernel
theorem dX9_leader_67 : decode cX9_leader 67 = .ok (.iload_n 1, 1) := by decide +kernel
theorem dX9_leader_68 : decode cX9_leader 68 = .ok (.ishr, 1) := by decide +kernel
theorem dX9_leader_69 : decode cX9_leader 69 = .ok (.iconst 1, 1) := by decide +kernel
theorem dX9_leader_70 : decode cX9_leader 70 = .ok (.iand, 1) := by decide +kernel
theorem dX9_leader_71 : decode cX9_leader 71 = .ok (.ireturn, 1) := by decide +kernel
theorem dX9_leader_72 : decode cX9_leader 72 = .ok (.iconst (-1), 1) := by decide +kernel
theorem dX9_leader_73 : decode cX9_leader 73 = .ok (.ireturn, 1) := by decide +kernel
theorem dX9_far_0 : decode cX9_far 0 = .ok (.aload_n 0, 1) := by decide +kernel
theorem dX9_far_1 : decode cX9_far 1 = .ok (.getfield 19, 3) := by decide +kernel
theorem dX9_far_4 : decode cX9_far 4 = .ok (.iload_n 1, 1) := by decide +kernel
theorem dX9_far_5 : decode cX9_far 5 = .ok (.invokevirtual 125, 3) := by decide +kernel
theorem dX9_far_8 : decode cX9_far 8 = .ok (.ifCond .eq 28, 3) := by decide +kernel
theorem dX9_far_11 : decode cX9_far 11 = .ok (.aload_n 0, 1) := by decide +kernel
theorem dX9_far_12 : decode cX9_far 12 = .ok (.getfield 19, 3) := by decide +kernel
theorem dX9_far_15 : decode cX9_far 15 = .ok (.iload_n 2, 1) := by decide +kernel
theorem dX9_far_16 : decode cX9_far 16 = .ok (.invokevirtual 125, 3) := by decide +kernel
theorem dX9_far_19 : decode cX9_far 19 = .ok (.ifCond .eq 17, 3) := by decide +kernel
theorem dX9_far_22 : decode cX9_far 22 = .ok (.aload_n 0, 1) := by decide +kernel
theorem dX9_far_23 : decode cX9_far 23 = .ok (.getfield 19, 3) := by decide +kernel
theorem dX9_far_26 : decode cX9_far 26 = .ok (.getfield 128, 3) := by decide +kernel
theorem dX9_far_29 : decode cX9_far 29 = .ok (.iload_n 1, 1) := by decide +kernel
theorem dX9_far_30 : decode cX9_far 30 = .ok (.aaload, 1) := by decide +kernel
theorem dX9_far_31 : decode cX9_far 31 = .ok (.iload_n 2, 1) := by decide +kernel
theorem dX9_far_32 : decode cX9_far 32 = .ok (.iaload, 1) := by decide +kernel
theorem dX9_far_33 : decode cX9_far 33 = .ok (.goto 4, 3) := by decide +kernel
theorem dX9_far_36 : decode cX9_far 36 = .ok (.iconst (-1), 1) := by decide +kernel
theorem dX9_far_37 : decode cX9_far 37 = .ok (.ireturn, 1) := by decide +kernel
theorem dX9_leads_0 : decode cX9_leads 0 = .ok (.aload_n 0, 1) := by decide +kernel
theorem dX9_leads_1 : decode cX9_leads 1 = .ok (.getfield 19, 3) := by decide +kernel
theorem dX9_leads_4 : decode cX9_leads 4 = .ok (.iload_n 1, 1) := by decide +kernel
theorem dX9_leads_5 : decode cX9_leads 5 = .ok (.invokevirtual 113, 3) := by decide +kernel
theorem dX9_leads_8 : decode cX9_leads 8 = .ok (.ifCond .ne 5, 3) := by decide +kernel
theorem dX9_leads_11 : decode cX9_leads 11 = .ok (.iconst (-1), 1) := by decide +kernel
theorem dX9_leads_12 : decode cX9_leads 12 = .ok (.ireturn, 1) := by decide +kernel
theorem dX9_leads_13 : decode cX9_leads 13 = .ok (.aload_n 0, 1) := by decide +kernel
theorem dX9_leads_14 : decode cX9_leads 14 = .ok (.getfield 29, 3) := by decide +kernel
theorem dX9_leads_17 : decode cX9_leads 17 = .ok (.iload_n 1, 1) := by decide +kernel
theorem dX9_leads_18 : decode cX9_leads 18 = .ok (.invokevirtual 132, 3) := by decide +kernel
theorem dX9_leads_21 : decode cX9_leads 21 = .ok (.ifCond .eq 6, 3) := by decide +kernel
theorem dX9_leads_24 : decode cX9_leads 24 = .ok (.bipush (-2), 2) := by decide +kernel
theorem dX9_leads_26 : decode cX9_leads 26 = .ok (.ireturn, 1) := by decide +kernel
theorem dX9_leads_27 : decode cX9_leads 27 = .ok (.aload_n 0, 1) := by decide +kernel
theorem dX9_leads_28 : decode cX9_leads 28 = .ok (.getfield 36, 3) := by decide +kernel
theorem dX9_leads_31 : decode cX9_leads 31 = .ok (.aload_n 0, 1) := by decide +kernel
theorem dX9_leads_32 : decode cX9_leads 32 = .ok (.getfield 29, 3) := by decide +kernel
theorem dX9_leads_35 : decode cX9_leads 35 = .ok (.invokevirtual 135, 3) := by decide +kernel
theorem dX9_leads_38 : decode cX9_leads 38 = .ok (.aload_n 0, 1) := by decide +kernel
theorem dX9_leads_39 : decode cX9_leads 39 = .ok (.getfield 29, 3) := by decide +kernel
theorem dX9_leads_42 : decode cX9_leads 42 = .ok (.aload_n 0, 1) := by decide +kernel
theorem dX9_leads_43 : decode cX9_leads 43 = .ok (.getfield 19, 3) := by decide +kernel
theorem dX9_leads_46 : decode cX9_leads 46 = .ok (.iload_n 1, 1) := by decide +kernel
theorem dX9_leads_47 : decode cX9_leads 47 = .ok (.invokevirtual 139, 3) := by decide +kernel
theorem dX9_leads_50 : decode cX9_leads 50 = .ok (.pop, 1) := by decide +kernel
theorem dX9_leads_51 : decode cX9_leads 51 = .ok (.aload_n 0, 1) := by decide +kernel
theorem dX9_leads_52 : decode cX9_leads 52 = .ok (.getfield 56, 3) := by decide +kernel
theorem dX9_leads_55 : decode cX9_leads 55 = .ok (.iconst 0, 1) := by decide +kernel
theorem dX9_leads_56 : decode cX9_leads 56 = .ok (.putfield 143, 3) := by decide +kernel
theorem dX9_leads_59 : decode cX9_leads 59 = .ok (.aload_n 0, 1) := by decide +kernel
theorem dX9_leads_60 : decode cX9_leads 60 = .ok (.getfield 29, 3) := by decide +kernel
theorem dX9_leads_63 : decode cX9_leads 63 = .ok (.getfield 147, 3) := by decide +kernel
theorem dX9_leads_66 : decode cX9_leads 66 = .ok (.ireturn, 1) := by decide +kernel
theorem dX9_shuts_0 : decode cX9_shuts 0 = .ok (.aload_n 0, 1) := by decide +kernel
theorem dX9_shuts_1 : decode cX9_shuts 1 = .ok (.getfield 19, 3) := by decide +kernel
theorem dX9_shuts_4 : decode cX9_shuts 4 = .ok (.iload_n 1, 1) := by decide +kernel
theorem dX9_shuts_5 : decode cX9_shuts 5 = .ok (.invokevirtual 93, 3) := by decide +kernel
theorem dX9_shuts_8 : decode cX9_shuts 8 = .ok (.ifCond .eq 12, 3) := by decide +kernel
theorem dX9_shuts_11 : decode cX9_shuts 11 = .ok (.iload_n 2, 1) := by decide +kernel
theorem dX9_shuts_12 : decode cX9_shuts 12 = .ok (.ifCond .lt 8, 3) := by decide +kernel
theorem dX9_shuts_15 : decode cX9_shuts 15 = .ok (.iload_n 2, 1) := by decide +kernel
theorem dX9_shuts_16 : decode cX9_shuts 16 = .ok (.iconst 1, 1) := by decide +kernel
theorem dX9_shuts_17 : decode cX9_shuts 17 = .ok (.if_icmp .le 5, 3) := by decide +kernel
theorem dX9_shuts_20 : decode cX9_shuts 20 = .ok (.iconst (-1), 1) := by decide +kernel
theorem dX9_shuts_21 : decode cX9_shuts 21 = .ok (.ireturn, 1) := by decide +kernel
theorem dX9_shuts_22 : decode cX9_shuts 22 = .ok (.aload_n 0, 1) := by decide +kernel
theorem dX9_shuts_23 : decode cX9_shuts 23 = .ok (.getfield 29, 3) := by decide +kernel
theorem dX9_shuts_26 : decode cX9_shuts 26 = .ok (.getfield 110, 3) := by decide +kernel
theorem dX9_shuts_29 : decode cX9_shuts 29 = .ok (.iload_n 1, 1) := by decide +kernel
theorem dX9_shuts_30 : decode cX9_shuts 30 = .ok (.ishr, 1) := by decide +kernel
theorem dX9_shuts_31 : decode cX9_shuts 31 = .ok (.iconst 1, 1) := by decide +kernel
theorem dX9_shuts_32 : decode cX9_shuts 32 = .ok (.iand, 1) := by decide +kernel
theorem dX9_shuts_33 : decode cX9_shuts 33 = .ok (.iload_n 2, 1) := by decide +kernel
theorem dX9_shuts_34 : decode cX9_shuts 34 = .ok (.if_icmp .ne 6, 3) := by decide +kernel
theorem dX9_shuts_37 : decode cX9_shuts 37 = .ok (.bipush (-2), 2) := by decide +kernel
theorem dX9_shuts_39 : decode cX9_shuts 39 = .ok (.ireturn, 1) := by decide +kernel
theorem dX9_shuts_40 : decode cX9_shuts 40 = .ok (.aload_n 0, 1) := by decide +kernel
theorem dX9_shuts_41 : decode cX9_shuts 41 = .ok (.getfield 36, 3) := by decide +kernel
theorem dX9_shuts_44 : decode cX9_shuts 44 = .ok (.aload_n 0, 1) := by decide +kernel
theorem dX9_shuts_45 : decode cX9_shuts 45 = .ok (.getfield 29, 3) := by decide +kernel
theorem dX9_shuts_48 : decode cX9_shuts 48 = .ok (.invokevirtual 135, 3) := by decide +kernel
theorem dX9_shuts_51 : decode cX9_shuts 51 = .ok (.aload_n 0, 1) := by decide +kernel
theorem dX9_shuts_52 : decode cX9_shuts 52 = .ok (.getfield 29, 3) := by decide +kernel
theorem dX9_shuts_55 : decode cX9_shuts 55 = .ok (.dup, 1) := by decide +kernel
theorem dX9_shuts_56 : decode cX9_shuts 56 = .ok (.getfield 110, 3) := by decide +kernel
theorem dX9_shuts_59 : decode cX9_shuts 59 = .ok (.iconst 1, 1) := by decide +kernel
theorem dX9_shuts_60 : decode cX9_shuts 60 = .ok (.iload_n 1, 1) := by decide +kernel
theorem dX9_shuts_61 : decode cX9_shuts 61 = .ok (.ishl, 1) := by decide +kernel
theorem dX9_shuts_62 : decode cX9_shuts 62 = .ok (.ixor, 1) := by decide +kernel
theorem dX9_shuts_63 : decode cX9_shuts 63 = .ok (.putfield 110, 3) := by decide +kernel
theorem dX9_shuts_66 : decode cX9_shuts 66 = .ok (.aload_n 0, 1) := by decide +kernel
theorem dX9_shuts_67 : decode cX9_shuts 67 = .ok (.getfield 56, 3) := by decide +kernel
theorem dX9_shuts_70 : decode cX9_shuts 70 = .ok (.iconst 0, 1) := by decide +kernel
theorem dX9_shuts_71 : decode cX9_shuts 71 = .ok (.putfield 143, 3) := by decide +kernel
theorem dX9_shuts_74 : decode cX9_shuts 74 = .ok (.aload_n 0, 1) := by decide +kernel
theorem dX9_shuts_75 : decode cX9_shuts 75 = .ok (.getfield 29, 3) := by decide +kernel
theorem dX9_shuts_78 : decode cX9_shuts 78 = .ok (.getfield 110, 3) := by decide +kernel
theorem dX9_shuts_81 : decode cX9_shuts 81 = .ok (.invokestatic 150, 3) := by decide +kernel
theorem dX9_shuts_84 : decode cX9_shuts 84 = .ok (.ireturn, 1) := by decide +kernel
theorem dX9_undo_0 : decode cX9_undo 0 = .ok (.aload_n 0, 1) := by decide +kernel
theorem dX9_undo_1 : decode cX9_undo 1 = .ok (.getfield 36, 3) := by decide +kernel
theorem dX9_undo_4 : decode cX9_undo 4 = .ok (.getfield 155, 3) := by decide +kernel
theorem dX9_undo_7 : decode cX9_undo 7 = .ok (.ifCond .ne 6, 3) := by decide +kernel
theorem dX9_undo_10 : decode cX9_undo 10 = .ok (.bipush (-2), 2) := by decide +kernel
theorem dX9_undo_12 : decode cX9_undo 12 = .ok (.ireturn, 1) := by decide +kernel
theorem dX9_undo_13 : decode cX9_undo 13 = .ok (.aload_n 0, 1) := by decide +kernel
theorem dX9_undo_14 : decode cX9_undo 14 = .ok (.getfield 36, 3) := by decide +kernel
theorem dX9_undo_17 : decode cX9_undo 17 = .ok (.aload_n 0, 1) := by decide +kernel
theorem dX9_undo_18 : decode cX9_undo 18 = .ok (.getfield 29, 3) := by decide +kernel
theorem dX9_undo_21 : decode cX9_undo 21 = .ok (.invokevirtual 158, 3) := by decide +kernel
theorem dX9_undo_24 : decode cX9_undo 24 = .ok (.aload_n 0, 1) := by decide +kernel
theorem dX9_undo_25 : decode cX9_undo 25 = .ok (.getfield 56, 3) := by decide +kernel
theorem dX9_undo_28 : decode cX9_undo 28 = .ok (.iconst 0, 1) := by decide +kernel
theorem dX9_undo_29 : decode cX9_undo 29 = .ok (.putfield 143, 3) := by decide +kernel
theorem dX9_undo_32 : decode cX9_undo 32 = .ok (.aload_n 0, 1) := by decide +kernel
theorem dX9_undo_33 : decode cX9_undo 33 = .ok (.getfield 36, 3) := by decide +kernel
theorem dX9_undo_36 : decode cX9_undo 36 = .ok (.getfield 155, 3) := by decide +kernel
theorem dX9_undo_39 : decode cX9_undo 39 = .ok (.ireturn, 1) := by decide +kernel
theorem dX9_now_0 : decode cX9_now 0 = .ok (.iload_n 1, 1) := by decide +kernel
theorem dX9_now_1 : decode cX9_now 1 = .ok (.tableswitch 88 0 5 #[39, 48, 56, 64, 72, 80], 39) := by decide +kernel
theorem dX9_now_40 : decode cX9_now 40 = .ok (.aload_n 0, 1) := by decide +kernel
theorem dX9_now_41 : decode cX9_now 41 = .ok (.aload_n 0, 1) := by decide +kernel
theorem dX9_now_42 : decode cX9_now 42 = .ok (.getfield 29, 3) := by decide +kernel
theorem dX9_now_45 : decode cX9_now 45 = .ok (.invokevirtual 161, 3) := by decide +kernel
theorem dX9_now_48 : decode cX9_now 48 = .ok (.ireturn, 1) := by decide +kernel
theorem dX9_now_49 : decode cX9_now 49 = .ok (.aload_n 0, 1) := by decide +kernel
theorem dX9_now_50 : decode cX9_now 50 = .ok (.getfield 29, 3) := by decide +kernel
theorem dX9_now_53 : decode cX9_now 53 = .ok (.getfield 165, 3) := by decide +kernel
theorem dX9_now_56 : decode cX9_now 56 = .ok (.ireturn, 1) := by decide +kernel
theorem dX9_now_57 : decode cX9_now 57 = .ok (.aload_n 0, 1) := by decide +kernel
theorem dX9_now_58 : decode cX9_now 58 = .ok (.getfield 29, 3) := by decide +kernel
theorem dX9_now_61 : decode cX9_now 61 = .ok (.getfield 168, 3) := by decide +kernel
theorem dX9_now_64 : decode cX9_now 64 = .ok (.ireturn, 1) := by decide +kernel
theorem dX9_now_65 : decode cX9_now 65 = .ok (.aload_n 0, 1) := by decide +kernel
theorem dX9_now_66 : decode cX9_now 66 = .ok (.getfield 29, 3) := by decide +kernel
theorem dX9_now_69 : decode cX9_now 69 = .ok (.getfield 122, 3) := by decide +kernel
theorem dX9_now_72 : decode cX9_now 72 = .ok (.ireturn, 1) := by decide +kernel
theorem dX9_now_73 : decode cX9_now 73 = .ok (.aload_n 0, 1) := by decide +kernel
theorem dX9_now_74 : decode cX9_now 74 = .ok (.getfield 29, 3) := by decide +kernel
theorem dX9_now_77 : decode cX9_now 77 = .ok (.invokevirtual 171, 3) := by decide +kernel
theorem dX9_now_80 : decode cX9_now 80 = .ok (.ireturn, 1) := by decide +kernel
theorem dX9_now_81 : decode cX9_now 81 = .ok (.aload_n 0, 1) := by decide +kernel
theorem dX9_now_82 : decode cX9_now 82 = .ok (.getfield 29, 3) := by decide +kernel
theorem dX9_now_85 : decode cX9_now 85 = .ok (.getfield 110, 3) := by decide +kernel
theorem dX9_now_88 : decode cX9_now 88 = .ok (.ireturn, 1) := by decide +kernel
theorem dX9_now_89 : decode cX9_now 89 = .ok (.iconst (-1), 1) := by decide +kernel
theorem dX9_now_90 : decode cX9_now 90 = .ok (.ireturn, 1) := by decide +kernel
theorem dX9_order_0 : decode cX9_order 0 = .ok (.iload_n 1, 1) := by decide +kernel
theorem dX9_order_1 : decode cX9_order 1 = .ok (.bipush (-3), 2) := by decide +kernel
theorem dX9_order_3 : decode cX9_order 3 = .ok (.if_icmp .lt 9, 3) := by decide +kernel
theorem dX9_order_6 : decode cX9_order 6 = .ok (.iload_n 1, 1) := by decide +kernel
theorem dX9_order_7 : decode cX9_order 7 = .ok (.bipush 6, 2) := by decide +kernel
theorem dX9_order_9 : decode cX9_order 9 = .ok (.if_icmp .lt 5, 3) := by decide +kernel
theorem dX9_order_12 : decode cX9_order 12 = .ok (.iconst (-1), 1) := by decide +kernel
theorem dX9_order_13 : decode cX9_order 13 = .ok (.ireturn, 1) := by decide +kernel
theorem dX9_order_14 : decode cX9_order 14 = .ok (.aload_n 0, 1) := by decide +kernel
theorem dX9_order_15 : decode cX9_order 15 = .ok (.invokevirtual 175, 3) := by decide +kernel
theorem dX9_order_18 : decode cX9_order 18 = .ok (.iload_n 1, 1) := by decide +kernel
theorem dX9_order_19 : decode cX9_order 19 = .ok (.tableswitch 49 (-3) (-1) #[25, 33, 41], 25) := by decide +kernel
theorem dX9_order_44 : decode cX9_order 44 = .ok (.aload_n 0, 1) := by decide +kernel
theorem dX9_order_45 : decode cX9_order 45 = .ok (.getfield 56, 3) := by decide +kernel
theorem dX9_order_48 : decode cX9_order 48 = .ok (.getfield 178, 3) := by decide +kernel
theorem dX9_order_51 : decode cX9_order 51 = .ok (.ireturn, 1) := by decide +kernel
theorem dX9_order_52 : decode cX9_order 52 = .ok (.aload_n 0, 1) := by decide +kernel
theorem dX9_order_53 : decode cX9_order 53 = .ok (.getfield 56, 3) := by decide +kernel
theorem dX9_order_56 : decode cX9_order 56 = .ok (.getfield 180, 3) := by decide +kernel
theorem dX9_order_59 : decode cX9_order 59 = .ok (.ireturn, 1) := by decide +kernel
theorem dX9_order_60 : decode cX9_order 60 = .ok (.aload_n 0, 1) := by decide +kernel
theorem dX9_order_61 : decode cX9_order 61 = .ok (.getfield 56, 3) := by decide +kernel
theorem dX9_order_64 : decode cX9_order 64 = .ok (.getfield 181, 3) := by decide +kernel
theorem dX9_order_67 : decode cX9_order 67 = .ok (.ireturn, 1) := by decide +kernel
theorem dX9_order_68 : decode cX9_order 68 = .ok (.iload_n 1, 1) := by decide +kernel
theorem dX9_order_69 : decode cX9_order 69 = .ok (.aload_n 0, 1) := by decide +kernel
theorem dX9_order_70 : decode cX9_order 70 = .ok (.getfield 56, 3) := by decide +kernel
theorem dX9_order_73 : decode cX9_order 73 = .ok (.getfield 184, 3) := by decide +kernel
theorem dX9_order_76 : decode cX9_order 76 = .ok (.if_icmp .ge 15, 3) := by decide +kernel
theorem dX9_order_79 : decode cX9_order 79 = .ok (.aload_n 0, 1) := by decide +kernel
theorem dX9_order_80 : decode cX9_order 80 = .ok (.getfield 56, 3) := by decide +kernel
theorem dX9_order_83 : decode cX9_order 83 = .ok (.getfield 185, 3) := by decide +kernel
theorem dX9_order_86 : decode cX9_order 86 = .ok (.iload_n 1, 1) := by decide +kernel
theorem dX9_order_87 : decode cX9_order 87 = .ok (.iaload, 1) := by decide +kernel
theorem dX9_order_88 : decode cX9_order 88 = .ok (.goto 5, 3) := by decide +kernel
theorem dX9_order_91 : decode cX9_order 91 = .ok (.bipush (-9), 2) := by decide +kernel
theorem dX9_order_93 : decode cX9_order 93 = .ok (.ireturn, 1) := by decide +kernel
theorem dX9_most_0 : decode cX9_most 0 = .ok (.iload_n 1, 1) := by decide +kernel
theorem dX9_most_1 : decode cX9_most 1 = .ok (.iconst (-1), 1) := by decide +kernel
theorem dX9_most_2 : decode cX9_most 2 = .ok (.if_icmp .lt 9, 3) := by decide +kernel
theorem dX9_most_5 : decode cX9_most 5 = .ok (.iload_n 1, 1) := by decide +kernel
theorem dX9_most_6 : decode cX9_most 6 = .ok (.bipush 6, 2) := by decide +kernel
theorem dX9_most_8 : decode cX9_most 8 = .ok (.if_icmp .lt 5, 3) := by decide +kernel
theorem dX9_most_11 : decode cX9_most 11 = .ok (.iconst (-1), 1) := by decide +kernel
theorem dX9_most_12 : decode cX9_most 12 = .ok (.ireturn, 1) := by decide +kernel
theorem dX9_most_13 : decode cX9_most 13 = .ok (.aload_n 0, 1) := by decide +kernel
theorem dX9_most_14 : decode cX9_most 14 = .ok (.invokevirtual 175, 3) := by decide +kernel
theorem dX9_most_17 : decode cX9_most 17 = .ok (.iload_n 1, 1) := by decide +kernel
theorem dX9_most_18 : decode cX9_most 18 = .ok (.iconst (-1), 1) := by decide +kernel
theorem dX9_most_19 : decode cX9_most 19 = .ok (.if_icmp .ne 11, 3) := by decide +kernel
theorem dX9_most_22 : decode cX9_most 22 = .ok (.aload_n 0, 1) := by decide +kernel
theorem dX9_most_23 : decode cX9_most 23 = .ok (.getfield 56, 3) := by decide +kernel
theorem dX9_most_26 : decode cX9_most 26 = .ok (.getfield 188, 3) := by decide +kernel
theorem dX9_most_29 : decode cX9_most 29 = .ok (.ireturn, 1) := by decide +kernel
theorem dX9_most_30 : decode cX9_most 30 = .ok (.iload_n 1, 1) := by decide +kernel
theorem dX9_most_31 : decode cX9_most 31 = .ok (.aload_n 0, 1) := by decide +kernel
theorem dX9_most_32 : decode cX9_most 32 = .ok (.getfield 56, 3) := by decide +kernel
theorem dX9_most_35 : decode cX9_most 35 = .ok (.getfield 184, 3) := by decide +kernel
theorem dX9_most_38 : decode cX9_most 38 = .ok (.if_icmp .ge 15, 3) := by decide +kernel
theorem dX9_most_41 : decode cX9_most 41 = .ok (.aload_n 0, 1) := by decide +kernel
theorem dX9_most_42 : decode cX9_most 42 = .ok (.getfield 56, 3) := by decide +kernel
theorem dX9_most_45 : decode cX9_most 45 = .ok (.getfield 191, 3) := by decide +kernel
theorem dX9_most_48 : decode cX9_most 48 = .ok (.iload_n 1, 1) := by decide +kernel
theorem dX9_most_49 : decode cX9_most 49 = .ok (.iaload, 1) := by decide +kernel
theorem dX9_most_50 : decode cX9_most 50 = .ok (.goto 5, 3) := by decide +kernel
theorem dX9_most_53 : decode cX9_most 53 = .ok (.bipush (-9), 2) := by decide +kernel
theorem dX9_most_55 : decode cX9_most 55 = .ok (.ireturn, 1) := by decide +kernel
theorem dX9_rows_0 : decode cX9_rows 0 = .ok (.iload_n 1, 1) := by decide +kernel
theorem dX9_rows_1 : decode cX9_rows 1 = .ok (.ifCond .lt 8, 3) := by decide +kernel
theorem dX9_rows_4 : decode cX9_rows 4 = .ok (.iload_n 1, 1) := by decide +kernel
theorem dX9_rows_5 : decode cX9_rows 5 = .ok (.iconst 5, 1) := by decide +kernel
theorem dX9_rows_6 : decode cX9_rows 6 = .ok (.if_icmp .le 5, 3) := by decide +kernel
theorem dX9_rows_9 : decode cX9_rows 9 = .ok (.iconst (-1), 1) := by decide +kernel
theorem dX9_rows_10 : decode cX9_rows 10 = .ok (.ireturn, 1) := by decide +kernel
theorem dX9_rows_11 : decode cX9_rows 11 = .ok (.aload_n 0, 1) := by decide +kernel
theorem dX9_rows_12 : decode cX9_rows 12 = .ok (.invokevirtual 175, 3) := by decide +kernel
theorem dX9_rows_15 : decode cX9_rows 15 = .ok (.iload_n 1, 1) := by decide +kernel
theorem dX9_rows_16 : decode cX9_rows 16 = .ok (.tableswitch 86 0 4 #[36, 54, 62, 70, 78], 36) := by decide +kernel
theorem dX9_rows_52 : decode cX9_rows 52 = .ok (.aload_n 0, 1) := by decide +kernel
theorem dX9_rows_53 : decode cX9_rows 53 = .ok (.getfield 19, 3) := by decide +kernel
theorem dX9_rows_56 : decode cX9_rows 56 = .ok (.invokevirtual 194, 3) := by decide +kernel
theorem dX9_rows_59 : decode cX9_rows 59 = .ok (.aload_n 0, 1) := by decide +kernel
theorem dX9_rows_60 : decode cX9_rows 60 = .ok (.getfield 56, 3) := by decide +kernel
theorem dX9_rows_63 : decode cX9_rows 63 = .ok (.getfield 197, 3) := by decide +kernel
theorem dX9_rows_66 : decode cX9_rows 66 = .ok (.iconst (-1), 1) := by decide +kernel
theorem dX9_rows_67 : decode cX9_rows 67 = .ok (.ixor, 1) := by decide +kernel
theorem dX9_rows_68 : decode cX9_rows 68 = .ok (.iand, 1) := by decide +kernel
theorem dX9_rows_69 : decode cX9_rows 69 = .ok (.ireturn, 1) := by decide +kernel
theorem dX9_rows_70 : decode cX9_rows 70 = .ok (.aload_n 0, 1) := by decide +kernel
theorem dX9_rows_71 : decode cX9_rows 71 = .ok (.getfield 56, 3) := by decide +kernel
theorem dX9_rows_74 : decode cX9_rows 74 = .ok (.getfield 199, 3) := by decide +kernel
theorem dX9_rows_77 : decode cX9_rows 77 = .ok (.ireturn, 1) := by decide +kernel
theorem dX9_rows_78 : decode cX9_rows 78 = .ok (.aload_n 0, 1) := by decide +kernel
theorem dX9_rows_79 : decode cX9_rows 79 = .ok (.getfield 56, 3) := by decide +kernel
theorem dX9_rows_82 : decode cX9_rows 82 = .ok (.getfield 202, 3) := by decide +kernel
theorem dX9_rows_85 : decode cX9_rows 85 = .ok (.ireturn, 1) := by decide +kernel
theorem dX9_rows_86 : decode cX9_rows 86 = .ok (.aload_n 0, 1) := by decide +kernel
theorem dX9_rows_87 : decode cX9_rows 87 = .ok (.getfield 56, 3) := by decide +kernel
theorem dX9_rows_90 : decode cX9_rows 90 = .ok (.getfield 205, 3) := by decide +kernel
theorem dX9_rows_93 : decode cX9_rows 93 = .ok (.ireturn, 1) := by decide +kernel
theorem dX9_rows_94 : decode cX9_rows 94 = .ok (.aload_n 0, 1) := by decide +kernel
theorem dX9_rows_95 : decode cX9_rows 95 = .ok (.getfield 56, 3) := by decide +kernel
theorem dX9_rows_98 : decode cX9_rows 98 = .ok (.getfield 208, 3) := by decide +kernel
theorem dX9_rows_101 : decode cX9_rows 101 = .ok (.ireturn, 1) := by decide +kernel
theorem dX9_rows_102 : decode cX9_rows 102 = .ok (.aload_n 0, 1) := by decide +kernel
theorem dX9_rows_103 : decode cX9_rows 103 = .ok (.getfield 56, 3) := by decide +kernel
theorem dX9_rows_106 : decode cX9_rows 106 = .ok (.getfield 211, 3) := by decide +kernel
theorem dX9_rows_109 : decode cX9_rows 109 = .ok (.ireturn, 1) := by decide +kernel
theorem dX9_saw_0 : decode cX9_saw 0 = .ok (.iload_n 1, 1) := by decide +kernel
theorem dX9_saw_1 : decode cX9_saw 1 = .ok (.ifCond .lt 20, 3) := by decide +kernel
theorem dX9_saw_4 : decode cX9_saw 4 = .ok (.iload_n 1, 1) := by decide +kernel
theorem dX9_saw_5 : decode cX9_saw 5 = .ok (.bipush 6, 2) := by decide +kernel
theorem dX9_saw_7 : decode cX9_saw 7 = .ok (.if_icmp .ge 14, 3) := by decide +kernel
theorem dX9_saw_10 : decode cX9_saw 10 = .ok (.aload_n 0, 1) := by decide +kernel
theorem dX9_saw_11 : decode cX9_saw 11 = .ok (.getfield 19, 3) := by decide +kernel
theorem dX9_saw_14 : decode cX9_saw 14 = .ok (.iload_n 2, 1) := by decide +kernel
theorem dX9_saw_15 : decode cX9_saw 15 = .ok (.invokevirtual 125, 3) := by decide +kernel
theorem dX9_saw_18 : decode cX9_saw 18 = .ok (.ifCond .ne 5, 3) := by decide +kernel
theorem dX9_saw_21 : decode cX9_saw 21 = .ok (.iconst (-1), 1) := by decide +kernel
theorem dX9_saw_22 : decode cX9_saw 22 = .ok (.ireturn, 1) := by decide +kernel
theorem dX9_saw_23 : decode cX9_saw 23 = .ok (.aload_n 0, 1) := by decide +kernel
theorem dX9_saw_24 : decode cX9_saw 24 = .ok (.getfield 63, 3) := by decide +kernel
theorem dX9_saw_27 : decode cX9_saw 27 = .ok (.iload_n 1, 1) := by decide +kernel
theorem dX9_saw_28 : decode cX9_saw 28 = .ok (.iload_n 2, 1) := by decide +kernel
theorem dX9_saw_29 : decode cX9_saw 29 = .ok (.invokevirtual 214, 3) := by decide +kernel
theorem dX9_saw_32 : decode cX9_saw 32 = .ok (.ifCond .eq 13, 3) := by decide +kernel
theorem dX9_saw_35 : decode cX9_saw 35 = .ok (.aload_n 0, 1) := by decide +kernel
theorem dX9_saw_36 : decode cX9_saw 36 = .ok (.getfield 63, 3) := by decide +kernel
theorem dX9_saw_39 : decode cX9_saw 39 = .ok (.getfield 218, 3) := by decide +kernel
theorem dX9_saw_42 : decode cX9_saw 42 = .ok (.goto 5, 3) := by decide +kernel
theorem dX9_saw_45 : decode cX9_saw 45 = .ok (.bipush (-3), 2) := by decide +kernel
theorem dX9_saw_47 : decode cX9_saw 47 = .ok (.ireturn, 1) := by decide +kernel
theorem dX9_forget_0 : decode cX9_forget 0 = .ok (.aload_n 0, 1) := by decide +kernel
theorem dX9_forget_1 : decode cX9_forget 1 = .ok (.getfield 63, 3) := by decide +kernel
theorem dX9_forget_4 : decode cX9_forget 4 = .ok (.getfield 218, 3) := by decide +kernel
theorem dX9_forget_7 : decode cX9_forget 7 = .ok (.istore_n 1, 1) := by decide +kernel
theorem dX9_forget_8 : decode cX9_forget 8 = .ok (.aload_n 0, 1) := by decide +kernel
theorem dX9_forget_9 : decode cX9_forget 9 = .ok (.getfield 63, 3) := by decide +kernel
theorem dX9_forget_12 : decode cX9_forget 12 = .ok (.iconst 0, 1) := by decide +kernel
theorem dX9_forget_13 : decode cX9_forget 13 = .ok (.putfield 218, 3) := by decide +kernel
theorem dX9_forget_16 : decode cX9_forget 16 = .ok (.iload_n 1, 1) := by decide +kernel
theorem dX9_forget_17 : decode cX9_forget 17 = .ok (.ireturn, 1) := by decide +kernel
theorem dX9_fits_0 : decode cX9_fits 0 = .ok (.iload_n 1, 1) := by decide +kernel
theorem dX9_fits_1 : decode cX9_fits 1 = .ok (.iconst (-1), 1) := by decide +kernel
theorem dX9_fits_2 : decode cX9_fits 2 = .ok (.if_icmp .lt 9, 3) := by decide +kernel
theorem dX9_fits_5 : decode cX9_fits 5 = .ok (.iload_n 1, 1) := by decide +kernel
theorem dX9_fits_6 : decode cX9_fits 6 = .ok (.bipush 6, 2) := by decide +kernel
theorem dX9_fits_8 : decode cX9_fits 8 = .ok (.if_icmp .lt 5, 3) := by decide +kernel
theorem dX9_fits_11 : decode cX9_fits 11 = .ok (.iconst (-1), 1) := by decide +kernel
theorem dX9_fits_12 : decode cX9_fits 12 = .ok (.ireturn, 1) := by decide +kernel
theorem dX9_fits_13 : decode cX9_fits 13 = .ok (.iconst 0, 1) := by decide +kernel
theorem dX9_fits_14 : decode cX9_fits 14 = .ok (.istore_n 2, 1) := by decide +kernel
theorem dX9_fits_15 : decode cX9_fits 15 = .ok (.bipush (-9), 2) := by decide +kernel
theorem dX9_fits_17 : decode cX9_fits 17 = .ok (.istore_n 3, 1) := by decide +kernel
theorem dX9_fits_18 : decode cX9_fits 18 = .ok (.aload_n 0, 1) := by decide +kernel
theorem dX9_fits_19 : decode cX9_fits 19 = .ok (.getfield 49, 3) := by decide +kernel
theorem dX9_fits_22 : decode cX9_fits 22 = .ok (.aload_n 0, 1) := by decide +kernel
theorem dX9_fits_23 : decode cX9_fits 23 = .ok (.getfield 19, 3) := by decide +kernel
theorem dX9_fits_26 : decode cX9_fits 26 = .ok (.aload_n 0, 1) := by decide +kernel
theorem dX9_fits_27 : decode cX9_fits 27 = .ok (.getfield 29, 3) := by decide +kernel
theorem dX9_fits_30 : decode cX9_fits 30 = .ok (.invokevirtual 219, 3) := by decide +kernel
theorem dX9_fits_33 : decode cX9_fits 33 = .ok (.iconst 0, 1) := by decide +kernel
theorem dX9_fits_34 : decode cX9_fits 34 = .ok (.istore 4, 2) := by decide +kernel
theorem dX9_fits_36 : decode cX9_fits 36 = .ok (.iload 4, 2) := by decide +kernel
theorem dX9_fits_38 : decode cX9_fits 38 = .ok (.sipush 720, 3) := by decide +kernel
theorem dX9_fits_41 : decode cX9_fits 41 = .ok (.if_icmp .ge 67, 3) := by decide +kernel
theorem dX9_fits_44 : decode cX9_fits 44 = .ok (.aload_n 0, 1) := by decide +kernel
theorem dX9_fits_45 : decode cX9_fits 45 = .ok (.getfield 49, 3) := by decide +kernel
theorem dX9_fits_48 : decode cX9_fits 48 = .ok (.aload_n 0, 1) := by decide +kernel
theorem dX9_fits_49 : decode cX9_fits 49 = .ok (.getfield 19, 3) := by decide +kernel
theorem dX9_fits_52 : decode cX9_fits 52 = .ok (.aload_n 0, 1) := by decide +kernel
theorem dX9_fits_53 : decode cX9_fits 53 = .ok (.getfield 29, 3) := by decide +kernel
theorem dX9_fits_56 : decode cX9_fits 56 = .ok (.invokevirtual 222, 3) := by decide +kernel
theorem dX9_fits_59 : decode cX9_fits 59 = .ok (.aload_n 0, 1) := by decide +kernel
theorem dX9_fits_60 : decode cX9_fits 60 = .ok (.getfield 63, 3) := by decide +kernel
theorem dX9_fits_63 : decode cX9_fits 63 = .ok (.aload_n 0, 1) := by decide +kernel
theorem dX9_fits_64 : decode cX9_fits 64 = .ok (.getfield 49, 3) := by decide +kernel
theorem dX9_fits_67 : decode cX9_fits 67 = .ok (.invokevirtual 225, 3) := by decide +kernel
theorem dX9_fits_70 : decode cX9_fits 70 = .ok (.ifCond .eq 19, 3) := by decide +kernel
theorem dX9_fits_73 : decode cX9_fits 73 = .ok (.iinc 2 1, 3) := by decide +kernel
theorem dX9_fits_76 : decode cX9_fits 76 = .ok (.iload_n 3, 1) := by decide +kernel
theorem dX9_fits_77 : decode cX9_fits 77 = .ok (.aload_n 0, 1) := by decide +kernel
theorem dX9_fits_78 : decode cX9_fits 78 = .ok (.getfield 49, 3) := by decide +kernel
theorem dX9_fits_81 : decode cX9_fits 81 = .ok (.iload_n 1, 1) := by decide +kernel
theorem dX9_fits_82 : decode cX9_fits 82 = .ok (.invokevirtual 229, 3) := by decide +kernel
theorem dX9_fits_85 : decode cX9_fits 85 = .ok (.invokestatic 232, 3) := by decide +kernel
theorem dX9_fits_88 : decode cX9_fits 88 = .ok (.istore_n 3, 1) := by decide +kernel
theorem dX9_fits_89 : decode cX9_fits 89 = .ok (.aload_n 0, 1) := by decide +kernel
theorem dX9_fits_90 : decode cX9_fits 90 = .ok (.getfield 49, 3) := by decide +kernel
theorem dX9_fits_93 : decode cX9_fits 93 = .ok (.invokevirtual 236, 3) := by decide +kernel
theorem dX9_fits_96 : decode cX9_fits 96 = .ok (.ifCond .ne 6, 3) := by decide +kernel
theorem dX9_fits_99 : decode cX9_fits 99 = .ok (.goto 9, 3) := by decide +kernel
theorem dX9_fits_102 : decode cX9_fits 102 = .ok (.iinc 4 1, 3) := by decide +kernel
theorem dX9_fits_105 : decode cX9_fits 105 = .ok (.goto (-69), 3) := by decide +kernel
theorem dX9_fits_108 : decode cX9_fits 108 = .ok (.iload_n 1, 1) := by decide +kernel
theorem dX9_fits_109 : decode cX9_fits 109 = .ok (.iconst (-1), 1) := by decide +kernel
theorem dX9_fits_110 : decode cX9_fits 110 = .ok (.if_icmp .ne 7, 3) := by decide +kernel
theorem dX9_fits_113 : decode cX9_fits 113 = .ok (.iload_n 2, 1) := by decide +kernel
theorem dX9_fits_114 : decode cX9_fits 114 = .ok (.goto 4, 3) := by decide +kernel
theorem dX9_fits_117 : decode cX9_fits 117 = .ok (.iload_n 3, 1) := by decide +kernel
theorem dX9_fits_118 : decode cX9_fits 118 = .ok (.ireturn, 1) := by decide +kernel
theorem dX9_plans_0 : decode cX9_plans 0 = .ok (.aload_n 0, 1) := by decide +kernel
theorem dX9_plans_1 : decode cX9_plans 1 = .ok (.getfield 19, 3) := by decide +kernel
theorem dX9_plans_4 : decode cX9_plans 4 = .ok (.iload_n 1, 1) := by decide +kernel
theorem dX9_plans_5 : decode cX9_plans 5 = .ok (.invokevirtual 113, 3) := by decide +kernel
theorem dX9_plans_8 : decode cX9_plans 8 = .ok (.ifCond .ne 5, 3) := by decide +kernel
theorem dX9_plans_11 : decode cX9_plans 11 = .ok (.iconst (-1), 1) := by decide +kernel
theorem dX9_plans_12 : decode cX9_plans 12 = .ok (.ireturn, 1) := by decide +kernel
theorem dX9_plans_13 : decode cX9_plans 13 = .ok (.aload_n 0, 1) := by decide +kernel
theorem dX9_plans_14 : decode cX9_plans 14 = .ok (.getfield 70, 3) := by decide +kernel
theorem dX9_plans_17 : decode cX9_plans 17 = .ok (.iload_n 1, 1) := by decide +kernel
theorem dX9_plans_18 : decode cX9_plans 18 = .ok (.invokevirtual 240, 3) := by decide +kernel
theorem dX9_plans_21 : decode cX9_plans 21 = .ok (.ifCond .eq 13, 3) := by decide +kernel
theorem dX9_plans_24 : decode cX9_plans 24 = .ok (.aload_n 0, 1) := by decide +kernel
theorem dX9_plans_25 : decode cX9_plans 25 = .ok (.getfield 70, 3) := by decide +kernel
theorem dX9_plans_28 : decode cX9_plans 28 = .ok (.getfield 242, 3) := by decide +kernel
theorem dX9_plans_31 : decode cX9_plans 31 = .ok (.goto 5, 3) := by decide +kernel
theorem dX9_plans_34 : decode cX9_plans 34 = .ok (.bipush (-3), 2) := by decide +kernel
theorem dX9_plans_36 : decode cX9_plans 36 = .ok (.ireturn, 1) := by decide +kernel
theorem dX9_drops_0 : decode cX9_drops 0 = .ok (.aload_n 0, 1) := by decide +kernel
theorem dX9_drops_1 : decode cX9_drops 1 = .ok (.getfield 70, 3) := by decide +kernel
theorem dX9_drops_4 : decode cX9_drops 4 = .ok (.getfield 242, 3) := by decide +kernel
theorem dX9_drops_7 : decode cX9_drops 7 = .ok (.istore_n 1, 1) := by decide +kernel
theorem dX9_drops_8 : decode cX9_drops 8 = .ok (.aload_n 0, 1) := by decide +kernel
theorem dX9_drops_9 : decode cX9_drops 9 = .ok (.getfield 70, 3) := by decide +kernel
theorem dX9_drops_12 : decode cX9_drops 12 = .ok (.iconst 0, 1) := by decide +kernel
theorem dX9_drops_13 : decode cX9_drops 13 = .ok (.putfield 242, 3) := by decide +kernel
theorem dX9_drops_16 : decode cX9_drops 16 = .ok (.iload_n 1, 1) := by decide +kernel
theorem dX9_drops_17 : decode cX9_drops 17 = .ok (.ireturn, 1) := by decide +kernel
theorem dX9_planned_0 : decode cX9_planned 0 = .ok (.iload_n 1, 1) := by decide +kernel
theorem dX9_planned_1 : decode cX9_planned 1 = .ok (.ifCond .lt 8, 3) := by decide +kernel
theorem dX9_planned_4 : decode cX9_planned 4 = .ok (.iload_n 1, 1) := by decide +kernel
theorem dX9_planned_5 : decode cX9_planned 5 = .ok (.iconst 3, 1) := by decide +kernel
theorem dX9_planned_6 : decode cX9_planned 6 = .ok (.if_icmp .le 5, 3) := by decide +kernel
theorem dX9_planned_9 : decode cX9_planned 9 = .ok (.iconst (-1), 1) := by decide +kernel
theorem dX9_planned_10 : decode cX9_planned 10 = .ok (.ireturn, 1) := by decide +kernel
theorem dX9_planned_11 : decode cX9_planned 11 = .ok (.aload_n 0, 1) := by decide +kernel
theorem dX9_planned_12 : decode cX9_planned 12 = .ok (.getfield 70, 3) := by decide +kernel
theorem dX9_planned_15 : decode cX9_planned 15 = .ok (.aload_n 0, 1) := by decide +kernel
theorem dX9_planned_16 : decode cX9_planned 16 = .ok (.getfield 29, 3) := by decide +kernel
theorem dX9_planned_19 : decode cX9_planned 19 = .ok (.invokevirtual 243, 3) := by decide +kernel
theorem dX9_planned_22 : decode cX9_planned 22 = .ok (.aload_n 0, 1) := by decide +kernel
theorem dX9_planned_23 : decode cX9_planned 23 = .ok (.getfield 70, 3) := by decide +kernel
theorem dX9_planned_26 : decode cX9_planned 26 = .ok (.aload_n 0, 1) := by decide +kernel
theorem dX9_planned_27 : decode cX9_planned 27 = .ok (.getfield 19, 3) := by decide +kernel
theorem dX9_planned_30 : decode cX9_planned 30 = .ok (.aload_n 0, 1) := by decide +kernel
theorem dX9_planned_31 : decode cX9_planned 31 = .ok (.getfield 29, 3) := by decide +kernel
theorem dX9_planned_34 : decode cX9_planned 34 = .ok (.aload_n 0, 1) := by decide +kernel
theorem dX9_planned_35 : decode cX9_planned 35 = .ok (.getfield 70, 3) := by decide +kernel
theorem dX9_planned_38 : decode cX9_planned 38 = .ok (.invokevirtual 246, 3) := by decide +kernel
theorem dX9_planned_41 : decode cX9_planned 41 = .ok (.invokevirtual 249, 3) := by decide +kernel
theorem dX9_planned_44 : decode cX9_planned 44 = .ok (.iload_n 1, 1) := by decide +kernel
theorem dX9_planned_45 : decode cX9_planned 45 = .ok (.tableswitch 77 0 2 #[27, 39, 58], 27) := by decide +kernel
theorem dX9_planned_72 : decode cX9_planned 72 = .ok (.aload_n 0, 1) := by decide +kernel
theorem dX9_planned_73 : decode cX9_planned 73 = .ok (.aload_n 0, 1) := by decide +kernel
theorem dX9_planned_74 : decode cX9_planned 74 = .ok (.getfield 70, 3) := by decide +kernel
theorem dX9_planned_77 : decode cX9_planned 77 = .ok (.getfield 252, 3) := by decide +kernel
theorem dX9_planned_80 : decode cX9_planned 80 = .ok (.invokevirtual 161, 3) := by decide +kernel
theorem dX9_planned_83 : decode cX9_planned 83 = .ok (.ireturn, 1) := by decide +kernel
theorem dX9_planned_84 : decode cX9_planned 84 = .ok (.aload_n 0, 1) := by decide +kernel
theorem dX9_planned_85 : decode cX9_planned 85 = .ok (.getfield 70, 3) := by decide +kernel
theorem dX9_planned_88 : decode cX9_planned 88 = .ok (.getfield 252, 3) := by decide +kernel
theorem dX9_planned_91 : decode cX9_planned 91 = .ok (.getfield 165, 3) := by decide +kernel
theorem dX9_planned_94 : decode cX9_planned 94 = .ok (.aload_n 0, 1) := by decide +kernel
theorem dX9_planned_95 : decode cX9_planned 95 = .ok (.getfield 29, 3) := by decide +kernel
theorem dX9_planned_98 : decode cX9_planned 98 = .ok (.getfield 165, 3) := by decide +kernel
theorem dX9_planned_101 : decode cX9_planned 101 = .ok (.isub, 1) := by decide +kernel
theorem dX9_planned_102 : decode cX9_planned 102 = .ok (.ireturn, 1) := by decide +kernel
theorem dX9_planned_103 : decode cX9_planned 103 = .ok (.aload_n 0, 1) := by decide +kernel
theorem dX9_planned_104 : decode cX9_planned 104 = .ok (.getfield 70, 3) := by decide +kernel
theorem dX9_planned_107 : decode cX9_planned 107 = .ok (.getfield 252, 3) := by decide +kernel
theorem dX9_planned_110 : decode cX9_planned 110 = .ok (.getfield 168, 3) := by decide +kernel
theorem dX9_planned_113 : decode cX9_planned 113 = .ok (.aload_n 0, 1) := by decide +kernel
theorem dX9_planned_114 : decode cX9_planned 114 = .ok (.getfield 29, 3) := by decide +kernel
theorem dX9_planned_117 : decode cX9_planned 117 = .ok (.getfield 168, 3) := by decide +kernel
theorem dX9_planned_120 : decode cX9_planned 120 = .ok (.isub, 1) := by decide +kernel
theorem dX9_planned_121 : decode cX9_planned 121 = .ok (.ireturn, 1) := by decide +kernel
theorem dX9_planned_122 : decode cX9_planned 122 = .ok (.aload_n 0, 1) := by decide +kernel
theorem dX9_planned_123 : decode cX9_planned 123 = .ok (.getfield 70, 3) := by decide +kernel
theorem dX9_planned_126 : decode cX9_planned 126 = .ok (.getfield 253, 3) := by decide +kernel
theorem dX9_planned_129 : decode cX9_planned 129 = .ok (.ireturn, 1) := by decide +kernel
theorem dX9_odds_0 : decode cX9_odds 0 = .ok (.iload_n 1, 1) := by decide +kernel
theorem dX9_odds_1 : decode cX9_odds 1 = .ok (.ifCond .lt 18, 3) := by decide +kernel
theorem dX9_odds_4 : decode cX9_odds 4 = .ok (.iload_n 1, 1) := by decide +kernel
theorem dX9_odds_5 : decode cX9_odds 5 = .ok (.bipush 10, 2) := by decide +kernel
theorem dX9_odds_7 : decode cX9_odds 7 = .ok (.if_icmp .gt 12, 3) := by decide +kernel
theorem dX9_odds_10 : decode cX9_odds 10 = .ok (.iload_n 2, 1) := by decide +kernel
theorem dX9_odds_11 : decode cX9_odds 11 = .ok (.ifCond .lt 8, 3) := by decide +kernel
theorem dX9_odds_14 : decode cX9_odds 14 = .ok (.iload_n 2, 1) := by decide +kernel
theorem dX9_odds_15 : decode cX9_odds 15 = .ok (.iconst 1, 1) := by decide +kernel
theorem dX9_odds_16 : decode cX9_odds 16 = .ok (.if_icmp .le 5, 3) := by decide +kernel
theorem dX9_odds_19 : decode cX9_odds 19 = .ok (.iconst (-1), 1) := by decide +kernel
theorem dX9_odds_20 : decode cX9_odds 20 = .ok (.ireturn, 1) := by decide +kernel
theorem dX9_odds_21 : decode cX9_odds 21 = .ok (.aload_n 0, 1) := by decide +kernel
theorem dX9_odds_22 : decode cX9_odds 22 = .ok (.getfield 70, 3) := by decide +kernel
theorem dX9_odds_25 : decode cX9_odds 25 = .ok (.aload_n 0, 1) := by decide +kernel
theorem dX9_odds_26 : decode cX9_odds 26 = .ok (.getfield 29, 3) := by decide +kernel
theorem dX9_odds_29 : decode cX9_odds 29 = .ok (.invokevirtual 243, 3) := by decide +kernel
theorem dX9_odds_32 : decode cX9_odds 32 = .ok (.aload_n 0, 1) := by decide +kernel
theorem dX9_odds_33 : decode cX9_odds 33 = .ok (.getfield 70, 3) := by decide +kernel
theorem dX9_odds_36 : decode cX9_odds 36 = .ok (.invokevirtual 256, 3) := by decide +kernel
theorem dX9_odds_39 : decode cX9_odds 39 = .ok (.istore_n 3, 1) := by decide +kernel
theorem dX9_odds_40 : decode cX9_odds 40 = .ok (.iconst 0, 1) := by decide +kernel
theorem dX9_odds_41 : decode cX9_odds 41 = .ok (.istore 4, 2) := by decide +kernel
theorem dX9_odds_43 : decode cX9_odds 43 = .ok (.iconst 0, 1) := by decide +kernel
theorem dX9_odds_44 : decode cX9_odds 44 = .ok (.istore 5, 2) := by decide +kernel
theorem dX9_odds_46 : decode cX9_odds 46 = .ok (.iload 5, 2) := by decide +kernel
theorem dX9_odds_48 : decode cX9_odds 48 = .ok (.aload_n 0, 1) := by decide +kernel
theorem dX9_odds_49 : decode cX9_odds 49 = .ok (.getfield 70, 3) := by decide +kernel
theorem dX9_odds_52 : decode cX9_odds 52 = .ok (.invokevirtual 246, 3) := by decide +kernel
theorem dX9_odds_55 : decode cX9_odds 55 = .ok (.if_icmp .gt 55, 3) := by decide +kernel
theorem dX9_odds_58 : decode cX9_odds 58 = .ok (.aload_n 0, 1) := by decide +kernel
theorem dX9_odds_59 : decode cX9_odds 59 = .ok (.getfield 70, 3) := by decide +kernel
theorem dX9_odds_62 : decode cX9_odds 62 = .ok (.aload_n 0, 1) := by decide +kernel
theorem dX9_odds_63 : decode cX9_odds 63 = .ok (.getfield 19, 3) := by decide +kernel
theorem dX9_odds_66 : decode cX9_odds 66 = .ok (.aload_n 0, 1) := by decide +kernel
theorem dX9_odds_67 : decode cX9_odds 67 = .ok (.getfield 29, 3) := by decide +kernel
theorem dX9_odds_70 : decode cX9_odds 70 = .ok (.iload 5, 2) := by decide +kernel
theorem dX9_odds_72 : decode cX9_odds 72 = .ok (.invokevirtual 249, 3) := by decide +kernel
theorem dX9_odds_75 : decode cX9_odds 75 = .ok (.aload_n 0, 1) := by decide +kernel
theorem dX9_odds_76 : decode cX9_odds 76 = .ok (.aload_n 0, 1) := by decide +kernel
theorem dX9_odds_77 : decode cX9_odds 77 = .ok (.getfield 70, 3) := by decide +kernel
theorem dX9_odds_80 : decode cX9_odds 80 = .ok (.getfield 252, 3) := by decide +kernel
theorem dX9_odds_83 : decode cX9_odds 83 = .ok (.invokevirtual 259, 3) := by decide +kernel
theorem dX9_odds_86 : decode cX9_odds 86 = .ok (.ifCond .eq 18, 3) := by decide +kernel
theorem dX9_odds_89 : decode cX9_odds 89 = .ok (.iload 4, 2) := by decide +kernel
theorem dX9_odds_91 : decode cX9_odds 91 = .ok (.aload_n 0, 1) := by decide +kernel
theorem dX9_odds_92 : decode cX9_odds 92 = .ok (.getfield 70, 3) := by decide +kernel
theorem dX9_odds_95 : decode cX9_odds 95 = .ok (.iload 5, 2) := by decide +kernel
theorem dX9_odds_97 : decode cX9_odds 97 = .ok (.iload_n 1, 1) := by decide +kernel
theorem dX9_odds_98 : decode cX9_odds 98 = .ok (.invokevirtual 263, 3) := by decide +kernel
theorem dX9_odds_101 : decode cX9_odds 101 = .ok (.iadd, 1) := by decide +kernel
theorem dX9_odds_102 : decode cX9_odds 102 = .ok (.istore 4, 2) := by decide +kernel
theorem dX9_odds_104 : decode cX9_odds 104 = .ok (.iinc 5 1, 3) := by decide +kernel
theorem dX9_odds_107 : decode cX9_odds 107 = .ok (.goto (-61), 3) := by decide +kernel
theorem dX9_odds_110 : decode cX9_odds 110 = .ok (.iload 4, 2) := by decide +kernel
theorem dX9_odds_112 : decode cX9_odds 112 = .ok (.iload_n 3, 1) := by decide +kernel
theorem dX9_odds_113 : decode cX9_odds 113 = .ok (.invokestatic 266, 3) := by decide +kernel
theorem dX9_odds_116 : decode cX9_odds 116 = .ok (.istore 5, 2) := by decide +kernel
theorem dX9_odds_118 : decode cX9_odds 118 = .ok (.iload 5, 2) := by decide +kernel
theorem dX9_odds_120 : decode cX9_odds 120 = .ok (.ifCond .ne 5, 3) := by decide +kernel
theorem dX9_odds_123 : decode cX9_odds 123 = .ok (.iconst (-1), 1) := by decide +kernel
theorem dX9_odds_124 : decode cX9_odds 124 = .ok (.ireturn, 1) := by decide +kernel
theorem dX9_odds_125 : decode cX9_odds 125 = .ok (.iload_n 2, 1) := by decide +kernel
theorem dX9_odds_126 : decode cX9_odds 126 = .ok (.ifCond .ne 8, 3) := by decide +kernel
theorem dX9_odds_129 : decode cX9_odds 129 = .ok (.iload 4, 2) := by decide +kernel
theorem dX9_odds_131 : decode cX9_odds 131 = .ok (.goto 4, 3) := by decide +kernel
theorem dX9_odds_134 : decode cX9_odds 134 = .ok (.iload_n 3, 1) := by decide +kernel
theorem dX9_odds_135 : decode cX9_odds 135 = .ok (.iload 5, 2) := by decide +kernel
theorem dX9_odds_137 : decode cX9_odds 137 = .ok (.idiv, 1) := by decide +kernel
theorem dX9_odds_138 : decode cX9_odds 138 = .ok (.ireturn, 1) := by decide +kernel
theorem dX9_mark_0 : decode cX9_mark 0 = .ok (.aload_n 0, 1) := by decide +kernel
theorem dX9_mark_1 : decode cX9_mark 1 = .ok (.getfield 19, 3) := by decide +kernel
theorem dX9_mark_4 : decode cX9_mark 4 = .ok (.iload_n 2, 1) := by decide +kernel
theorem dX9_mark_5 : decode cX9_mark 5 = .ok (.invokevirtual 93, 3) := by decide +kernel
theorem dX9_mark_8 : decode cX9_mark 8 = .ok (.ifCond .ne 7, 3) := by decide +kernel
theorem dX9_mark_11 : decode cX9_mark 11 = .ok (.ldc_w 269, 3) := by decide +kernel
theorem dX9_mark_14 : decode cX9_mark 14 = .ok (.ireturn, 1) := by decide +kernel
theorem dX9_mark_15 : decode cX9_mark 15 = .ok (.iload_n 1, 1) := by decide +kernel
theorem dX9_mark_16 : decode cX9_mark 16 = .ok (.tableswitch 76 0 5 #[40, 46, 52, 58, 64, 70], 40) := by decide +kernel
theorem dX9_mark_56 : decode cX9_mark 56 = .ok (.aload_n 0, 1) := by decide +kernel
theorem dX9_mark_57 : decode cX9_mark 57 = .ok (.iload_n 2, 1) := by decide +kernel
theorem dX9_mark_58 : decode cX9_mark 58 = .ok (.invokevirtual 270, 3) := by decide +kernel
theorem dX9_mark_61 : decode cX9_mark 61 = .ok (.ireturn, 1) := by decide +kernel
theorem dX9_mark_62 : decode cX9_mark 62 = .ok (.aload_n 0, 1) := by decide +kernel
theorem dX9_mark_63 : decode cX9_mark 63 = .ok (.iload_n 2, 1) := by decide +kernel
theorem dX9_mark_64 : decode cX9_mark 64 = .ok (.invokevirtual 273, 3) := by decide +kernel
theorem dX9_mark_67 : decode cX9_mark 67 = .ok (.ireturn, 1) := by decide +kernel
theorem dX9_mark_68 : decode cX9_mark 68 = .ok (.aload_n 0, 1) := by decide +kernel
theorem dX9_mark_69 : decode cX9_mark 69 = .ok (.iload_n 2, 1) := by decide +kernel
theorem dX9_mark_70 : decode cX9_mark 70 = .ok (.invokevirtual 276, 3) := by decide +kernel
theorem dX9_mark_73 : decode cX9_mark 73 = .ok (.ireturn, 1) := by decide +kernel
theorem dX9_mark_74 : decode cX9_mark 74 = .ok (.aload_n 0, 1) := by decide +kernel
theorem dX9_mark_75 : decode cX9_mark 75 = .ok (.iload_n 2, 1) := by decide +kernel
theorem dX9_mark_76 : decode cX9_mark 76 = .ok (.invokevirtual 279, 3) := by decide +kernel
theorem dX9_mark_79 : decode cX9_mark 79 = .ok (.ireturn, 1) := by decide +kernel
theorem dX9_mark_80 : decode cX9_mark 80 = .ok (.aload_n 0, 1) := by decide +kernel
theorem dX9_mark_81 : decode cX9_mark 81 = .ok (.iload_n 2, 1) := by decide +kernel
theorem dX9_mark_82 : decode cX9_mark 82 = .ok (.invokevirtual 282, 3) := by decide +kernel
theorem dX9_mark_85 : decode cX9_mark 85 = .ok (.ireturn, 1) := by decide +kernel
theorem dX9_mark_86 : decode cX9_mark 86 = .ok (.aload_n 0, 1) := by decide +kernel
theorem dX9_mark_87 : decode cX9_mark 87 = .ok (.iload_n 2, 1) := by decide +kernel
theorem dX9_mark_88 : decode cX9_mark 88 = .ok (.invokevirtual 285, 3) := by decide +kernel
theorem dX9_mark_91 : decode cX9_mark 91 = .ok (.ireturn, 1) := by decide +kernel
theorem dX9_mark_92 : decode cX9_mark 92 = .ok (.ldc_w 269, 3) := by decide +kernel
theorem dX9_mark_95 : decode cX9_mark 95 = .ok (.ireturn, 1) := by decide +kernel
theorem dX9_keep_0 : decode cX9_keep 0 = .ok (.iload_n 1, 1) := by decide +kernel
theorem dX9_keep_1 : decode cX9_keep 1 = .ok (.ifCond .lt 8, 3) := by decide +kernel
theorem dX9_keep_4 : decode cX9_keep 4 = .ok (.iload_n 1, 1) := by decide +kernel
theorem dX9_keep_5 : decode cX9_keep 5 = .ok (.iconst 2, 1) := by decide +kernel
theorem dX9_keep_6 : decode cX9_keep 6 = .ok (.if_icmp .lt 5, 3) := by decide +kernel
theorem dX9_keep_9 : decode cX9_keep 9 = .ok (.iconst (-1), 1) := by decide +kernel
theorem dX9_keep_10 : decode cX9_keep 10 = .ok (.ireturn, 1) := by decide +kernel
theorem dX9_keep_11 : decode cX9_keep 11 = .ok (.aload_n 0, 1) := by decide +kernel
theorem dX9_keep_12 : decode cX9_keep 12 = .ok (.getfield 42, 3) := by decide +kernel
theorem dX9_keep_15 : decode cX9_keep 15 = .ok (.iload_n 1, 1) := by decide +kernel
theorem dX9_keep_16 : decode cX9_keep 16 = .ok (.aaload, 1) := by decide +kernel
theorem dX9_keep_17 : decode cX9_keep 17 = .ok (.aload_n 0, 1) := by decide +kernel
theorem dX9_keep_18 : decode cX9_keep 18 = .ok (.getfield 29, 3) := by decide +kernel
theorem dX9_keep_21 : decode cX9_keep 21 = .ok (.aload_n 0, 1) := by decide +kernel
theorem dX9_keep_22 : decode cX9_keep 22 = .ok (.getfield 36, 3) := by decide +kernel
theorem dX9_keep_25 : decode cX9_keep 25 = .ok (.invokevirtual 288, 3) := by decide +kernel
theorem dX9_keep_28 : decode cX9_keep 28 = .ok (.aload_n 0, 1) := by decide +kernel
theorem dX9_keep_29 : decode cX9_keep 29 = .ok (.getfield 29, 3) := by decide +kernel
theorem dX9_keep_32 : decode cX9_keep 32 = .ok (.getfield 165, 3) := by decide +kernel
theorem dX9_keep_35 : decode cX9_keep 35 = .ok (.ireturn, 1) := by decide +kernel
theorem dX9_back_0 : decode cX9_back 0 = .ok (.iload_n 1, 1) := by decide +kernel
theorem dX9_back_1 : decode cX9_back 1 = .ok (.ifCond .lt 8, 3) := by decide +kernel
theorem dX9_back_4 : decode cX9_back 4 = .ok (.iload_n 1, 1) := by decide +kernel
theorem dX9_back_5 : decode cX9_back 5 = .ok (.iconst 2, 1) := by decide +kernel
theorem dX9_back_6 : decode cX9_back 6 = .ok (.if_icmp .lt 5, 3) := by decide +kernel
theorem dX9_back_9 : decode cX9_back 9 = .ok (.iconst (-1), 1) := by decide +kernel
theorem dX9_back_10 : decode cX9_back 10 = .ok (.ireturn, 1) := by decide +kernel
theorem dX9_back_11 : decode cX9_back 11 = .ok (.aload_n 0, 1) := by decide +kernel
theorem dX9_back_12 : decode cX9_back 12 = .ok (.getfield 42, 3) := by decide +kernel
theorem dX9_back_15 : decode cX9_back 15 = .ok (.iload_n 1, 1) := by decide +kernel
theorem dX9_back_16 : decode cX9_back 16 = .ok (.aaload, 1) := by decide +kernel
theorem dX9_back_17 : decode cX9_back 17 = .ok (.getfield 292, 3) := by decide +kernel
theorem dX9_back_20 : decode cX9_back 20 = .ok (.ifCond .ne 6, 3) := by decide +kernel
theorem dX9_back_23 : decode cX9_back 23 = .ok (.bipush (-2), 2) := by decide +kernel
theorem dX9_back_25 : decode cX9_back 25 = .ok (.ireturn, 1) := by decide +kernel
theorem dX9_back_26 : decode cX9_back 26 = .ok (.aload_n 0, 1) := by decide +kernel
theorem dX9_back_27 : decode cX9_back 27 = .ok (.getfield 42, 3) := by decide +kernel
theorem dX9_back_30 : decode cX9_back 30 = .ok (.iload_n 1, 1) := by decide +kernel
theorem dX9_back_31 : decode cX9_back 31 = .ok (.aaload, 1) := by decide +kernel
theorem dX9_back_32 : decode cX9_back 32 = .ok (.aload_n 0, 1) := by decide +kernel
theorem dX9_back_33 : decode cX9_back 33 = .ok (.getfield 29, 3) := by decide +kernel
theorem dX9_back_36 : decode cX9_back 36 = .ok (.aload_n 0, 1) := by decide +kernel
theorem dX9_back_37 : decode cX9_back 37 = .ok (.getfield 36, 3) := by decide +kernel
theorem dX9_back_40 : decode cX9_back 40 = .ok (.invokevirtual 295, 3) := by decide +kernel
theorem dX9_back_43 : decode cX9_back 43 = .ok (.aload_n 0, 1) := by decide +kernel
theorem dX9_back_44 : decode cX9_back 44 = .ok (.getfield 56, 3) := by decide +kernel
theorem dX9_back_47 : decode cX9_back 47 = .ok (.iconst 0, 1) := by decide +kernel
theorem dX9_back_48 : decode cX9_back 48 = .ok (.putfield 143, 3) := by decide +kernel
theorem dX9_back_51 : decode cX9_back 51 = .ok (.aload_n 0, 1) := by decide +kernel
theorem dX9_back_52 : decode cX9_back 52 = .ok (.getfield 29, 3) := by decide +kernel
theorem dX9_back_55 : decode cX9_back 55 = .ok (.getfield 165, 3) := by decide +kernel
theorem dX9_back_58 : decode cX9_back 58 = .ok (.ireturn, 1) := by decide +kernel
theorem dX9_count_0 : decode cX9_count 0 = .ok (.iload_n 1, 1) := by decide +kernel
theorem dX9_count_1 : decode cX9_count 1 = .ok (.tableswitch 99 0 6 #[43, 51, 59, 67, 75, 83, 91], 43) := by decide +kernel
theorem dX9_count_44 : decode cX9_count 44 = .ok (.aload_n 0, 1) := by decide +kernel
theorem dX9_count_45 : decode cX9_count 45 = .ok (.getfield 19, 3) := by decide +kernel
theorem dX9_count_48 : decode cX9_count 48 = .ok (.getfield 298, 3) := by decide +kernel
theorem dX9_count_51 : decode cX9_count 51 = .ok (.ireturn, 1) := by decide +kernel
theorem dX9_count_52 : decode cX9_count 52 = .ok (.aload_n 0, 1) := by decide +kernel
theorem dX9_count_53 : decode cX9_count 53 = .ok (.getfield 19, 3) := by decide +kernel
theorem dX9_count_56 : decode cX9_count 56 = .ok (.getfield 301, 3) := by decide +kernel
theorem dX9_count_59 : decode cX9_count 59 = .ok (.ireturn, 1) := by decide +kernel
theorem dX9_count_60 : decode cX9_count 60 = .ok (.aload_n 0, 1) := by decide +kernel
theorem dX9_count_61 : decode cX9_count 61 = .ok (.getfield 19, 3) := by decide +kernel
theorem dX9_count_64 : decode cX9_count 64 = .ok (.getfield 304, 3) := by decide +kernel
theorem dX9_count_67 : decode cX9_count 67 = .ok (.ireturn, 1) := by decide +kernel
theorem dX9_count_68 : decode cX9_count 68 = .ok (.aload_n 0, 1) := by decide +kernel
theorem dX9_count_69 : decode cX9_count 69 = .ok (.getfield 63, 3) := by decide +kernel
theorem dX9_count_72 : decode cX9_count 72 = .ok (.getfield 218, 3) := by decide +kernel
theorem dX9_count_75 : decode cX9_count 75 = .ok (.ireturn, 1) := by decide +kernel
theorem dX9_count_76 : decode cX9_count 76 = .ok (.aload_n 0, 1) := by decide +kernel
theorem dX9_count_77 : decode cX9_count 77 = .ok (.getfield 70, 3) := by decide +kernel
theorem dX9_count_80 : decode cX9_count 80 = .ok (.getfield 242, 3) := by decide +kernel
theorem dX9_count_83 : decode cX9_count 83 = .ok (.ireturn, 1) := by decide +kernel
theorem dX9_count_84 : decode cX9_count 84 = .ok (.aload_n 0, 1) := by decide +kernel
theorem dX9_count_85 : decode cX9_count 85 = .ok (.getfield 36, 3) := by decide +kernel
theorem dX9_count_88 : decode cX9_count 88 = .ok (.getfield 155, 3) := by decide +kernel
theorem dX9_count_91 : decode cX9_count 91 = .ok (.ireturn, 1) := by decide +kernel
theorem dX9_count_92 : decode cX9_count 92 = .ok (.aload_n 0, 1) := by decide +kernel
theorem dX9_count_93 : decode cX9_count 93 = .ok (.getfield 12, 3) := by decide +kernel
theorem dX9_count_96 : decode cX9_count 96 = .ok (.getfield 79, 3) := by decide +kernel
theorem dX9_count_99 : decode cX9_count 99 = .ok (.ireturn, 1) := by decide +kernel
theorem dX9_count_100 : decode cX9_count 100 = .ok (.iconst (-1), 1) := by decide +kernel
theorem dX9_count_101 : decode cX9_count 101 = .ok (.ireturn, 1) := by decide +kernel
theorem dX9_trace_0 : decode cX9_trace 0 = .ok (.aload_n 0, 1) := by decide +kernel
theorem dX9_trace_1 : decode cX9_trace 1 = .ok (.getfield 307, 3) := by decide +kernel
theorem dX9_trace_4 : decode cX9_trace 4 = .ok (.lreturn, 1) := by decide +kernel
theorem dX9_begin_0 : decode cX9_begin 0 = .ok (.aload_n 0, 1) := by decide +kernel
theorem dX9_begin_1 : decode cX9_begin 1 = .ok (.getfield 29, 3) := by decide +kernel
theorem dX9_begin_4 : decode cX9_begin 4 = .ok (.invokevirtual 311, 3) := by decide +kernel
theorem dX9_begin_7 : decode cX9_begin 7 = .ok (.aload_n 0, 1) := by decide +kernel
theorem dX9_begin_8 : decode cX9_begin 8 = .ok (.getfield 36, 3) := by decide +kernel
theorem dX9_begin_11 : decode cX9_begin 11 = .ok (.iconst 0, 1) := by decide +kernel
theorem dX9_begin_12 : decode cX9_begin 12 = .ok (.putfield 155, 3) := by decide +kernel
theorem dX9_begin_15 : decode cX9_begin 15 = .ok (.iconst 0, 1) := by decide +kernel
theorem dX9_begin_16 : decode cX9_begin 16 = .ok (.istore_n 1, 1) := by decide +kernel
theorem dX9_begin_17 : decode cX9_begin 17 = .ok (.iload_n 1, 1) := by decide +kernel
theorem dX9_begin_18 : decode cX9_begin 18 = .ok (.iconst 2, 1) := by decide +kernel
theorem dX9_begin_19 : decode cX9_begin 19 = .ok (.if_icmp .ge 19, 3) := by decide +kernel
theorem dX9_begin_22 : decode cX9_begin 22 = .ok (.aload_n 0, 1) := by decide +kernel
theorem dX9_begin_23 : decode cX9_begin 23 = .ok (.getfield 42, 3) := by decide +kernel
theorem dX9_begin_26 : decode cX9_begin 26 = .ok (.iload_n 1, 1) := by decide +kernel
theorem dX9_begin_27 : decode cX9_begin 27 = .ok (.aaload, 1) := by decide +kernel
theorem dX9_begin_28 : decode cX9_begin 28 = .ok (.iconst 0, 1) := by decide +kernel
theorem dX9_begin_29 : decode cX9_begin 29 = .ok (.putfield 292, 3) := by decide +kernel
theorem dX9_begin_32 : decode cX9_begin 32 = .ok (.iinc 1 1, 3) := by decide +kernel
theorem dX9_begin_35 : decode cX9_begin 35 = .ok (.goto (-18), 3) := by decide +kernel
theorem dX9_begin_38 : decode cX9_begin 38 = .ok (.aload_n 0, 1) := by decide +kernel
theorem dX9_begin_39 : decode cX9_begin 39 = .ok (.getfield 63, 3) := by decide +kernel
theorem dX9_begin_42 : decode cX9_begin 42 = .ok (.iconst 0, 1) := by decide +kernel
theorem dX9_begin_43 : decode cX9_begin 43 = .ok (.putfield 218, 3) := by decide +kernel
theorem dX9_begin_46 : decode cX9_begin 46 = .ok (.aload_n 0, 1) := by decide +kernel
theorem dX9_begin_47 : decode cX9_begin 47 = .ok (.getfield 70, 3) := by decide +kernel
theorem dX9_begin_50 : decode cX9_begin 50 = .ok (.iconst 0, 1) := by decide +kernel
theorem dX9_begin_51 : decode cX9_begin 51 = .ok (.putfield 242, 3) := by decide +kernel
theorem dX9_begin_54 : decode cX9_begin 54 = .ok (.aload_n 0, 1) := by decide +kernel
theorem dX9_begin_55 : decode cX9_begin 55 = .ok (.getfield 56, 3) := by decide +kernel
theorem dX9_begin_58 : decode cX9_begin 58 = .ok (.iconst 0, 1) := by decide +kernel
theorem dX9_begin_59 : decode cX9_begin 59 = .ok (.putfield 143, 3) := by decide +kernel
theorem dX9_begin_62 : decode cX9_begin 62 = .ok (.return_, 1) := by decide +kernel
theorem dX9_whereabouts_0 : decode cX9_whereabouts 0 = .ok (.aload_n 0, 1) := by decide +kernel
theorem dX9_whereabouts_1 : decode cX9_whereabouts 1 = .ok (.getfield 19, 3) := by decide +kernel
theorem dX9_whereabouts_4 : decode cX9_whereabouts 4 = .ok (.getfield 298, 3) := by decide +kernel
theorem dX9_whereabouts_7 : decode cX9_whereabouts 7 = .ok (.ifCond .le 10, 3) := by decide +kernel
theorem dX9_whereabouts_10 : decode cX9_whereabouts 10 = .ok (.aload_n 1, 1) := by decide +kernel
theorem dX9_whereabouts_11 : decode cX9_whereabouts 11 = .ok (.getfield 147, 3) := by decide +kernel
theorem dX9_whereabouts_14 : decode cX9_whereabouts 14 = .ok (.goto 5, 3) := by decide +kernel
theorem dX9_whereabouts_17 : decode cX9_whereabouts 17 = .ok (.bipush (-9), 2) := by decide +kernel
theorem dX9_whereabouts_19 : decode cX9_whereabouts 19 = .ok (.ireturn, 1) := by decide +kernel
theorem dX9_isHome_0 : decode cX9_isHome 0 = .ok (.aload_n 0, 1) := by decide +kernel
theorem dX9_isHome_1 : decode cX9_isHome 1 = .ok (.getfield 19, 3) := by decide +kernel
theorem dX9_isHome_4 : decode cX9_isHome 4 = .ok (.getfield 298, 3) := by decide +kernel
theorem dX9_isHome_7 : decode cX9_isHome 7 = .ok (.ifCond .le 14, 3) := by decide +kernel
theorem dX9_isHome_10 : decode cX9_isHome 10 = .ok (.aload_n 1, 1) := by decide +kernel
theorem dX9_isHome_11 : decode cX9_isHome 11 = .ok (.getfield 147, 3) := by decide +kernel
theorem dX9_isHome_14 : decode cX9_isHome 14 = .ok (.ifCond .ne 7, 3) := by decide +kernel
theorem dX9_isHome_17 : decode cX9_isHome 17 = .ok (.iconst 1, 1) := by decide +kernel
theorem dX9_isHome_18 : decode cX9_isHome 18 = .ok (.goto 4, 3) := by decide +kernel
theorem dX9_isHome_21 : decode cX9_isHome 21 = .ok (.iconst 0, 1) := by decide +kernel
theorem dX9_isHome_22 : decode cX9_isHome 22 = .ok (.ireturn, 1) := by decide +kernel
theorem dX9_lookOut_0 : decode cX9_lookOut 0 = .ok (.aload_n 0, 1) := by decide +kernel
theorem dX9_lookOut_1 : decode cX9_lookOut 1 = .ok (.getfield 56, 3) := by decide +kernel
theorem dX9_lookOut_4 : decode cX9_lookOut 4 = .ok (.getfield 143, 3) := by decide +kernel
theorem dX9_lookOut_7 : decode cX9_lookOut 7 = .ok (.ifCond .eq 4, 3) := by decide +kernel
theorem dX9_lookOut_10 : decode cX9_lookOut 10 = .ok (.return_, 1) := by decide +kernel
theorem dX9_lookOut_11 : decode cX9_lookOut 11 = .ok (.aload_n 0, 1) := by decide +kernel
theorem dX9_lookOut_12 : decode cX9_lookOut 12 = .ok (.getfield 56, 3) := by decide +kernel
theorem dX9_lookOut_15 : decode cX9_lookOut 15 = .ok (.aload_n 0, 1) := by decide +kernel
theorem dX9_lookOut_16 : decode cX9_lookOut 16 = .ok (.getfield 29, 3) := by decide +kernel
theorem dX9_lookOut_19 : decode cX9_lookOut 19 = .ok (.invokevirtual 312, 3) := by decide +kernel
theorem dX9_lookOut_22 : decode cX9_lookOut 22 = .ok (.aload_n 0, 1) := by decide +kernel
theorem dX9_lookOut_23 : decode cX9_lookOut 23 = .ok (.getfield 49, 3) := by decide +kernel
theorem dX9_lookOut_26 : decode cX9_lookOut 26 = .ok (.aload_n 0, 1) := by decide +kernel
theorem dX9_lookOut_27 : decode cX9_lookOut 27 = .ok (.getfield 19, 3) := by decide +kernel
theorem dX9_lookOut_30 : decode cX9_lookOut 30 = .ok (.aload_n 0, 1) := by decide +kernel
theorem dX9_lookOut_31 : decode cX9_lookOut 31 = .ok (.getfield 29, 3) := by decide +kernel
theorem dX9_lookOut_34 : decode cX9_lookOut 34 = .ok (.invokevirtual 219, 3) := by decide +kernel
theorem dX9_lookOut_37 : decode cX9_lookOut 37 = .ok (.iconst 0, 1) := by decide +kernel
theorem dX9_lookOut_38 : decode cX9_lookOut 38 = .ok (.istore_n 1, 1) := by decide +kernel
theorem dX9_lookOut_39 : decode cX9_lookOut 39 = .ok (.iload_n 1, 1) := by decide +kernel
theorem dX9_lookOut_40 : decode cX9_lookOut 40 = .ok (.sipush 720, 3) := by decide +kernel
theorem dX9_lookOut_43 : decode cX9_lookOut 43 = .ok (.if_icmp .ge 63, 3) := by decide +kernel
theorem dX9_lookOut_46 : decode cX9_lookOut 46 = .ok (.aload_n 0, 1) := by decide +kernel
theorem dX9_lookOut_47 : decode cX9_lookOut 47 = .ok (.getfield 49, 3) := by decide +kernel
theorem dX9_lookOut_50 : decode cX9_lookOut 50 = .ok (.aload_n 0, 1) := by decide +kernel
theorem dX9_lookOut_51 : decode cX9_lookOut 51 = .ok (.getfield 19, 3) := by decide +kernel
theorem dX9_lookOut_54 : decode cX9_lookOut 54 = .ok (.aload_n 0, 1) := by decide +kernel
theorem dX9_lookOut_55 : decode cX9_lookOut 55 = .ok (.getfield 29, 3) := by decide +kernel
theorem dX9_lookOut_58 : decode cX9_lookOut 58 = .ok (.invokevirtual 222, 3) := by decide +kernel
theorem dX9_lookOut_61 : decode cX9_lookOut 61 = .ok (.aload_n 0, 1) := by decide +kernel
theorem dX9_lookOut_62 : decode cX9_lookOut 62 = .ok (.getfield 56, 3) := by decide +kernel
theorem dX9_lookOut_65 : decode cX9_lookOut 65 = .ok (.aload_n 0, 1) := by decide +kernel
theorem dX9_lookOut_66 : decode cX9_lookOut 66 = .ok (.getfield 49, 3) := by decide +kernel
theorem dX9_lookOut_69 : decode cX9_lookOut 69 = .ok (.aload_n 0, 1) := by decide +kernel
theorem dX9_lookOut_70 : decode cX9_lookOut 70 = .ok (.getfield 29, 3) := by decide +kernel
theorem dX9_lookOut_73 : decode cX9_lookOut 73 = .ok (.aload_n 0, 1) := by decide +kernel
theorem dX9_lookOut_74 : decode cX9_lookOut 74 = .ok (.aload_n 0, 1) := by decide +kernel
theorem dX9_lookOut_75 : decode cX9_lookOut 75 = .ok (.getfield 49, 3) := by decide +kernel
theorem dX9_lookOut_78 : decode cX9_lookOut 78 = .ok (.getfield 314, 3) := by decide +kernel
theorem dX9_lookOut_81 : decode cX9_lookOut 81 = .ok (.invokevirtual 259, 3) := by decide +kernel
theorem dX9_lookOut_84 : decode cX9_lookOut 84 = .ok (.invokevirtual 315, 3) := by decide +kernel
theorem dX9_lookOut_87 : decode cX9_lookOut 87 = .ok (.aload_n 0, 1) := by decide +kernel
theorem dX9_lookOut_88 : decode cX9_lookOut 88 = .ok (.getfield 49, 3) := by decide +kernel
theorem dX9_lookOut_91 : decode cX9_lookOut 91 = .ok (.invokevirtual 236, 3) := by decide +kernel
theorem dX9_lookOut_94 : decode cX9_lookOut 94 = .ok (.ifCond .ne 6, 3) := by decide +kernel
theorem dX9_lookOut_97 : decode cX9_lookOut 97 = .ok (.goto 9, 3) := by decide +kernel
theorem dX9_lookOut_100 : decode cX9_lookOut 100 = .ok (.iinc 1 1, 3) := by decide +kernel
theorem dX9_lookOut_103 : decode cX9_lookOut 103 = .ok (.goto (-64), 3) := by decide +kernel
theorem dX9_lookOut_106 : decode cX9_lookOut 106 = .ok (.aload_n 0, 1) := by decide +kernel
theorem dX9_lookOut_107 : decode cX9_lookOut 107 = .ok (.getfield 19, 3) := by decide +kernel
theorem dX9_lookOut_110 : decode cX9_lookOut 110 = .ok (.getfield 298, 3) := by decide +kernel
theorem dX9_lookOut_113 : decode cX9_lookOut 113 = .ok (.ifCond .ne 11, 3) := by decide +kernel
theorem dX9_lookOut_116 : decode cX9_lookOut 116 = .ok (.aload_n 0, 1) := by decide +kernel
theorem dX9_lookOut_117 : decode cX9_lookOut 117 = .ok (.getfield 56, 3) := by decide +kernel
theorem dX9_lookOut_120 : decode cX9_lookOut 120 = .ok (.iconst 0, 1) := by decide +kernel
theorem dX9_lookOut_121 : decode cX9_lookOut 121 = .ok (.putfield 199, 3) := by decide +kernel
theorem dX9_lookOut_124 : decode cX9_lookOut 124 = .ok (.aload_n 0, 1) := by decide +kernel
theorem dX9_lookOut_125 : decode cX9_lookOut 125 = .ok (.getfield 56, 3) := by decide +kernel
theorem dX9_lookOut_128 : decode cX9_lookOut 128 = .ok (.iconst 1, 1) := by decide +kernel
theorem dX9_lookOut_129 : decode cX9_lookOut 129 = .ok (.putfield 143, 3) := by decide +kernel
theorem dX9_lookOut_132 : decode cX9_lookOut 132 = .ok (.return_, 1) := by decide +kernel
theorem dX9_agreed_0 : decode cX9_agreed 0 = .ok (.iload_n 0, 1) := by decide +kernel
theorem dX9_agreed_1 : decode cX9_agreed 1 = .ok (.bipush (-9), 2) := by decide +kernel
theorem dX9_agreed_3 : decode cX9_agreed 3 = .ok (.if_icmp .eq 8, 3) := by decide +kernel
theorem dX9_agreed_6 : decode cX9_agreed 6 = .ok (.iload_n 0, 1) := by decide +kernel
theorem dX9_agreed_7 : decode cX9_agreed 7 = .ok (.iload_n 1, 1) := by decide +kernel
theorem dX9_agreed_8 : decode cX9_agreed 8 = .ok (.if_icmp .ne 7, 3) := by decide +kernel
theorem dX9_agreed_11 : decode cX9_agreed 11 = .ok (.iload_n 1, 1) := by decide +kernel
theorem dX9_agreed_12 : decode cX9_agreed 12 = .ok (.goto 5, 3) := by decide +kernel
theorem dX9_agreed_15 : decode cX9_agreed 15 = .ok (.bipush (-5), 2) := by decide +kernel
theorem dX9_agreed_17 : decode cX9_agreed 17 = .ok (.ireturn, 1) := by decide +kernel
theorem dX9_commonDivisor_0 : decode cX9_commonDivisor 0 = .ok (.iload_n 0, 1) := by decide +kernel
theorem dX9_commonDivisor_1 : decode cX9_commonDivisor 1 = .ok (.istore_n 2, 1) := by decide +kernel
theorem dX9_commonDivisor_2 : decode cX9_commonDivisor 2 = .ok (.iload_n 1, 1) := by decide +kernel
theorem dX9_commonDivisor_3 : decode cX9_commonDivisor 3 = .ok (.istore_n 3, 1) := by decide +kernel
theorem dX9_commonDivisor_4 : decode cX9_commonDivisor 4 = .ok (.iconst 0, 1) := by decide +kernel
theorem dX9_commonDivisor_5 : decode cX9_commonDivisor 5 = .ok (.istore 4, 2) := by decide +kernel
theorem dX9_commonDivisor_7 : decode cX9_commonDivisor 7 = .ok (.iload 4, 2) := by decide +kernel
theorem dX9_commonDivisor_9 : decode cX9_commonDivisor 9 = .ok (.bipush 100, 2) := by decide +kernel
theorem dX9_commonDivisor_11 : decode cX9_commonDivisor 11 = .ok (.if_icmp .ge 23, 3) := by decide +kernel
theorem dX9_commonDivisor_14 : decode cX9_commonDivisor 14 = .ok (.iload_n 3, 1) := by decide +kernel
theorem dX9_commonDivisor_15 : decode cX9_commonDivisor 15 = .ok (.ifCond .eq 19, 3) := by decide +kernel
theorem dX9_commonDivisor_18 : decode cX9_commonDivisor 18 = .ok (.iload_n 2, 1) := by decide +kernel
theorem dX9_commonDivisor_19 : decode cX9_commonDivisor 19 = .ok (.iload_n 3, 1) := by decide +kernel
theorem dX9_commonDivisor_20 : decode cX9_commonDivisor 20 = .ok (.irem, 1) := by decide +kernel
theorem dX9_commonDivisor_21 : decode cX9_commonDivisor 21 = .ok (.istore 5, 2) := by decide +kernel
theorem dX9_commonDivisor_23 : decode cX9_commonDivisor 23 = .ok (.iload_n 3, 1) := by decide +kernel
theorem dX9_commonDivisor_24 : decode cX9_commonDivisor 24 = .ok (.istore_n 2, 1) := by decide +kernel
theorem dX9_commonDivisor_25 : decode cX9_commonDivisor 25 = .ok (.iload 5, 2) := by decide +kernel
theorem dX9_commonDivisor_27 : decode cX9_commonDivisor 27 = .ok (.istore_n 3, 1) := by decide +kernel
theorem dX9_commonDivisor_28 : decode cX9_commonDivisor 28 = .ok (.iinc 4 1, 3) := by decide +kernel
theorem dX9_commonDivisor_31 : decode cX9_commonDivisor 31 = .ok (.goto (-24), 3) := by decide +kernel
theorem dX9_commonDivisor_34 : decode cX9_commonDivisor 34 = .ok (.iload_n 2, 1) := by decide +kernel
theorem dX9_commonDivisor_35 : decode cX9_commonDivisor 35 = .ok (.ireturn, 1) := by decide +kernel
theorem dX9_askStreet_0 : decode cX9_askStreet 0 = .ok (.aload_n 0, 1) := by decide +kernel
theorem dX9_askStreet_1 : decode cX9_askStreet 1 = .ok (.dup, 1) := by decide +kernel
theorem dX9_askStreet_2 : decode cX9_askStreet 2 = .ok (.getfield 307, 3) := by decide +kernel
theorem dX9_askStreet_5 : decode cX9_askStreet 5 = .ok (.lconst 1, 1) := by decide +kernel
theorem dX9_askStreet_6 : decode cX9_askStreet 6 = .ok (.ladd, 1) := by decide +kernel
theorem dX9_askStreet_7 : decode cX9_askStreet 7 = .ok (.putfield 307, 3) := by decide +kernel
theorem dX9_askStreet_10 : decode cX9_askStreet 10 = .ok (.aload_n 0, 1) := by decide +kernel
theorem dX9_askStreet_11 : decode cX9_askStreet 11 = .ok (.getfield 19, 3) := by decide +kernel
theorem dX9_askStreet_14 : decode cX9_askStreet 14 = .ok (.getfield 103, 3) := by decide +kernel
theorem dX9_askStreet_17 : decode cX9_askStreet 17 = .ok (.iload_n 1, 1) := by decide +kernel
theorem dX9_askStreet_18 : decode cX9_askStreet 18 = .ok (.iaload, 1) := by decide +kernel
theorem dX9_askStreet_19 : decode cX9_askStreet 19 = .ok (.ireturn, 1) := by decide +kernel
theorem dX9_askAlley_0 : decode cX9_askAlley 0 = .ok (.aload_n 0, 1) := by decide +kernel
theorem dX9_askAlley_1 : decode cX9_askAlley 1 = .ok (.dup, 1) := by decide +kernel
theorem dX9_askAlley_2 : decode cX9_askAlley 2 = .ok (.getfield 307, 3) := by decide +kernel
theorem dX9_askAlley_5 : decode cX9_askAlley 5 = .ok (.ldc2_w 318, 3) := by decide +kernel
theorem dX9_askAlley_8 : decode cX9_askAlley 8 = .ok (.ladd, 1) := by decide +kernel
theorem dX9_askAlley_9 : decode cX9_askAlley 9 = .ok (.putfield 307, 3) := by decide +kernel
theorem dX9_askAlley_12 : decode cX9_askAlley 12 = .ok (.aload_n 0, 1) := by decide +kernel
theorem dX9_askAlley_13 : decode cX9_askAlley 13 = .ok (.iload_n 1, 1) := by decide +kernel
theorem dX9_askAlley_14 : decode cX9_askAlley 14 = .ok (.invokevirtual 270, 3) := by decide +kernel
theorem dX9_askAlley_17 : decode cX9_askAlley 17 = .ok (.aload_n 0, 1) := by decide +kernel
theorem dX9_askAlley_18 : decode cX9_askAlley 18 = .ok (.getfield 29, 3) := by decide +kernel
theorem dX9_askAlley_21 : decode cX9_askAlley 21 = .ok (.iload_n 1, 1) := by decide +kernel
theorem dX9_askAlley_22 : decode cX9_askAlley 22 = .ok (.invokevirtual 106, 3) := by decide +kernel
theorem dX9_askAlley_25 : decode cX9_askAlley 25 = .ok (.invokestatic 150, 3) := by decide +kernel
theorem dX9_askAlley_28 : decode cX9_askAlley 28 = .ok (.iadd, 1) := by decide +kernel
theorem dX9_askAlley_29 : decode cX9_askAlley 29 = .ok (.ireturn, 1) := by decide +kernel
theorem dX9_askBridge_0 : decode cX9_askBridge 0 = .ok (.aload_n 0, 1) := by decide +kernel
theorem dX9_askBridge_1 : decode cX9_askBridge 1 = .ok (.dup, 1) := by decide +kernel
theorem dX9_askBridge_2 : decode cX9_askBridge 2 = .ok (.getfield 307, 3) := by decide +kernel
theorem dX9_askBridge_5 : decode cX9_askBridge 5 = .ok (.ldc2_w 320, 3) := by decide +kernel
theorem dX9_askBridge_8 : decode cX9_askBridge 8 = .ok (.ladd, 1) := by decide +kernel
theorem dX9_askBridge_9 : decode cX9_askBridge 9 = .ok (.putfield 307, 3) := by decide +kernel
theorem dX9_askBridge_12 : decode cX9_askBridge 12 = .ok (.aload_n 0, 1) := by decide +kernel
theorem dX9_askBridge_13 : decode cX9_askBridge 13 = .ok (.iload_n 1, 1) := by decide +kernel
theorem dX9_askBridge_14 : decode cX9_askBridge 14 = .ok (.invokevirtual 270, 3) := by decide +kernel
theorem dX9_askBridge_17 : decode cX9_askBridge 17 = .ok (.aload_n 0, 1) := by decide +kernel
theorem dX9_askBridge_18 : decode cX9_askBridge 18 = .ok (.getfield 19, 3) := by decide +kernel
theorem dX9_askBridge_21 : decode cX9_askBridge 21 = .ok (.getfield 100, 3) := by decide +kernel
theorem dX9_askBridge_24 : decode cX9_askBridge 24 = .ok (.iload_n 1, 1) := by decide +kernel
theorem dX9_askBridge_25 : decode cX9_askBridge 25 = .ok (.iaload, 1) := by decide +kernel
theorem dX9_askBridge_26 : decode cX9_askBridge 26 = .ok (.isub, 1) := by decide +kernel
theorem dX9_askBridge_27 : decode cX9_askBridge 27 = .ok (.ireturn, 1) := by decide +kernel
theorem dX9_askCourt_0 : decode cX9_askCourt 0 = .ok (.aload_n 0, 1) := by decide +kernel
theorem dX9_askCourt_1 : decode cX9_askCourt 1 = .ok (.dup, 1) := by decide +kernel
theorem dX9_askCourt_2 : decode cX9_askCourt 2 = .ok (.getfield 307, 3) := by decide +kernel
theorem dX9_askCourt_5 : decode cX9_askCourt 5 = .ok (.ldc2_w 322, 3) := by decide +kernel
theorem dX9_askCourt_8 : decode cX9_askCourt 8 = .ok (.ladd, 1) := by decide +kernel
theorem dX9_askCourt_9 : decode cX9_askCourt 9 = .ok (.putfield 307, 3) := by decide +kernel
theorem dX9_askCourt_12 : decode cX9_askCourt 12 = .ok (.aload_n 0, 1) := by decide +kernel
theorem dX9_askCourt_13 : decode cX9_askCourt 13 = .ok (.iload_n 1, 1) := by decide +kernel
theorem dX9_askCourt_14 : decode cX9_askCourt 14 = .ok (.invokevirtual 273, 3) := by decide +kernel
theorem dX9_askCourt_17 : decode cX9_askCourt 17 = .ok (.iconst 2, 1) := by decide +kernel
theorem dX9_askCourt_18 : decode cX9_askCourt 18 = .ok (.imul, 1) := by decide +kernel
theorem dX9_askCourt_19 : decode cX9_askCourt 19 = .ok (.ireturn, 1) := by decide +kernel
theorem dX9_askQuay_0 : decode cX9_askQuay 0 = .ok (.aload_n 0, 1) := by decide +kernel
theorem dX9_askQuay_1 : decode cX9_askQuay 1 = .ok (.dup, 1) := by decide +kernel
theorem dX9_askQuay_2 : decode cX9_askQuay 2 = .ok (.getfield 307, 3) := by decide +kernel
theorem dX9_askQuay_5 : decode cX9_askQuay 5 = .ok (.ldc2_w 324, 3) := by decide +kernel
theorem dX9_askQuay_8 : decode cX9_askQuay 8 = .ok (.ladd, 1) := by decide +kernel
theorem dX9_askQuay_9 : decode cX9_askQuay 9 = .ok (.putfield 307, 3) := by decide +kernel
theorem dX9_askQuay_12 : decode cX9_askQuay 12 = .ok (.aload_n 0, 1) := by decide +kernel
theorem dX9_askQuay_13 : decode cX9_askQuay 13 = .ok (.iload_n 1, 1) := by decide +kernel
theorem dX9_askQuay_14 : decode cX9_askQuay 14 = .ok (.invokevirtual 276, 3) := by decide +kernel
theorem dX9_askQuay_17 : decode cX9_askQuay 17 = .ok (.aload_n 0, 1) := by decide +kernel
theorem dX9_askQuay_18 : decode cX9_askQuay 18 = .ok (.getfield 29, 3) := by decide +kernel
theorem dX9_askQuay_21 : decode cX9_askQuay 21 = .ok (.getfield 168, 3) := by decide +kernel
theorem dX9_askQuay_24 : decode cX9_askQuay 24 = .ok (.iadd, 1) := by decide +kernel
theorem dX9_askQuay_25 : decode cX9_askQuay 25 = .ok (.ireturn, 1) := by decide +kernel
theorem dX9_askLane_0 : decode cX9_askLane 0 = .ok (.aload_n 0, 1) := by decide +kernel
theorem dX9_askLane_1 : decode cX9_askLane 1 = .ok (.dup, 1) := by decide +kernel
theorem dX9_askLane_2 : decode cX9_askLane 2 = .ok (.getfield 307, 3) := by decide +kernel
theorem dX9_askLane_5 : decode cX9_askLane 5 = .ok (.ldc2_w 326, 3) := by decide +kernel
theorem dX9_askLane_8 : decode cX9_askLane 8 = .ok (.ladd, 1) := by decide +kernel
theorem dX9_askLane_9 : decode cX9_askLane 9 = .ok (.putfield 307, 3) := by decide +kernel
theorem dX9_askLane_12 : decode cX9_askLane 12 = .ok (.aload_n 0, 1) := by decide +kernel
theorem dX9_askLane_13 : decode cX9_askLane 13 = .ok (.iload_n 1, 1) := by decide +kernel
theorem dX9_askLane_14 : decode cX9_askLane 14 = .ok (.invokevirtual 270, 3) := by decide +kernel
theorem dX9_askLane_17 : decode cX9_askLane 17 = .ok (.aload_n 0, 1) := by decide +kernel
theorem dX9_askLane_18 : decode cX9_askLane 18 = .ok (.getfield 29, 3) := by decide +kernel
theorem dX9_askLane_21 : decode cX9_askLane 21 = .ok (.getfield 165, 3) := by decide +kernel
theorem dX9_askLane_24 : decode cX9_askLane 24 = .ok (.iadd, 1) := by decide +kernel
theorem dX9_askLane_25 : decode cX9_askLane 25 = .ok (.ireturn, 1) := by decide +kernel
