theorem dX0_init_0 : decode cX0_init 0 = .ok (.aload_n 0, 1) := by decide +kernel
theorem dX0_init_1 : decode cX0_init 1 = .ok (.invokespecial 3, 3) := by decide +kernel
theorem dX0_init_4 : decode cX0_init 4 = .ok (.aload_n 0, 1) := by decide +kernel
theorem dX0_init_5 : decode cX0_init 5 = .ok (.bipush 12, 2) := by decide +kernel
theorem dX0_init_7 : decode cX0_init 7 = .ok (.newarray .int, 2) := by decide +kernel
theorem dX0_init_9 : decode cX0_init 9 = .ok (.putfield 9, 3) := by decide +kernel
theorem dX0_init_12 : decode cX0_init 12 = .ok (.aload_n 0, 1) := by decide +kernel
theorem dX0_init_13 : decode cX0_init 13 = .ok (.bipush 12, 2) := by decide +kernel
theorem dX0_init_15 : decode cX0_init 15 = .ok (.newarray .int, 2) := by decide +kernel
theorem dX0_init_17 : decode cX0_init 17 = .ok (.putfield 15, 3) := by decide +kernel
theorem dX0_init_20 : decode cX0_init 20 = .ok (.aload_n 0, 1) := by decide +kernel
theorem dX0_init_21 : decode cX0_init 21 = .ok (.bipush 12, 2) := by decide +kernel
theorem dX0_init_23 : decode cX0_init 23 = .ok (.newarray .int, 2) := by decide +kernel
theorem dX0_init_25 : decode cX0_init 25 = .ok (.putfield 18, 3) := by decide +kernel
theorem dX0_init_28 : decode cX0_init 28 = .ok (.aload_n 0, 1) := by decide +kernel
theorem dX0_init_29 : decode cX0_init 29 = .ok (.bipush 6, 2) := by decide +kernel
theorem dX0_init_31 : decode cX0_init 31 = .ok (.newarray .int, 2) := by decide +kernel
theorem dX0_init_33 : decode cX0_init 33 = .ok (.putfield 21, 3) := by decide +kernel
theorem dX0_init_36 : decode cX0_init 36 = .ok (.aload_n 0, 1) := by decide +kernel
theorem dX0_init_37 : decode cX0_init 37 = .ok (.bipush 6, 2) := by decide +kernel
theorem dX0_init_39 : decode cX0_init 39 = .ok (.newarray .int, 2) := by decide +kernel
theorem dX0_init_41 : decode cX0_init 41 = .ok (.putfield 24, 3) := by decide +kernel
theorem dX0_init_44 : decode cX0_init 44 = .ok (.aload_n 0, 1) := by decide +kernel
theorem dX0_init_45 : decode cX0_init 45 = .ok (.bipush 8, 2) := by decide +kernel
theorem dX0_init_47 : decode cX0_init 47 = .ok (.bipush 8, 2) := by decide +kernel
theorem dX0_init_49 : decode cX0_init 49 = .ok (.multianewarray 27 2, 4) := by decide +kernel
theorem dX0_init_53 : decode cX0_init 53 = .ok (.putfield 29, 3) := by decide +kernel
theorem dX0_init_56 : decode cX0_init 56 = .ok (.return_, 1) := by decide +kernel
theorem dX0_empty_0 : decode cX0_empty 0 = .ok (.aload_n 0, 1) := by decide +kernel
theorem dX0_empty_1 : decode cX0_empty 1 = .ok (.iconst 0, 1) := by decide +kernel
theorem dX0_empty_2 : decode cX0_empty 2 = .ok (.putfield 32, 3) := by decide +kernel
theorem dX0_empty_5 : decode cX0_empty 5 = .ok (.aload_n 0, 1) := by decide +kernel
theorem dX0_empty_6 : decode cX0_empty 6 = .ok (.iconst 0, 1) := by decide +kernel
theorem dX0_empty_7 : decode cX0_empty 7 = .ok (.putfield 36, 3) := by decide +kernel
theorem dX0_empty_10 : decode cX0_empty 10 = .ok (.aload_n 0, 1) := by decide +kernel
theorem dX0_empty_11 : decode cX0_empty 11 = .ok (.iconst 0, 1) := by decide +kernel
theorem dX0_empty_12 : decode cX0_empty 12 = .ok (.putfield 39, 3) := by decide +kernel
theorem dX0_empty_15 : decode cX0_empty 15 = .ok (.return_, 1) := by decide +kernel
theorem dX0_addStreet_0 : decode cX0_addStreet 0 = .ok (.aload_n 0, 1) := by decide +kernel
theorem dX0_addStreet_1 : decode cX0_addStreet 1 = .ok (.getfield 36, 3) := by decide +kernel
theorem dX0_addStreet_4 : decode cX0_addStreet 4 = .ok (.bipush 12, 2) := by decide +kernel
theorem dX0_addStreet_6 : decode cX0_addStreet 6 = .ok (.if_icmp .ge 59, 3) := by decide +kernel
theorem dX0_addStreet_9 : decode cX0_addStreet 9 = .ok (.aload_n 0, 1) := by decide +kernel
theorem dX0_addStreet_10 : decode cX0_addStreet 10 = .ok (.iload_n 1, 1) := by decide +kernel
theorem dX0_addStreet_11 : decode cX0_addStreet 11 = .ok (.invokevirtual 42, 3) := by decide +kernel
theorem dX0_addStreet_14 : decode cX0_addStreet 14 = .ok (.ifCond .eq 51, 3) := by decide +kernel
theorem dX0_addStreet_17 : decode cX0_addStreet 17 = .ok (.aload_n 0, 1) := by decide +kernel
theorem dX0_addStreet_18 : decode cX0_addStreet 18 = .ok (.iload_n 2, 1) := by decide +kernel
theorem dX0_addStreet_19 : decode cX0_addStreet 19 = .ok (.invokevirtual 42, 3) := by decide +kernel
theorem dX0_addStreet_22 : decode cX0_addStreet 22 = .ok (.ifCond .eq 43, 3) := by decide +kernel
theorem dX0_addStreet_25 : decode cX0_addStreet 25 = .ok (.aload_n 0, 1) := by decide +kernel
theorem dX0_addStreet_26 : decode cX0_addStreet 26 = .ok (.getfield 9, 3) := by decide +kernel
theorem dX0_addStreet_29 : decode cX0_addStreet 29 = .ok (.aload_n 0, 1) := by decide +kernel
theorem dX0_addStreet_30 : decode cX0_addStreet 30 = .ok (.getfield 36, 3) := by decide +kernel
theorem dX0_addStreet_33 : decode cX0_addStreet 33 = .ok (.iload_n 1, 1) := by decide +kernel
theorem dX0_addStreet_34 : decode cX0_addStreet 34 = .ok (.iastore, 1) := by decide +kernel
theorem dX0_addStreet_35 : decode cX0_addStreet 35 = .ok (.aload_n 0, 1) := by decide +kernel
theorem dX0_addStreet_36 : decode cX0_addStreet 36 = .ok (.getfield 15, 3) := by decide +kernel
theorem dX0_addStreet_39 : decode cX0_addStreet 39 = .ok (.aload_n 0, 1) := by decide +kernel
theorem dX0_addStreet_40 : decode cX0_addStreet 40 = .ok (.getfield 36, 3) := by decide +kernel
theorem dX0_addStreet_43 : decode cX0_addStreet 43 = .ok (.iload_n 2, 1) := by decide +kernel
theorem dX0_addStreet_44 : decode cX0_addStreet 44 = .ok (.iastore, 1) := by decide +kernel
theorem dX0_addStreet_45 : decode cX0_addStreet 45 = .ok (.aload_n 0, 1) := by decide +kernel
theorem dX0_addStreet_46 : decode cX0_addStreet 46 = .ok (.getfield 18, 3) := by decide +kernel
theorem dX0_addStreet_49 : decode cX0_addStreet 49 = .ok (.aload_n 0, 1) := by decide +kernel
theorem dX0_addStreet_50 : decode cX0_addStreet 50 = .ok (.getfield 36, 3) := by decide +kernel
theorem dX0_addStreet_53 : decode cX0_addStreet 53 = .ok (.iload_n 3, 1) := by decide +kernel
theorem dX0_addStreet_54 : decode cX0_addStreet 54 = .ok (.iastore, 1) := by decide +kernel
theorem dX0_addStreet_55 : decode cX0_addStreet 55 = .ok (.aload_n 0, 1) := by decide +kernel
theorem dX0_addStreet_56 : decode cX0_addStreet 56 = .ok (.dup, 1) := by decide +kernel
theorem dX0_addStreet_57 : decode cX0_addStreet 57 = .ok (.getfield 36, 3) := by decide +kernel
theorem dX0_addStreet_60 : decode cX0_addStreet 60 = .ok (.iconst 1, 1) := by decide +kernel
theorem dX0_addStreet_61 : decode cX0_addStreet 61 = .ok (.iadd, 1) := by decide +kernel
theorem dX0_addStreet_62 : decode cX0_addStreet 62 = .ok (.putfield 36, 3) := by decide +kernel
theorem dX0_addStreet_65 : decode cX0_addStreet 65 = .ok (.return_, 1) := by decide +kernel
theorem dX0_addLeader_0 : decode cX0_addLeader 0 = .ok (.aload_n 0, 1) := by decide +kernel
theorem dX0_addLeader_1 : decode cX0_addLeader 1 = .ok (.getfield 39, 3) := by decide +kernel
theorem dX0_addLeader_4 : decode cX0_addLeader 4 = .ok (.bipush 6, 2) := by decide +kernel
theorem dX0_addLeader_6 : decode cX0_addLeader 6 = .ok (.if_icmp .ge 41, 3) := by decide +kernel
theorem dX0_addLeader_9 : decode cX0_addLeader 9 = .ok (.aload_n 0, 1) := by decide +kernel
theorem dX0_addLeader_10 : decode cX0_addLeader 10 = .ok (.iload_n 1, 1) := by decide +kernel
theorem dX0_addLeader_11 : decode cX0_addLeader 11 = .ok (.invokevirtual 42, 3) := by decide +kernel
theorem dX0_addLeader_14 : decode cX0_addLeader 14 = .ok (.ifCond .eq 33, 3) := by decide +kernel
theorem dX0_addLeader_17 : decode cX0_addLeader 17 = .ok (.aload_n 0, 1) := by decide +kernel
theorem dX0_addLeader_18 : decode cX0_addLeader 18 = .ok (.getfield 21, 3) := by decide +kernel
theorem dX0_addLeader_21 : decode cX0_addLeader 21 = .ok (.aload_n 0, 1) := by decide +kernel
theorem dX0_addLeader_22 : decode cX0_addLeader 22 = .ok (.getfield 39, 3) := by decide +kernel
theorem dX0_addLeader_25 : decode cX0_addLeader 25 = .ok (.iload_n 1, 1) := by decide +kernel
theorem dX0_addLeader_26 : decode cX0_addLeader 26 = .ok (.iastore, 1) := by decide +kernel
theorem dX0_addLeader_27 : decode cX0_addLeader 27 = .ok (.aload_n 0, 1) := by decide +kernel
theorem dX0_addLeader_28 : decode cX0_addLeader 28 = .ok (.getfield 24, 3) := by decide +kernel
theorem dX0_addLeader_31 : decode cX0_addLeader 31 = .ok (.aload_n 0, 1) := by decide +kernel
theorem dX0_addLeader_32 : decode cX0_addLeader 32 = .ok (.getfield 39, 3) := by decide +kernel
theorem dX0_addLeader_35 : decode cX0_addLeader 35 = .ok (.iload_n 2, 1) := by decide +kernel
theorem dX0_addLeader_36 : decode cX0_addLeader 36 = .ok (.iastore, 1) := by decide +kernel
theorem dX0_addLeader_37 : decode cX0_addLeader 37 = .ok (.aload_n 0, 1) := by decide +kernel
theorem dX0_addLeader_38 : decode cX0_addLeader 38 = .ok (.dup, 1) := by decide +kernel
theorem dX0_addLeader_39 : decode cX0_addLeader 39 = .ok (.getfield 39, 3) := by decide +kernel
theorem dX0_addLeader_42 : decode cX0_addLeader 42 = .ok (.iconst 1, 1) := by decide +kernel
theorem dX0_addLeader_43 : decode cX0_addLeader 43 = .ok (.iadd, 1) := by decide +kernel
theorem dX0_addLeader_44 : decode cX0_addLeader 44 = .ok (.putfield 39, 3) := by decide +kernel
theorem dX0_addLeader_47 : decode cX0_addLeader 47 = .ok (.return_, 1) := by decide +kernel
theorem dX0_hasCorner_0 : decode cX0_hasCorner 0 = .ok (.iload_n 1, 1) := by decide +kernel
theorem dX0_hasCorner_1 : decode cX0_hasCorner 1 = .ok (.ifCond .lt 15, 3) := by decide +kernel
theorem dX0_hasCorner_4 : decode cX0_hasCorner 4 = .ok (.iload_n 1, 1) := by decide +kernel
theorem dX0_hasCorner_5 : decode cX0_hasCorner 5 = .ok (.aload_n 0, 1) := by decide +kernel
theorem dX0_hasCorner_6 : decode cX0_hasCorner 6 = .ok (.getfield 32, 3) := by decide +kernel
theorem dX0_hasCorner_9 : decode cX0_hasCorner 9 = .ok (.if_icmp .ge 7, 3) := by decide +kernel
theorem dX0_hasCorner_12 : decode cX0_hasCorner 12 = .ok (.iconst 1, 1) := by decide +kernel
theorem dX0_hasCorner_13 : decode cX0_hasCorner 13 = .ok (.goto 4, 3) := by decide +kernel
theorem dX0_hasCorner_16 : decode cX0_hasCorner 16 = .ok (.iconst 0, 1) := by decide +kernel
theorem dX0_hasCorner_17 : decode cX0_hasCorner 17 = .ok (.ireturn, 1) := by decide +kernel
theorem dX0_hasStreet_0 : decode cX0_hasStreet 0 = .ok (.iload_n 1, 1) := by decide +kernel
theorem dX0_hasStreet_1 : decode cX0_hasStreet 1 = .ok (.ifCond .lt 15, 3) := by decide +kernel
theorem dX0_hasStreet_4 : decode cX0_hasStreet 4 = .ok (.iload_n 1, 1) := by decide +kernel
theorem dX0_hasStreet_5 : decode cX0_hasStreet 5 = .ok (.aload_n 0, 1) := by decide +kernel
theorem dX0_hasStreet_6 : decode cX0_hasStreet 6 = .ok (.getfield 36, 3) := by decide +kernel
theorem dX0_hasStreet_9 : decode cX0_hasStreet 9 = .ok (.if_icmp .ge 7, 3) := by decide +kernel
theorem dX0_hasStreet_12 : decode cX0_hasStreet 12 = .ok (.iconst 1, 1) := by decide +kernel
theorem dX0_hasStreet_13 : decode cX0_hasStreet 13 = .ok (.goto 4, 3) := by decide +kernel
theorem dX0_hasStreet_16 : decode cX0_hasStreet 16 = .ok (.iconst 0, 1) := by decide +kernel
theorem dX0_hasStreet_17 : decode cX0_hasStreet 17 = .ok (.ireturn, 1) := by decide +kernel
theorem dX0_hasLeader_0 : decode cX0_hasLeader 0 = .ok (.iload_n 1, 1) := by decide +kernel
theorem dX0_hasLeader_1 : decode cX0_hasLeader 1 = .ok (.ifCond .lt 15, 3) := by decide +kernel
theorem dX0_hasLeader_4 : decode cX0_hasLeader 4 = .ok (.iload_n 1, 1) := by decide +kernel
theorem dX0_hasLeader_5 : decode cX0_hasLeader 5 = .ok (.aload_n 0, 1) := by decide +kernel
theorem dX0_hasLeader_6 : decode cX0_hasLeader 6 = .ok (.getfield 39, 3) := by decide +kernel
theorem dX0_hasLeader_9 : decode cX0_hasLeader 9 = .ok (.if_icmp .ge 7, 3) := by decide +kernel
theorem dX0_hasLeader_12 : decode cX0_hasLeader 12 = .ok (.iconst 1, 1) := by decide +kernel
theorem dX0_hasLeader_13 : decode cX0_hasLeader 13 = .ok (.goto 4, 3) := by decide +kernel
theorem dX0_hasLeader_16 : decode cX0_hasLeader 16 = .ok (.iconst 0, 1) := by decide +kernel
theorem dX0_hasLeader_17 : decode cX0_hasLeader 17 = .ok (.ireturn, 1) := by decide +kernel
theorem dX0_streetBits_0 : decode cX0_streetBits 0 = .ok (.iconst 1, 1) := by decide +kernel
theorem dX0_streetBits_1 : decode cX0_streetBits 1 = .ok (.aload_n 0, 1) := by decide +kernel
theorem dX0_streetBits_2 : decode cX0_streetBits 2 = .ok (.getfield 36, 3) := by decide +kernel
theorem dX0_streetBits_5 : decode cX0_streetBits 5 = .ok (.ishl, 1) := by decide +kernel
theorem dX0_streetBits_6 : decode cX0_streetBits 6 = .ok (.iconst 1, 1) := by decide +kernel
theorem dX0_streetBits_7 : decode cX0_streetBits 7 = .ok (.isub, 1) := by decide +kernel
theorem dX0_streetBits_8 : decode cX0_streetBits 8 = .ok (.ireturn, 1) := by decide +kernel
theorem dX0_measure_0 : decode cX0_measure 0 = .ok (.iconst 0, 1) := by decide +kernel
theorem dX0_measure_1 : decode cX0_measure 1 = .ok (.istore_n 1, 1) := by decide +kernel
theorem dX0_measure_2 : decode cX0_measure 2 = .ok (.iload_n 1, 1) := by decide +kernel
theorem dX0_measure_3 : decode cX0_measure 3 = .ok (.aload_n 0, 1) := by decide +kernel
theorem dX0_measure_4 : decode cX0_measure 4 = .ok (.getfield 32, 3) := by decide +kernel
theorem dX0_measure_7 : decode cX0_measure 7 = .ok (.if_icmp .ge 44, 3) := by decide +kernel
theorem dX0_measure_10 : decode cX0_measure 10 = .ok (.iconst 0, 1) := by decide +kernel
theorem dX0_measure_11 : decode cX0_measure 11 = .ok (.istore_n 2, 1) := by decide +kernel
theorem dX0_measure_12 : decode cX0_measure 12 = .ok (.iload_n 2, 1) := by decide +kernel
theorem dX0_measure_13 : decode cX0_measure 13 = .ok (.aload_n 0, 1) := by decide +kernel
theorem dX0_measure_14 : decode cX0_measure 14 = .ok (.getfield 32, 3) := by decide +kernel
theorem dX0_measure_17 : decode cX0_measure 17 = .ok (.if_icmp .ge 28, 3) := by decide +kernel
theorem dX0_measure_20 : decode cX0_measure 20 = .ok (.aload_n 0, 1) := by decide +kernel
theorem dX0_measure_21 : decode cX0_measure 21 = .ok (.getfield 29, 3) := by decide +kernel
theorem dX0_measure_24 : decode cX0_measure 24 = .ok (.iload_n 1, 1) := by decide +kernel
theorem dX0_measure_25 : decode cX0_measure 25 = .ok (.aaload, 1) := by decide +kernel
theorem dX0_measure_26 : decode cX0_measure 26 = .ok (.iload_n 2, 1) := by decide +kernel
theorem dX0_measure_27 : decode cX0_measure 27 = .ok (.iload_n 1, 1) := by decide +kernel
theorem dX0_measure_28 : decode cX0_measure 28 = .ok (.iload_n 2, 1) := by decide +kernel
theorem dX0_measure_29 : decode cX0_measure 29 = .ok (.if_icmp .ne 7, 3) := by decide +kernel
theorem dX0_measure_32 : decode cX0_measure 32 = .ok (.iconst 0, 1) := by decide +kernel
theorem dX0_measure_33 : decode cX0_measure 33 = .ok (.goto 5, 3) := by decide +kernel
theorem dX0_measure_36 : decode cX0_measure 36 = .ok (.bipush 99, 2) := by decide +kernel
theorem dX0_measure_38 : decode cX0_measure 38 = .ok (.iastore, 1) := by decide +kernel
theorem dX0_measure_39 : decode cX0_measure 39 = .ok (.iinc 2 1, 3) := by decide +kernel
theorem dX0_measure_42 : decode cX0_measure 42 = .ok (.goto (-30), 3) := by decide +kernel
theorem dX0_measure_45 : decode cX0_measure 45 = .ok (.iinc 1 1, 3) := by decide +kernel
theorem dX0_measure_48 : decode cX0_measure 48 = .ok (.goto (-46), 3) := by decide +kernel
theorem dX0_measure_51 : decode cX0_measure 51 = .ok (.iconst 0, 1) := by decide +kernel
theorem dX0_measure_52 : decode cX0_measure 52 = .ok (.istore_n 1, 1) := by decide +kernel
theorem dX0_measure_53 : decode cX0_measure 53 = .ok (.iload_n 1, 1) := by decide +kernel
theorem dX0_measure_54 : decode cX0_measure 54 = .ok (.aload_n 0, 1) := by decide +kernel
theorem dX0_measure_55 : decode cX0_measure 55 = .ok (.getfield 36, 3) := by decide +kernel
theorem dX0_measure_58 : decode cX0_measure 58 = .ok (.if_icmp .ge 75, 3) := by decide +kernel
theorem dX0_measure_61 : decode cX0_measure 61 = .ok (.aload_n 0, 1) := by decide +kernel
theorem dX0_measure_62 : decode cX0_measure 62 = .ok (.getfield 18, 3) := by decide +kernel
theorem dX0_measure_65 : decode cX0_measure 65 = .ok (.iload_n 1, 1) := by decide +kernel
theorem dX0_measure_66 : decode cX0_measure 66 = .ok (.iaload, 1) := by decide +kernel
theorem dX0_measure_67 : decode cX0_measure 67 = .ok (.aload_n 0, 1) := by decide +kernel
theorem dX0_measure_68 : decode cX0_measure 68 = .ok (.getfield 29, 3) := by decide +kernel
theorem dX0_measure_71 : decode cX0_measure 71 = .ok (.aload_n 0, 1) := by decide +kernel
theorem dX0_measure_72 : decode cX0_measure 72 = .ok (.getfield 9, 3) := by decide +kernel
theorem dX0_measure_75 : decode cX0_measure 75 = .ok (.iload_n 1, 1) := by decide +kernel
theorem dX0_measure_76 : decode cX0_measure 76 = .ok (.iaload, 1) := by decide +kernel
theorem dX0_measure_77 : decode cX0_measure 77 = .ok (.aaload, 1) := by decide +kernel
theorem dX0_measure_78 : decode cX0_measure 78 = .ok (.aload_n 0, 1) := by decide +kernel
theorem dX0_measure_79 : decode cX0_measure 79 = .ok (.getfield 15, 3) := by decide +kernel
theorem dX0_measure_82 : decode cX0_measure 82 = .ok (.iload_n 1, 1) := by decide +kernel
theorem dX0_measure_83 : decode cX0_measure 83 = .ok (.iaload, 1) := by decide +kernel
theorem dX0_measure_84 : decode cX0_measure 84 = .ok (.iaload, 1) := by decide +kernel
theorem dX0_measure_85 : decode cX0_measure 85 = .ok (.invokestatic 46, 3) := by decide +kernel
theorem dX0_measure_88 : decode cX0_measure 88 = .ok (.istore_n 2, 1) := by decide +kernel
theorem dX0_measure_89 : decode cX0_measure 89 = .ok (.aload_n 0, 1) := by decide +kernel
theorem dX0_measure_90 : decode cX0_measure 90 = .ok (.getfield 29, 3) := by decide +kernel
theorem dX0_measure_93 : decode cX0_measure 93 = .ok (.aload_n 0, 1) := by decide +kernel
theorem dX0_measure_94 : decode cX0_measure 94 = .ok (.getfield 9, 3) := by decide +kernel
theorem dX0_measure_97 : decode cX0_measure 97 = .ok (.iload_n 1, 1) := by decide +kernel
theorem dX0_measure_98 : decode cX0_measure 98 = .ok (.iaload, 1) := by decide +kernel
theorem dX0_measure_99 : decode cX0_measure 99 = .ok (.aaload, 1) := by decide +kernel
theorem dX0_measure_100 : decode cX0_measure 100 = .ok (.aload_n 0, 1) := by decide +kernel
theorem dX0_measure_101 : decode cX0_measure 101 = .ok (.getfield 15, 3) := by decide +kernel
theorem dX0_measure_104 : decode cX0_measure 104 = .ok (.iload_n 1, 1) := by decide +kernel
theorem dX0_measure_105 : decode cX0_measure 105 = .ok (.iaload, 1) := by decide +kernel
theorem dX0_measure_106 : decode cX0_measure 106 = .ok (.iload_n 2, 1) := by decide +kernel
theorem dX0_measure_107 : decode cX0_measure 107 = .ok (.iastore, 1) := by decide +kernel
theorem dX0_measure_108 : decode cX0_measure 108 = .ok (.aload_n 0, 1) := by decide +kernel
theorem dX0_measure_109 : decode cX0_measure 109 = .ok (.getfield 29, 3) := by decide +kernel
theorem dX0_measure_112 : decode cX0_measure 112 = .ok (.aload_n 0, 1) := by decide +kernel
theorem dX0_measure_113 : decode cX0_measure 113 = .ok (.getfield 15, 3) := by decide +kernel
theorem dX0_measure_116 : decode cX0_measure 116 = .ok (.iload_n 1, 1) := by decide +kernel
theorem dX0_measure_117 : decode cX0_measure 117 = .ok (.iaload, 1) := by decide +kernel
theorem dX0_measure_118 : decode cX0_measure 118 = .ok (.aaload, 1) := by decide +kernel
theorem dX0_measure_119 : decode cX0_measure 119 = .ok (.aload_n 0, 1) := by decide +kernel
theorem dX0_measure_120 : decode cX0_measure 120 = .ok (.getfield 9, 3) := by decide +kernel
theorem dX0_measure_123 : decode cX0_measure 123 = .ok (.iload_n 1, 1) := by decide +kernel
theorem dX0_measure_124 : decode cX0_measure 124 = .ok (.iaload, 1) := by decide +kernel
theorem dX0_measure_125 : decode cX0_measure 125 = .ok (.iload_n 2, 1) := by decide +kernel
theorem dX0_measure_126 : decode cX0_measure 126 = .ok (.iastore, 1) := by decide +kernel
theorem dX0_measure_127 : decode cX0_measure 127 = .ok (.iinc 1 1, 3) := by decide +kernel
theorem dX0_measure_130 : decode cX0_measure 130 = .ok (.goto (-77), 3) := by decide +kernel
theorem dX0_measure_133 : decode cX0_measure 133 = .ok (.iconst 0, 1) := by decide +kernel
theorem dX0_measure_134 : decode cX0_measure 134 = .ok (.istore_n 1, 1) := by decide +kernel
theorem dX0_measure_135 : decode cX0_measure 135 = .ok (.iload_n 1, 1) := by decide +kernel
theorem dX0_measure_136 : decode cX0_measure 136 = .ok (.aload_n 0, 1) := by decide +kernel
theorem dX0_measure_137 : decode cX0_measure 137 = .ok (.getfield 32, 3) := by decide +kernel
theorem dX0_measure_140 : decode cX0_measure 140 = .ok (.if_icmp .ge 77, 3) := by decide +kernel
theorem dX0_measure_143 : decode cX0_measure 143 = .ok (.iconst 0, 1) := by decide +kernel
theorem dX0_measure_144 : decode cX0_measure 144 = .ok (.istore_n 2, 1) := by decide +kernel
theorem dX0_measure_145 : decode cX0_measure 145 = .ok (.iload_n 2, 1) := by decide +kernel
theorem dX0_measure_146 : decode cX0_measure 146 = .ok (.aload_n 0, 1) := by decide +kernel
theorem dX0_measure_147 : decode cX0_measure 147 = .ok (.getfield 32, 3) := by decide +kernel
theorem dX0_measure_150 : decode cX0_measure 150 = .ok (.if_icmp .ge 61, 3) := by decide +kernel
theorem dX0_measure_153 : decode cX0_measure 153 = .ok (.iconst 0, 1) := by decide +kernel
theorem dX0_measure_154 : decode cX0_measure 154 = .ok (.istore_n 3, 1) := by decide +kernel
theorem dX0_measure_155 : decode cX0_measure 155 = .ok (.iload_n 3, 1) := by decide +kernel
theorem dX0_measure_156 : decode cX0_measure 156 = .ok (.aload_n 0, 1) := by decide +kernel
theorem dX0_measure_157 : decode cX0_measure 157 = .ok (.getfield 32, 3) := by decide +kernel
theorem dX0_measure_160 : decode cX0_measure 160 = .ok (.if_icmp .ge 45, 3) := by decide +kernel
theorem dX0_measure_163 : decode cX0_measure 163 = .ok (.aload_n 0, 1) := by decide +kernel
theorem dX0_measure_164 : decode cX0_measure 164 = .ok (.getfield 29, 3) := by decide +kernel
theorem dX0_measure_167 : decode cX0_measure 167 = .ok (.iload_n 2, 1) := by decide +kernel
theorem dX0_measure_168 : decode cX0_measure 168 = .ok (.aaload, 1) := by decide +kernel
theorem dX0_measure_169 : decode cX0_measure 169 = .ok (.iload_n 3, 1) := by decide +kernel
theorem dX0_measure_170 : decode cX0_measure 170 = .ok (.aload_n 0, 1) := by decide +kernel
theorem dX0_measure_171 : decode cX0_measure 171 = .ok (.getfield 29, 3) := by decide +kernel
theorem dX0_measure_174 : decode cX0_measure 174 = .ok (.iload_n 2, 1) := by decide +kernel
theorem dX0_measure_175 : decode cX0_measure 175 = .ok (.aaload, 1) := by decide +kernel
theorem dX0_measure_176 : decode cX0_measure 176 = .ok (.iload_n 3, 1) := by decide +kernel
theorem dX0_measure_177 : decode cX0_measure 177 = .ok (.iaload, 1) := by decide +kernel
theorem dX0_measure_178 : decode cX0_measure 178 = .ok (.aload_n 0, 1) := by decide +kernel
theorem dX0_measure_179 : decode cX0_measure 179 = .ok (.getfield 29, 3) := by decide +kernel
theorem dX0_measure_182 : decode cX0_measure 182 = .ok (.iload_n 2, 1) := by decide +kernel
theorem dX0_measure_183 : decode cX0_measure 183 = .ok (.aaload, 1) := by decide +kernel
theorem dX0_measure_184 : decode cX0_measure 184 = .ok (.iload_n 1, 1) := by decide +kernel
theorem dX0_measure_185 : decode cX0_measure 185 = .ok (.iaload, 1) := by decide +kernel
theorem dX0_measure_186 : decode cX0_measure 186 = .ok (.aload_n 0, 1) := by decide +kernel
theorem dX0_measure_187 : decode cX0_measure 187 = .ok (.getfield 29, 3) := by decide +kernel
theorem dX0_measure_190 : decode cX0_measure 190 = .ok (.iload_n 1, 1) := by decide +kernel
theorem dX0_measure_191 : decode cX0_measure 191 = .ok (.aaload, 1) := by decide +kernel
theorem dX0_measure_192 : decode cX0_measure 192 = .ok (.iload_n 3, 1) := by decide +kernel
theorem dX0_measure_193 : decode cX0_measure 193 = .ok (.iaload, 1) := by decide +kernel
theorem dX0_measure_194 : decode cX0_measure 194 = .ok (.iadd, 1) := by decide +kernel
theorem dX0_measure_195 : decode cX0_measure 195 = .ok (.invokestatic 46, 3) := by decide +kernel
theorem dX0_measure_198 : decode cX0_measure 198 = .ok (.iastore, 1) := by decide +kernel
theorem dX0_measure_199 : decode cX0_measure 199 = .ok (.iinc 3 1, 3) := by decide +kernel
theorem dX0_measure_202 : decode cX0_measure 202 = .ok (.goto (-47), 3) := by decide +kernel
theorem dX0_measure_205 : decode cX0_measure 205 = .ok (.iinc 2 1, 3) := by decide +kernel
theorem dX0_measure_208 : decode cX0_measure 208 = .ok (.goto (-63), 3) := by decide +kernel
theorem dX0_measure_211 : decode cX0_measure 211 = .ok (.iinc 1 1, 3) := by decide +kernel
theorem dX0_measure_214 : decode cX0_measure 214 = .ok (.goto (-79), 3) := by decide +kernel
theorem dX0_measure_217 : decode cX0_measure 217 = .ok (.return_, 1) := by decide +kernel
theorem dX0_wayFrom_0 : decode cX0_wayFrom 0 = .ok (.aload_n 0, 1) := by decide +kernel
theorem dX0_wayFrom_1 : decode cX0_wayFrom 1 = .ok (.getfield 9, 3) := by decide +kernel
theorem dX0_wayFrom_4 : decode cX0_wayFrom 4 = .ok (.iload_n 1, 1) := by decide +kernel
theorem dX0_wayFrom_5 : decode cX0_wayFrom 5 = .ok (.iaload, 1) := by decide +kernel
theorem dX0_wayFrom_6 : decode cX0_wayFrom 6 = .ok (.iload_n 2, 1) := by decide +kernel
theorem dX0_wayFrom_7 : decode cX0_wayFrom 7 = .ok (.if_icmp .ne 5, 3) := by decide +kernel
theorem dX0_wayFrom_10 : decode cX0_wayFrom 10 = .ok (.iload_n 1, 1) := by decide +kernel
theorem dX0_wayFrom_11 : decode cX0_wayFrom 11 = .ok (.ireturn, 1) := by decide +kernel
theorem dX0_wayFrom_12 : decode cX0_wayFrom 12 = .ok (.aload_n 0, 1) := by decide +kernel
theorem dX0_wayFrom_13 : decode cX0_wayFrom 13 = .ok (.getfield 15, 3) := by decide +kernel
theorem dX0_wayFrom_16 : decode cX0_wayFrom 16 = .ok (.iload_n 1, 1) := by decide +kernel
theorem dX0_wayFrom_17 : decode cX0_wayFrom 17 = .ok (.iaload, 1) := by decide +kernel
theorem dX0_wayFrom_18 : decode cX0_wayFrom 18 = .ok (.iload_n 2, 1) := by decide +kernel
theorem dX0_wayFrom_19 : decode cX0_wayFrom 19 = .ok (.if_icmp .ne 10, 3) := by decide +kernel
theorem dX0_wayFrom_22 : decode cX0_wayFrom 22 = .ok (.iload_n 1, 1) := by decide +kernel
theorem dX0_wayFrom_23 : decode cX0_wayFrom 23 = .ok (.bipush 12, 2) := by decide +kernel
theorem dX0_wayFrom_25 : decode cX0_wayFrom 25 = .ok (.iadd, 1) := by decide +kernel
theorem dX0_wayFrom_26 : decode cX0_wayFrom 26 = .ok (.goto 5, 3) := by decide +kernel
theorem dX0_wayFrom_29 : decode cX0_wayFrom 29 = .ok (.bipush (-9), 2) := by decide +kernel
theorem dX0_wayFrom_31 : decode cX0_wayFrom 31 = .ok (.ireturn, 1) := by decide +kernel
theorem dX0_wantedWay_0 : decode cX0_wantedWay 0 = .ok (.bipush (-9), 2) := by decide +kernel
theorem dX0_wantedWay_2 : decode cX0_wantedWay 2 = .ok (.istore 4, 2) := by decide +kernel
theorem dX0_wantedWay_4 : decode cX0_wantedWay 4 = .ok (.iconst 0, 1) := by decide +kernel
theorem dX0_wantedWay_5 : decode cX0_wantedWay 5 = .ok (.istore 5, 2) := by decide +kernel
theorem dX0_wantedWay_7 : decode cX0_wantedWay 7 = .ok (.iconst 0, 1) := by decide +kernel
theorem dX0_wantedWay_8 : decode cX0_wantedWay 8 = .ok (.istore 6, 2) := by decide +kernel
theorem dX0_wantedWay_10 : decode cX0_wantedWay 10 = .ok (.iconst 0, 1) := by decide +kernel
theorem dX0_wantedWay_11 : decode cX0_wantedWay 11 = .ok (.istore 7, 2) := by decide +kernel
theorem dX0_wantedWay_13 : decode cX0_wantedWay 13 = .ok (.iload 7, 2) := by decide +kernel
theorem dX0_wantedWay_15 : decode cX0_wantedWay 15 = .ok (.aload_n 0, 1) := by decide +kernel
theorem dX0_wantedWay_16 : decode cX0_wantedWay 16 = .ok (.getfield 36, 3) := by decide +kernel
theorem dX0_wantedWay_19 : decode cX0_wantedWay 19 = .ok (.if_icmp .ge 103, 3) := by decide +kernel
theorem dX0_wantedWay_22 : decode cX0_wantedWay 22 = .ok (.aload_n 0, 1) := by decide +kernel
theorem dX0_wantedWay_23 : decode cX0_wantedWay 23 = .ok (.iload 7, 2) := by decide +kernel
theorem dX0_wantedWay_25 : decode cX0_wantedWay 25 = .ok (.iload_n 1, 1) := by decide +kernel
theorem dX0_wantedWay_26 : decode cX0_wantedWay 26 = .ok (.invokevirtual 52, 3) := by decide +kernel
theorem dX0_wantedWay_29 : decode cX0_wantedWay 29 = .ok (.istore 8, 2) := by decide +kernel
theorem dX0_wantedWay_31 : decode cX0_wantedWay 31 = .ok (.iload 8, 2) := by decide +kernel
theorem dX0_wantedWay_33 : decode cX0_wantedWay 33 = .ok (.bipush (-9), 2) := by decide +kernel
theorem dX0_wantedWay_35 : decode cX0_wantedWay 35 = .ok (.if_icmp .eq 81, 3) := by decide +kernel
theorem dX0_wantedWay_38 : decode cX0_wantedWay 38 = .ok (.iload_n 3, 1) := by decide +kernel
theorem dX0_wantedWay_39 : decode cX0_wantedWay 39 = .ok (.iload 8, 2) := by decide +kernel
theorem dX0_wantedWay_41 : decode cX0_wantedWay 41 = .ok (.ishr, 1) := by decide +kernel
theorem dX0_wantedWay_42 : decode cX0_wantedWay 42 = .ok (.iconst 1, 1) := by decide +kernel
theorem dX0_wantedWay_43 : decode cX0_wantedWay 43 = .ok (.iand, 1) := by decide +kernel
theorem dX0_wantedWay_44 : decode cX0_wantedWay 44 = .ok (.iconst 1, 1) := by decide +kernel
theorem dX0_wantedWay_45 : decode cX0_wantedWay 45 = .ok (.if_icmp .ne 6, 3) := by decide +kernel
theorem dX0_wantedWay_48 : decode cX0_wantedWay 48 = .ok (.goto 68, 3) := by decide +kernel
theorem dX0_wantedWay_51 : decode cX0_wantedWay 51 = .ok (.aload_n 0, 1) := by decide +kernel
theorem dX0_wantedWay_52 : decode cX0_wantedWay 52 = .ok (.getfield 29, 3) := by decide +kernel
theorem dX0_wantedWay_55 : decode cX0_wantedWay 55 = .ok (.aload_n 0, 1) := by decide +kernel
theorem dX0_wantedWay_56 : decode cX0_wantedWay 56 = .ok (.iload 8, 2) := by decide +kernel
theorem dX0_wantedWay_58 : decode cX0_wantedWay 58 = .ok (.invokevirtual 55, 3) := by decide +kernel
theorem dX0_wantedWay_61 : decode cX0_wantedWay 61 = .ok (.aaload, 1) := by decide +kernel
theorem dX0_wantedWay_62 : decode cX0_wantedWay 62 = .ok (.iload_n 2, 1) := by decide +kernel
theorem dX0_wantedWay_63 : decode cX0_wantedWay 63 = .ok (.iaload, 1) := by decide +kernel
theorem dX0_wantedWay_64 : decode cX0_wantedWay 64 = .ok (.istore 9, 2) := by decide +kernel
theorem dX0_wantedWay_66 : decode cX0_wantedWay 66 = .ok (.iload 4, 2) := by decide +kernel
theorem dX0_wantedWay_68 : decode cX0_wantedWay 68 = .ok (.bipush (-9), 2) := by decide +kernel
theorem dX0_wantedWay_70 : decode cX0_wantedWay 70 = .ok (.if_icmp .eq 29, 3) := by decide +kernel
theorem dX0_wantedWay_73 : decode cX0_wantedWay 73 = .ok (.iload 9, 2) := by decide +kernel
theorem dX0_wantedWay_75 : decode cX0_wantedWay 75 = .ok (.iload 5, 2) := by decide +kernel
theorem dX0_wantedWay_77 : decode cX0_wantedWay 77 = .ok (.if_icmp .lt 22, 3) := by decide +kernel
theorem dX0_wantedWay_80 : decode cX0_wantedWay 80 = .ok (.iload 9, 2) := by decide +kernel
theorem dX0_wantedWay_82 : decode cX0_wantedWay 82 = .ok (.iload 5, 2) := by decide +kernel
theorem dX0_wantedWay_84 : decode cX0_wantedWay 84 = .ok (.if_icmp .ne 32, 3) := by decide +kernel
theorem dX0_wantedWay_87 : decode cX0_wantedWay 87 = .ok (.aload_n 0, 1) := by decide +kernel
theorem dX0_wantedWay_88 : decode cX0_wantedWay 88 = .ok (.getfield 18, 3) := by decide +kernel
theorem dX0_wantedWay_91 : decode cX0_wantedWay 91 = .ok (.iload 7, 2) := by decide +kernel
theorem dX0_wantedWay_93 : decode cX0_wantedWay 93 = .ok (.iaload, 1) := by decide +kernel
theorem dX0_wantedWay_94 : decode cX0_wantedWay 94 = .ok (.iload 6, 2) := by decide +kernel
theorem dX0_wantedWay_96 : decode cX0_wantedWay 96 = .ok (.if_icmp .ge 20, 3) := by decide +kernel
theorem dX0_wantedWay_99 : decode cX0_wantedWay 99 = .ok (.iload 8, 2) := by decide +kernel
theorem dX0_wantedWay_101 : decode cX0_wantedWay 101 = .ok (.istore 4, 2) := by decide +kernel
theorem dX0_wantedWay_103 : decode cX0_wantedWay 103 = .ok (.iload 9, 2) := by decide +kernel
theorem dX0_wantedWay_105 : decode cX0_wantedWay 105 = .ok (.istore 5, 2) := by decide +kernel
theorem dX0_wantedWay_107 : decode cX0_wantedWay 107 = .ok (.aload_n 0, 1) := by decide +kernel
theorem dX0_wantedWay_108 : decode cX0_wantedWay 108 = .ok (.getfield 18, 3) := by decide +kernel
theorem dX0_wantedWay_111 : decode cX0_wantedWay 111 = .ok (.iload 7, 2) := by decide +kernel
theorem dX0_wantedWay_113 : decode cX0_wantedWay 113 = .ok (.iaload, 1) := by decide +kernel
theorem dX0_wantedWay_114 : decode cX0_wantedWay 114 = .ok (.istore 6, 2) := by decide +kernel
theorem dX0_wantedWay_116 : decode cX0_wantedWay 116 = .ok (.iinc 7 1, 3) := by decide +kernel
theorem dX0_wantedWay_119 : decode cX0_wantedWay 119 = .ok (.goto (-106), 3) := by decide +kernel
theorem dX0_wantedWay_122 : decode cX0_wantedWay 122 = .ok (.iload 4, 2) := by decide +kernel
theorem dX0_wantedWay_124 : decode cX0_wantedWay 124 = .ok (.ireturn, 1) := by decide +kernel
theorem dX0_otherEnd_0 : decode cX0_otherEnd 0 = .ok (.iload_n 1, 1) := by decide +kernel
theorem dX0_otherEnd_1 : decode cX0_otherEnd 1 = .ok (.bipush 12, 2) := by decide +kernel
theorem dX0_otherEnd_3 : decode cX0_otherEnd 3 = .ok (.if_icmp .ge 12, 3) := by decide +kernel
theorem dX0_otherEnd_6 : decode cX0_otherEnd 6 = .ok (.aload_n 0, 1) := by decide +kernel
theorem dX0_otherEnd_7 : decode cX0_otherEnd 7 = .ok (.getfield 15, 3) := by decide +kernel
theorem dX0_otherEnd_10 : decode cX0_otherEnd 10 = .ok (.iload_n 1, 1) := by decide +kernel
theorem dX0_otherEnd_11 : decode cX0_otherEnd 11 = .ok (.iaload, 1) := by decide +kernel
theorem dX0_otherEnd_12 : decode cX0_otherEnd 12 = .ok (.goto 12, 3) := by decide +kernel
theorem dX0_otherEnd_15 : decode cX0_otherEnd 15 = .ok (.aload_n 0, 1) := by decide +kernel
theorem dX0_otherEnd_16 : decode cX0_otherEnd 16 = .ok (.getfield 9, 3) := by decide +kernel
theorem dX0_otherEnd_19 : decode cX0_otherEnd 19 = .ok (.iload_n 1, 1) := by decide +kernel
theorem dX0_otherEnd_20 : decode cX0_otherEnd 20 = .ok (.bipush 12, 2) := by decide +kernel
theorem dX0_otherEnd_22 : decode cX0_otherEnd 22 = .ok (.isub, 1) := by decide +kernel
theorem dX0_otherEnd_23 : decode cX0_otherEnd 23 = .ok (.iaload, 1) := by decide +kernel
theorem dX0_otherEnd_24 : decode cX0_otherEnd 24 = .ok (.ireturn, 1) := by decide +kernel
theorem dX0_hoursOf_0 : decode cX0_hoursOf 0 = .ok (.aload_n 0, 1) := by decide +kernel
theorem dX0_hoursOf_1 : decode cX0_hoursOf 1 = .ok (.getfield 18, 3) := by decide +kernel
theorem dX0_hoursOf_4 : decode cX0_hoursOf 4 = .ok (.iload_n 1, 1) := by decide +kernel
theorem dX0_hoursOf_5 : decode cX0_hoursOf 5 = .ok (.bipush 12, 2) := by decide +kernel
theorem dX0_hoursOf_7 : decode cX0_hoursOf 7 = .ok (.irem, 1) := by decide +kernel
theorem dX0_hoursOf_8 : decode cX0_hoursOf 8 = .ok (.iaload, 1) := by decide +kernel
theorem dX0_hoursOf_9 : decode cX0_hoursOf 9 = .ok (.ireturn, 1) := by decide +kernel
theorem dX1_init_0 : decode cX1_init 0 = .ok (.aload_n 0, 1) := by decide +kernel
theorem dX1_init_1 : decode cX1_init 1 = .ok (.invokespecial 3, 3) := by decide +kernel
theorem dX1_init_4 : decode cX1_init 4 = .ok (.aload_n 0, 1) := by decide +kernel
theorem dX1_init_5 : decode cX1_init 5 = .ok (.bipush 10, 2) := by decide +kernel
theorem dX1_init_7 : decode cX1_init 7 = .ok (.anewarray 9, 3) := by decide +kernel
theorem dX1_init_10 : decode cX1_init 10 = .ok (.putfield 11, 3) := by decide +kernel
theorem dX1_init_13 : decode cX1_init 13 = .ok (.iconst 0, 1) := by decide +kernel
theorem dX1_init_14 : decode cX1_init 14 = .ok (.istore_n 1, 1) := by decide +kernel
theorem dX1_init_15 : decode cX1_init 15 = .ok (.iload_n 1, 1) := by decide +kernel
theorem dX1_init_16 : decode cX1_init 16 = .ok (.bipush 10, 2) := by decide +kernel
theorem dX1_init_18 : decode cX1_init 18 = .ok (.if_icmp .ge 22, 3) := by decide +kernel
theorem dX1_init_21 : decode cX1_init 21 = .ok (.aload_n 0, 1) := by decide +kernel
theorem dX1_init_22 : decode cX1_init 22 = .ok (.getfield 11, 3) := by decide +kernel
theorem dX1_init_25 : decode cX1_init 25 = .ok (.iload_n 1, 1) := by decide +kernel
theorem dX1_init_26 : decode cX1_init 26 = .ok (.new 9, 3) := by decide +kernel
theorem dX1_init_29 : decode cX1_init 29 = .ok (.dup, 1) := by decide +kernel
theorem dX1_init_30 : decode cX1_init 30 = .ok (.invokespecial 17, 3) := by decide +kernel
theorem dX1_init_33 : decode cX1_init 33 = .ok (.aastore, 1) := by decide +kernel
theorem dX1_init_34 : decode cX1_init 34 = .ok (.iinc 1 1, 3) := by decide +kernel
theorem dX1_init_37 : decode cX1_init 37 = .ok (.goto (-22), 3) := by decide +kernel
theorem dX1_init_40 : decode cX1_init 40 = .ok (.return_, 1) := by decide +kernel
theorem dX1_remember_0 : decode cX1_remember 0 = .ok (.aload_n 0, 1) := by decide +kernel
theorem dX1_remember_1 : decode cX1_remember 1 = .ok (.getfield 18, 3) := by decide +kernel
theorem dX1_remember_4 : decode cX1_remember 4 = .ok (.bipush 10, 2) := by decide +kernel
theorem dX1_remember_6 : decode cX1_remember 6 = .ok (.if_icmp .ne 7, 3) := by decide +kernel
theorem dX1_remember_9 : decode cX1_remember 9 = .ok (.aload_n 0, 1) := by decide +kernel
theorem dX1_remember_10 : decode cX1_remember 10 = .ok (.invokevirtual 22, 3) := by decide +kernel
theorem dX1_remember_13 : decode cX1_remember 13 = .ok (.aload_n 0, 1) := by decide +kernel
theorem dX1_remember_14 : decode cX1_remember 14 = .ok (.getfield 11, 3) := by decide +kernel
theorem dX1_remember_17 : decode cX1_remember 17 = .ok (.aload_n 0, 1) := by decide +kernel
theorem dX1_remember_18 : decode cX1_remember 18 = .ok (.getfield 18, 3) := by decide +kernel
theorem dX1_remember_21 : decode cX1_remember 21 = .ok (.aaload, 1) := by decide +kernel
theorem dX1_remember_22 : decode cX1_remember 22 = .ok (.aload_n 1, 1) := by decide +kernel
theorem dX1_remember_23 : decode cX1_remember 23 = .ok (.invokevirtual 25, 3) := by decide +kernel
theorem dX1_remember_26 : decode cX1_remember 26 = .ok (.aload_n 0, 1) := by decide +kernel
theorem dX1_remember_27 : decode cX1_remember 27 = .ok (.dup, 1) := by decide +kernel
theorem dX1_remember_28 : decode cX1_remember 28 = .ok (.getfield 18, 3) := by decide +kernel
theorem dX1_remember_31 : decode cX1_remember 31 = .ok (.iconst 1, 1) := by decide +kernel
theorem dX1_remember_32 : decode cX1_remember 32 = .ok (.iadd, 1) := by decide +kernel
theorem dX1_remember_33 : decode cX1_remember 33 = .ok (.putfield 18, 3) := by decide +kernel
theorem dX1_remember_36 : decode cX1_remember 36 = .ok (.return_, 1) := by decide +kernel
theorem dX1_loseOldest_0 : decode cX1_loseOldest 0 = .ok (.iconst 1, 1) := by decide +kernel
theorem dX1_loseOldest_1 : decode cX1_loseOldest 1 = .ok (.istore_n 1, 1) := by decide +kernel
theorem dX1_loseOldest_2 : decode cX1_loseOldest 2 = .ok (.iload_n 1, 1) := by decide +kernel
theorem dX1_loseOldest_3 : decode cX1_loseOldest 3 = .ok (.aload_n 0, 1) := by decide +kernel
theorem dX1_loseOldest_4 : decode cX1_loseOldest 4 = .ok (.getfield 18, 3) := by decide +kernel
theorem dX1_loseOldest_7 : decode cX1_loseOldest 7 = .ok (.if_icmp .ge 26, 3) := by decide +kernel
theorem dX1_loseOldest_10 : decode cX1_loseOldest 10 = .ok (.aload_n 0, 1) := by decide +kernel
theorem dX1_loseOldest_11 : decode cX1_loseOldest 11 = .ok (.getfield 11, 3) := by decide +kernel
theorem dX1_loseOldest_14 : decode cX1_loseOldest 14 = .ok (.iload_n 1, 1) := by decide +kernel
theorem dX1_loseOldest_15 : decode cX1_loseOldest 15 = .ok (.iconst 1, 1) := by decide +kernel
theorem dX1_loseOldest_16 : decode cX1_loseOldest 16 = .ok (.isub, 1) := by decide +kernel
theorem dX1_loseOldest_17 : decode cX1_loseOldest 17 = .ok (.aaload, 1) := by decide +kernel
theorem dX1_loseOldest_18 : decode cX1_loseOldest 18 = .ok (.aload_n 0, 1) := by decide +kernel
theorem dX1_loseOldest_19 : decode cX1_loseOldest 19 = .ok (.getfield 11, 3) := by decide +kernel
theorem dX1_loseOldest_22 : decode cX1_loseOldest 22 = .ok (.iload_n 1, 1) := by decide +kernel
theorem dX1_loseOldest_23 : decode cX1_loseOldest 23 = .ok (.aaload, 1) := by decide +kernel
theorem dX1_loseOldest_24 : decode cX1_loseOldest 24 = .ok (.invokevirtual 25, 3) := by decide +kernel
theorem dX1_loseOldest_27 : decode cX1_loseOldest 27 = .ok (.iinc 1 1, 3) := by decide +kernel
theorem dX1_loseOldest_30 : decode cX1_loseOldest 30 = .ok (.goto (-28), 3) := by decide +kernel
theorem dX1_loseOldest_33 : decode cX1_loseOldest 33 = .ok (.aload_n 0, 1) := by decide +kernel
theorem dX1_loseOldest_34 : decode cX1_loseOldest 34 = .ok (.dup, 1) := by decide +kernel
theorem dX1_loseOldest_35 : decode cX1_loseOldest 35 = .ok (.getfield 18, 3) := by decide +kernel
theorem dX1_loseOldest_38 : decode cX1_loseOldest 38 = .ok (.iconst 1, 1) := by decide +kernel
theorem dX1_loseOldest_39 : decode cX1_loseOldest 39 = .ok (.isub, 1) := by decide +kernel
theorem dX1_loseOldest_40 : decode cX1_loseOldest 40 = .ok (.putfield 18, 3) := by decide +kernel
theorem dX1_loseOldest_43 : decode cX1_loseOldest 43 = .ok (.return_, 1) := by decide +kernel
theorem dX1_restore_0 : decode cX1_restore 0 = .ok (.aload_n 0, 1) := by decide +kernel
theorem dX1_restore_1 : decode cX1_restore 1 = .ok (.getfield 18, 3) := by decide +kernel
theorem dX1_restore_4 : decode cX1_restore 4 = .ok (.ifCond .le 26, 3) := by decide +kernel
theorem dX1_restore_7 : decode cX1_restore 7 = .ok (.aload_n 0, 1) := by decide +kernel
theorem dX1_restore_8 : decode cX1_restore 8 = .ok (.dup, 1) := by decide +kernel
theorem dX1_restore_9 : decode cX1_restore 9 = .ok (.getfield 18, 3) := by decide +kernel
theorem dX1_restore_12 : decode cX1_restore 12 = .ok (.iconst 1, 1) := by decide +kernel
theorem dX1_restore_13 : decode cX1_restore 13 = .ok (.isub, 1) := by decide +kernel
theorem dX1_restore_14 : decode cX1_restore 14 = .ok (.putfield 18, 3) := by decide +kernel
theorem dX1_restore_17 : decode cX1_restore 17 = .ok (.aload_n 1, 1) := by decide +kernel
theorem dX1_restore_18 : decode cX1_restore 18 = .ok (.aload_n 0, 1) := by decide +kernel
theorem dX1_restore_19 : decode cX1_restore 19 = .ok (.getfield 11, 3) := by decide +kernel
theorem dX1_restore_22 : decode cX1_restore 22 = .ok (.aload_n 0, 1) := by decide +kernel
theorem dX1_restore_23 : decode cX1_restore 23 = .ok (.getfield 18, 3) := by decide +kernel
theorem dX1_restore_26 : decode cX1_restore 26 = .ok (.aaload, 1) := by decide +kernel
theorem dX1_restore_27 : decode cX1_restore 27 = .ok (.invokevirtual 25, 3) := by decide +kernel
theorem dX1_restore_30 : decode cX1_restore 30 = .ok (.return_, 1) := by decide +kernel
theorem dX1_become_0 : decode cX1_become 0 = .ok (.aload_n 0, 1) := by decide +kernel
theorem dX1_become_1 : decode cX1_become 1 = .ok (.aload_n 1, 1) := by decide +kernel
theorem dX1_become_2 : decode cX1_become 2 = .ok (.getfield 18, 3) := by decide +kernel
theorem dX1_become_5 : decode cX1_become 5 = .ok (.putfield 18, 3) := by decide +kernel
theorem dX1_become_8 : decode cX1_become 8 = .ok (.iconst 0, 1) := by decide +kernel
theorem dX1_become_9 : decode cX1_become 9 = .ok (.istore_n 2, 1) := by decide +kernel
theorem dX1_become_10 : decode cX1_become 10 = .ok (.iload_n 2, 1) := by decide +kernel
theorem dX1_become_11 : decode cX1_become 11 = .ok (.aload_n 0, 1) := by decide +kernel
theorem dX1_become_12 : decode cX1_become 12 = .ok (.getfield 18, 3) := by decide +kernel
theorem dX1_become_15 : decode cX1_become 15 = .ok (.if_icmp .ge 24, 3) := by decide +kernel
theorem dX1_become_18 : decode cX1_become 18 = .ok (.aload_n 0, 1) := by decide +kernel
theorem dX1_become_19 : decode cX1_become 19 = .ok (.getfield 11, 3) := by decide +kernel
theorem dX1_become_22 : decode cX1_become 22 = .ok (.iload_n 2, 1) := by decide +kernel
theorem dX1_become_23 : decode cX1_become 23 = .ok (.aaload, 1) := by decide +kernel
theorem dX1_become_24 : decode cX1_become 24 = .ok (.aload_n 1, 1) := by decide +kernel
theorem dX1_become_25 : decode cX1_become 25 = .ok (.getfield 11, 3) := by decide +kernel
theorem dX1_become_28 : decode cX1_become 28 = .ok (.iload_n 2, 1) := by decide +kernel
theorem dX1_become_29 : decode cX1_become 29 = .ok (.aaload, 1) := by decide +kernel
theorem dX1_become_30 : decode cX1_become 30 = .ok (.invokevirtual 25, 3) := by decide +kernel
theorem dX1_become_33 : decode cX1_become 33 = .ok (.iinc 2 1, 3) := by decide +kernel
theorem dX1_become_36 : decode cX1_become 36 = .ok (.goto (-26), 3) := by decide +kernel
theorem dX1_become_39 : decode cX1_become 39 = .ok (.return_, 1) := by decide +kernel
theorem dX2_init_0 : decode cX2_init 0 = .ok (.aload_n 0, 1) := by decide +kernel
theorem dX2_init_1 : decode cX2_init 1 = .ok (.invokespecial 1, 3) := by decide +kernel
theorem dX2_init_4 : decode cX2_init 4 = .ok (.aload_n 0, 1) := by decide +kernel
theorem dX2_init_5 : decode cX2_init 5 = .ok (.new 7, 3) := by decide +kernel
theorem dX2_init_8 : decode cX2_init 8 = .ok (.dup, 1) := by decide +kernel
theorem dX2_init_9 : decode cX2_init 9 = .ok (.invokespecial 9, 3) := by decide +kernel
theorem dX2_init_12 : decode cX2_init 12 = .ok (.putfield 10, 3) := by decide +kernel
theorem dX2_init_15 : decode cX2_init 15 = .ok (.aload_n 0, 1) := by decide +kernel
theorem dX2_init_16 : decode cX2_init 16 = .ok (.new 16, 3) := by decide +kernel
theorem dX2_init_19 : decode cX2_init 19 = .ok (.dup, 1) := by decide +kernel
theorem dX2_init_20 : decode cX2_init 20 = .ok (.invokespecial 18, 3) := by decide +kernel
theorem dX2_init_23 : decode cX2_init 23 = .ok (.putfield 19, 3) := by decide +kernel
theorem dX2_init_26 : decode cX2_init 26 = .ok (.return_, 1) := by decide +kernel
theorem dX2_take_0 : decode cX2_take 0 = .ok (.aload_n 0, 1) := by decide +kernel
theorem dX2_take_1 : decode cX2_take 1 = .ok (.getfield 10, 3) := by decide +kernel
theorem dX2_take_4 : decode cX2_take 4 = .ok (.aload_n 1, 1) := by decide +kernel
theorem dX2_take_5 : decode cX2_take 5 = .ok (.invokevirtual 23, 3) := by decide +kernel
theorem dX2_take_8 : decode cX2_take 8 = .ok (.aload_n 0, 1) := by decide +kernel
theorem dX2_take_9 : decode cX2_take 9 = .ok (.getfield 19, 3) := by decide +kernel
theorem dX2_take_12 : decode cX2_take 12 = .ok (.aload_n 2, 1) := by decide +kernel
theorem dX2_take_13 : decode cX2_take 13 = .ok (.invokevirtual 27, 3) := by decide +kernel
theorem dX2_take_16 : decode cX2_take 16 = .ok (.aload_n 0, 1) := by decide +kernel
theorem dX2_take_17 : decode cX2_take 17 = .ok (.iconst 1, 1) := by decide +kernel
theorem dX2_take_18 : decode cX2_take 18 = .ok (.putfield 30, 3) := by decide +kernel
theorem dX2_take_21 : decode cX2_take 21 = .ok (.return_, 1) := by decide +kernel
theorem dX2_give_0 : decode cX2_give 0 = .ok (.aload_n 1, 1) := by decide +kernel
theorem dX2_give_1 : decode cX2_give 1 = .ok (.aload_n 0, 1) := by decide +kernel
theorem dX2_give_2 : decode cX2_give 2 = .ok (.getfield 10, 3) := by decide +kernel
theorem dX2_give_5 : decode cX2_give 5 = .ok (.invokevirtual 23, 3) := by decide +kernel
theorem dX2_give_8 : decode cX2_give 8 = .ok (.aload_n 2, 1) := by decide +kernel
theorem dX2_give_9 : decode cX2_give 9 = .ok (.aload_n 0, 1) := by decide +kernel
theorem dX2_give_10 : decode cX2_give 10 = .ok (.getfield 19, 3) := by decide +kernel
theorem dX2_give_13 : decode cX2_give 13 = .ok (.invokevirtual 27, 3) := by decide +kernel
theorem dX2_give_16 : decode cX2_give 16 = .ok (.return_, 1) := by decide +kernel
theorem dX3_init_0 : decode cX3_init 0 = .ok (.aload_n 0, 1) := by decide +kernel
theorem dX3_init_1 : decode cX3_init 1 = .ok (.invokespecial 3, 3) := by decide +kernel
theorem dX3_init_4 : decode cX3_init 4 = .ok (.return_, 1) := by decide +kernel
theorem dX3_begin_0 : decode cX3_begin 0 = .ok (.aload_n 0, 1) := by decide +kernel
theorem dX3_begin_1 : decode cX3_begin 1 = .ok (.iconst 0, 1) := by decide +kernel
theorem dX3_begin_2 : decode cX3_begin 2 = .ok (.putfield 9, 3) := by decide +kernel
theorem dX3_begin_5 : decode cX3_begin 5 = .ok (.aload_n 0, 1) := by decide +kernel
theorem dX3_begin_6 : decode cX3_begin 6 = .ok (.iconst 0, 1) := by decide +kernel
theorem dX3_begin_7 : decode cX3_begin 7 = .ok (.putfield 15, 3) := by decide +kernel
theorem dX3_begin_10 : decode cX3_begin 10 = .ok (.aload_n 0, 1) := by decide +kernel
theorem dX3_begin_11 : decode cX3_begin 11 = .ok (.iconst 0, 1) := by decide +kernel
theorem dX3_begin_12 : decode cX3_begin 12 = .ok (.putfield 18, 3) := by decide +kernel
theorem dX3_begin_15 : decode cX3_begin 15 = .ok (.aload_n 0, 1) := by decide +kernel
theorem dX3_begin_16 : decode cX3_begin 16 = .ok (.iconst 0, 1) := by decide +kernel
theorem dX3_begin_17 : decode cX3_begin 17 = .ok (.putfield 21, 3) := by decide +kernel
theorem dX3_begin_20 : decode cX3_begin 20 = .ok (.aload_n 0, 1) := by decide +kernel
theorem dX3_begin_21 : decode cX3_begin 21 = .ok (.iconst 0, 1) := by decide +kernel
theorem dX3_begin_22 : decode cX3_begin 22 = .ok (.putfield 24, 3) := by decide +kernel
theorem dX3_begin_25 : decode cX3_begin 25 = .ok (.aload_n 0, 1) := by decide +kernel
theorem dX3_begin_26 : decode cX3_begin 26 = .ok (.iconst 0, 1) := by decide +kernel
theorem dX3_begin_27 : decode cX3_begin 27 = .ok (.putfield 27, 3) := by decide +kernel
theorem dX3_begin_30 : decode cX3_begin 30 = .ok (.return_, 1) := by decide +kernel
theorem dX3_become_0 : decode cX3_become 0 = .ok (.aload_n 0, 1) := by decide +kernel
theorem dX3_become_1 : decode cX3_become 1 = .ok (.aload_n 1, 1) := by decide +kernel
theorem dX3_become_2 : decode cX3_become 2 = .ok (.getfield 9, 3) := by decide +kernel
theorem dX3_become_5 : decode cX3_become 5 = .ok (.putfield 9, 3) := by decide +kernel
theorem dX3_become_8 : decode cX3_become 8 = .ok (.aload_n 0, 1) := by decide +kernel
theorem dX3_become_9 : decode cX3_become 9 = .ok (.aload_n 1, 1) := by decide +kernel
theorem dX3_become_10 : decode cX3_become 10 = .ok (.getfield 15, 3) := by decide +kernel
theorem dX3_become_13 : decode cX3_become 13 = .ok (.putfield 15, 3) := by decide +kernel
theorem dX3_become_16 : decode cX3_become 16 = .ok (.aload_n 0, 1) := by decide +kernel
theorem dX3_become_17 : decode cX3_become 17 = .ok (.aload_n 1, 1) := by decide +kernel
theorem dX3_become_18 : decode cX3_become 18 = .ok (.getfield 18, 3) := by decide +kernel
theorem dX3_become_21 : decode cX3_become 21 = .ok (.putfield 18, 3) := by decide +kernel
theorem dX3_become_24 : decode cX3_become 24 = .ok (.aload_n 0, 1) := by decide +kernel
theorem dX3_become_25 : decode cX3_become 25 = .ok (.aload_n 1, 1) := by decide +kernel
theorem dX3_become_26 : decode cX3_become 26 = .ok (.getfield 21, 3) := by decide +kernel
theorem dX3_become_29 : decode cX3_become 29 = .ok (.putfield 21, 3) := by decide +kernel
theorem dX3_become_32 : decode cX3_become 32 = .ok (.aload_n 0, 1) := by decide +kernel
theorem dX3_become_33 : decode cX3_become 33 = .ok (.aload_n 1, 1) := by decide +kernel
theorem dX3_become_34 : decode cX3_become 34 = .ok (.getfield 24, 3) := by decide +kernel
theorem dX3_become_37 : decode cX3_become 37 = .ok (.putfield 24, 3) := by decide +kernel
theorem dX3_become_40 : decode cX3_become 40 = .ok (.aload_n 0, 1) := by decide +kernel
theorem dX3_become_41 : decode cX3_become 41 = .ok (.aload_n 1, 1) := by decide +kernel
theorem dX3_become_42 : decode cX3_become 42 = .ok (.getfield 27, 3) := by decide +kernel
theorem dX3_become_45 : decode cX3_become 45 = .ok (.putfield 27, 3) := by decide +kernel
theorem dX3_become_48 : decode cX3_become 48 = .ok (.return_, 1) := by decide +kernel
theorem dX3_hasLed_0 : decode cX3_hasLed 0 = .ok (.aload_n 0, 1) := by decide +kernel
theorem dX3_hasLed_1 : decode cX3_hasLed 1 = .ok (.getfield 21, 3) := by decide +kernel
theorem dX3_hasLed_4 : decode cX3_hasLed 4 = .ok (.iload_n 1, 1) := by decide +kernel
theorem dX3_hasLed_5 : decode cX3_hasLed 5 = .ok (.ishr, 1) := by decide +kernel
theorem dX3_hasLed_6 : decode cX3_hasLed 6 = .ok (.iconst 1, 1) := by decide +kernel
theorem dX3_hasLed_7 : decode cX3_hasLed 7 = .ok (.iand, 1) := by decide +kernel
theorem dX3_hasLed_8 : decode cX3_hasLed 8 = .ok (.iconst 1, 1) := by decide +kernel
theorem dX3_hasLed_9 : decode cX3_hasLed 9 = .ok (.if_icmp .ne 7, 3) := by decide +kernel
theorem dX3_hasLed_12 : decode cX3_hasLed 12 = .ok (.iconst 1, 1) := by decide +kernel
theorem dX3_hasLed_13 : decode cX3_hasLed 13 = .ok (.goto 4, 3) := by decide +kernel
theorem dX3_hasLed_16 : decode cX3_hasLed 16 = .ok (.iconst 0, 1) := by decide +kernel
theorem dX3_hasLed_17 : decode cX3_hasLed 17 = .ok (.ireturn, 1) := by decide +kernel
theorem dX3_waysTaken_0 : decode cX3_waysTaken 0 = .ok (.aload_n 0, 1) := by decide +kernel
theorem dX3_waysTaken_1 : decode cX3_waysTaken 1 = .ok (.getfield 24, 3) := by decide +kernel
theorem dX3_waysTaken_4 : decode cX3_waysTaken 4 = .ok (.iload_n 1, 1) := by decide +kernel
theorem dX3_waysTaken_5 : decode cX3_waysTaken 5 = .ok (.ishr, 1) := by decide +kernel
theorem dX3_waysTaken_6 : decode cX3_waysTaken 6 = .ok (.iconst 1, 1) := by decide +kernel
theorem dX3_waysTaken_7 : decode cX3_waysTaken 7 = .ok (.iand, 1) := by decide +kernel
theorem dX3_waysTaken_8 : decode cX3_waysTaken 8 = .ok (.aload_n 0, 1) := by decide +kernel
theorem dX3_waysTaken_9 : decode cX3_waysTaken 9 = .ok (.getfield 24, 3) := by decide +kernel
theorem dX3_waysTaken_12 : decode cX3_waysTaken 12 = .ok (.iload_n 1, 1) := by decide +kernel
theorem dX3_waysTaken_13 : decode cX3_waysTaken 13 = .ok (.bipush 12, 2) := by decide +kernel
theorem dX3_waysTaken_15 : decode cX3_waysTaken 15 = .ok (.iadd, 1) := by decide +kernel
theorem dX3_waysTaken_16 : decode cX3_waysTaken 16 = .ok (.ishr, 1) := by decide +kernel
theorem dX3_waysTaken_17 : decode cX3_waysTaken 17 = .ok (.iconst 1, 1) := by decide +kernel
theorem dX3_waysTaken_18 : decode cX3_waysTaken 18 = .ok (.iand, 1) := by decide +kernel
theorem dX3_waysTaken_19 : decode cX3_waysTaken 19 = .ok (.iconst 1, 1) := by decide +kernel
theorem dX3_waysTaken_20 : decode cX3_waysTaken 20 = .ok (.ishl, 1) := by decide +kernel
theorem dX3_waysTaken_21 : decode cX3_waysTaken 21 = .ok (.ior, 1) := by decide +kernel
theorem dX3_waysTaken_22 : decode cX3_waysTaken 22 = .ok (.ireturn, 1) := by decide +kernel
theorem dX3_walked_0 : decode cX3_walked 0 = .ok (.aload_n 0, 1) := by decide +kernel
theorem dX3_walked_1 : decode cX3_walked 1 = .ok (.getfield 24, 3) := by decide +kernel
theorem dX3_walked_4 : decode cX3_walked 4 = .ok (.aload_n 0, 1) := by decide +kernel
theorem dX3_walked_5 : decode cX3_walked 5 = .ok (.getfield 24, 3) := by decide +kernel
theorem dX3_walked_8 : decode cX3_walked 8 = .ok (.bipush 12, 2) := by decide +kernel
theorem dX3_walked_10 : decode cX3_walked 10 = .ok (.ishr, 1) := by decide +kernel
theorem dX3_walked_11 : decode cX3_walked 11 = .ok (.ior, 1) := by decide +kernel
theorem dX3_walked_12 : decode cX3_walked 12 = .ok (.sipush 4095, 3) := by decide +kernel
theorem dX3_walked_15 : decode cX3_walked 15 = .ok (.iand, 1) := by decide +kernel
theorem dX3_walked_16 : decode cX3_walked 16 = .ok (.ireturn, 1) := by decide +kernel
theorem dX3_goBy_0 : decode cX3_goBy 0 = .ok (.aload_n 1, 1) := by decide +kernel
theorem dX3_goBy_1 : decode cX3_goBy 1 = .ok (.iload_n 2, 1) := by decide +kernel
theorem dX3_goBy_2 : decode cX3_goBy 2 = .ok (.invokevirtual 30, 3) := by decide +kernel
theorem dX3_goBy_5 : decode cX3_goBy 5 = .ok (.ifCond .ne 5, 3) := by decide +kernel
theorem dX3_goBy_8 : decode cX3_goBy 8 = .ok (.iconst 0, 1) := by decide +kernel
theorem dX3_goBy_9 : decode cX3_goBy 9 = .ok (.ireturn, 1) := by decide +kernel
theorem dX3_goBy_10 : decode cX3_goBy 10 = .ok (.aload_n 1, 1) := by decide +kernel
theorem dX3_goBy_11 : decode cX3_goBy 11 = .ok (.getfield 36, 3) := by decide +kernel
theorem dX3_goBy_14 : decode cX3_goBy 14 = .ok (.iload_n 2, 1) := by decide +kernel
theorem dX3_goBy_15 : decode cX3_goBy 15 = .ok (.iaload, 1) := by decide +kernel
theorem dX3_goBy_16 : decode cX3_goBy 16 = .ok (.istore_n 3, 1) := by decide +kernel
theorem dX3_goBy_17 : decode cX3_goBy 17 = .ok (.aload_n 1, 1) := by decide +kernel
theorem dX3_goBy_18 : decode cX3_goBy 18 = .ok (.getfield 40, 3) := by decide +kernel
theorem dX3_goBy_21 : decode cX3_goBy 21 = .ok (.iload_n 2, 1) := by decide +kernel
theorem dX3_goBy_22 : decode cX3_goBy 22 = .ok (.iaload, 1) := by decide +kernel
theorem dX3_goBy_23 : decode cX3_goBy 23 = .ok (.istore 4, 2) := by decide +kernel
theorem dX3_goBy_25 : decode cX3_goBy 25 = .ok (.iconst 0, 1) := by decide +kernel
theorem dX3_goBy_26 : decode cX3_goBy 26 = .ok (.istore 5, 2) := by decide +kernel
theorem dX3_goBy_28 : decode cX3_goBy 28 = .ok (.aload_n 0, 1) := by decide +kernel
theorem dX3_goBy_29 : decode cX3_goBy 29 = .ok (.dup, 1) := by decide +kernel
theorem dX3_goBy_30 : decode cX3_goBy 30 = .ok (.getfield 21, 3) := by decide +kernel
theorem dX3_goBy_33 : decode cX3_goBy 33 = .ok (.iconst 1, 1) := by decide +kernel
theorem dX3_goBy_34 : decode cX3_goBy 34 = .ok (.iload_n 2, 1) := by decide +kernel
theorem dX3_goBy_35 : decode cX3_goBy 35 = .ok (.ishl, 1) := by decide +kernel
theorem dX3_goBy_36 : decode cX3_goBy 36 = .ok (.ior, 1) := by decide +kernel
theorem dX3_goBy_37 : decode cX3_goBy 37 = .ok (.putfield 21, 3) := by decide +kernel
theorem dX3_goBy_40 : decode cX3_goBy 40 = .ok (.iconst 0, 1) := by decide +kernel
theorem dX3_goBy_41 : decode cX3_goBy 41 = .ok (.istore 6, 2) := by decide +kernel
theorem dX3_goBy_43 : decode cX3_goBy 43 = .ok (.iload 6, 2) := by decide +kernel
theorem dX3_goBy_45 : decode cX3_goBy 45 = .ok (.iload 4, 2) := by decide +kernel
theorem dX3_goBy_47 : decode cX3_goBy 47 = .ok (.if_icmp .ge 111, 3) := by decide +kernel
theorem dX3_goBy_50 : decode cX3_goBy 50 = .ok (.iload 6, 2) := by decide +kernel
theorem dX3_goBy_52 : decode cX3_goBy 52 = .ok (.ifCond .eq 11, 3) := by decide +kernel
theorem dX3_goBy_55 : decode cX3_goBy 55 = .ok (.aload_n 0, 1) := by decide +kernel
theorem dX3_goBy_56 : decode cX3_goBy 56 = .ok (.getfield 9, 3) := by decide +kernel
theorem dX3_goBy_59 : decode cX3_goBy 59 = .ok (.iload_n 3, 1) := by decide +kernel
theorem dX3_goBy_60 : decode cX3_goBy 60 = .ok (.if_icmp .eq 98, 3) := by decide +kernel
theorem dX3_goBy_63 : decode cX3_goBy 63 = .ok (.aload_n 1, 1) := by decide +kernel
theorem dX3_goBy_64 : decode cX3_goBy 64 = .ok (.aload_n 0, 1) := by decide +kernel
theorem dX3_goBy_65 : decode cX3_goBy 65 = .ok (.getfield 9, 3) := by decide +kernel
theorem dX3_goBy_68 : decode cX3_goBy 68 = .ok (.iload_n 3, 1) := by decide +kernel
theorem dX3_goBy_69 : decode cX3_goBy 69 = .ok (.aload_n 0, 1) := by decide +kernel
theorem dX3_goBy_70 : decode cX3_goBy 70 = .ok (.getfield 24, 3) := by decide +kernel
theorem dX3_goBy_73 : decode cX3_goBy 73 = .ok (.aload_n 0, 1) := by decide +kernel
theorem dX3_goBy_74 : decode cX3_goBy 74 = .ok (.getfield 27, 3) := by decide +kernel
theorem dX3_goBy_77 : decode cX3_goBy 77 = .ok (.ior, 1) := by decide +kernel
theorem dX3_goBy_78 : decode cX3_goBy 78 = .ok (.aload_n 0, 1) := by decide +kernel
theorem dX3_goBy_79 : decode cX3_goBy 79 = .ok (.getfield 27, 3) := by decide +kernel
theorem dX3_goBy_82 : decode cX3_goBy 82 = .ok (.bipush 12, 2) := by decide +kernel
theorem dX3_goBy_84 : decode cX3_goBy 84 = .ok (.ishl, 1) := by decide +kernel
theorem dX3_goBy_85 : decode cX3_goBy 85 = .ok (.ior, 1) := by decide +kernel
theorem dX3_goBy_86 : decode cX3_goBy 86 = .ok (.invokevirtual 43, 3) := by decide +kernel
theorem dX3_goBy_89 : decode cX3_goBy 89 = .ok (.istore 7, 2) := by decide +kernel
theorem dX3_goBy_91 : decode cX3_goBy 91 = .ok (.iload 7, 2) := by decide +kernel
theorem dX3_goBy_93 : decode cX3_goBy 93 = .ok (.bipush (-9), 2) := by decide +kernel
theorem dX3_goBy_95 : decode cX3_goBy 95 = .ok (.if_icmp .ne 19, 3) := by decide +kernel
theorem dX3_goBy_98 : decode cX3_goBy 98 = .ok (.aload_n 0, 1) := by decide +kernel
theorem dX3_goBy_99 : decode cX3_goBy 99 = .ok (.dup, 1) := by decide +kernel
theorem dX3_goBy_100 : decode cX3_goBy 100 = .ok (.getfield 18, 3) := by decide +kernel
theorem dX3_goBy_103 : decode cX3_goBy 103 = .ok (.iconst 1, 1) := by decide +kernel
theorem dX3_goBy_104 : decode cX3_goBy 104 = .ok (.iadd, 1) := by decide +kernel
theorem dX3_goBy_105 : decode cX3_goBy 105 = .ok (.putfield 18, 3) := by decide +kernel
theorem dX3_goBy_108 : decode cX3_goBy 108 = .ok (.iconst 1, 1) := by decide +kernel
theorem dX3_goBy_109 : decode cX3_goBy 109 = .ok (.istore 5, 2) := by decide +kernel
theorem dX3_goBy_111 : decode cX3_goBy 111 = .ok (.goto 47, 3) := by decide +kernel
theorem dX3_goBy_114 : decode cX3_goBy 114 = .ok (.aload_n 0, 1) := by decide +kernel
theorem dX3_goBy_115 : decode cX3_goBy 115 = .ok (.dup, 1) := by decide +kernel
theorem dX3_goBy_116 : decode cX3_goBy 116 = .ok (.getfield 24, 3) := by decide +kernel
theorem dX3_goBy_119 : decode cX3_goBy 119 = .ok (.iconst 1, 1) := by decide +kernel
theorem dX3_goBy_120 : decode cX3_goBy 120 = .ok (.iload 7, 2) := by decide +kernel
theorem dX3_goBy_122 : decode cX3_goBy 122 = .ok (.ishl, 1) := by decide +kernel
theorem dX3_goBy_123 : decode cX3_goBy 123 = .ok (.ior, 1) := by decide +kernel
theorem dX3_goBy_124 : decode cX3_goBy 124 = .ok (.putfield 24, 3) := by decide +kernel
theorem dX3_goBy_127 : decode cX3_goBy 127 = .ok (.aload_n 0, 1) := by decide +kernel
theorem dX3_goBy_128 : decode cX3_goBy 128 = .ok (.dup, 1) := by decide +kernel
theorem dX3_goBy_129 : decode cX3_goBy 129 = .ok (.getfield 15, 3) := by decide +kernel
theorem dX3_goBy_132 : decode cX3_goBy 132 = .ok (.aload_n 1, 1) := by decide +kernel
theorem dX3_goBy_133 : decode cX3_goBy 133 = .ok (.iload 7, 2) := by decide +kernel
theorem dX3_goBy_135 : decode cX3_goBy 135 = .ok (.invokevirtual 47, 3) := by decide +kernel
theorem dX3_goBy_138 : decode cX3_goBy 138 = .ok (.iadd, 1) := by decide +kernel
theorem dX3_goBy_139 : decode cX3_goBy 139 = .ok (.putfield 15, 3) := by decide +kernel
theorem dX3_goBy_142 : decode cX3_goBy 142 = .ok (.aload_n 0, 1) := by decide +kernel
theorem dX3_goBy_143 : decode cX3_goBy 143 = .ok (.aload_n 1, 1) := by decide +kernel
theorem dX3_goBy_144 : decode cX3_goBy 144 = .ok (.iload 7, 2) := by decide +kernel
theorem dX3_goBy_146 : decode cX3_goBy 146 = .ok (.invokevirtual 51, 3) := by decide +kernel
theorem dX3_goBy_149 : decode cX3_goBy 149 = .ok (.putfield 9, 3) := by decide +kernel
theorem dX3_goBy_152 : decode cX3_goBy 152 = .ok (.iinc 6 1, 3) := by decide +kernel
theorem dX3_goBy_155 : decode cX3_goBy 155 = .ok (.goto (-112), 3) := by decide +kernel
theorem dX3_goBy_158 : decode cX3_goBy 158 = .ok (.iload 5, 2) := by decide +kernel
theorem dX3_goBy_160 : decode cX3_goBy 160 = .ok (.ireturn, 1) := by decide +kernel
theorem dX4_init_0 : decode cX4_init 0 = .ok (.aload_n 0, 1) := by decide +kernel
theorem dX4_init_1 : decode cX4_init 1 = .ok (.invokespecial 3, 3) := by decide +kernel
theorem dX4_init_4 : decode cX4_init 4 = .ok (.aload_n 0, 1) := by decide +kernel
theorem dX4_init_5 : decode cX4_init 5 = .ok (.bipush 6, 2) := by decide +kernel
theorem dX4_init_7 : decode cX4_init 7 = .ok (.newarray .int, 2) := by decide +kernel
theorem dX4_init_9 : decode cX4_init 9 = .ok (.putfield 9, 3) := by decide +kernel
theorem dX4_init_12 : decode cX4_init 12 = .ok (.aload_n 0, 1) := by decide +kernel
theorem dX4_init_13 : decode cX4_init 13 = .ok (.bipush 6, 2) := by decide +kernel
theorem dX4_init_15 : decode cX4_init 15 = .ok (.newarray .int, 2) := by decide +kernel
theorem dX4_init_17 : decode cX4_init 17 = .ok (.putfield 15, 3) := by decide +kernel
theorem dX4_init_20 : decode cX4_init 20 = .ok (.return_, 1) := by decide +kernel
theorem dX4_begin_0 : decode cX4_begin 0 = .ok (.aload_n 0, 1) := by decide +kernel
theorem dX4_begin_1 : decode cX4_begin 1 = .ok (.iconst 0, 1) := by decide +kernel
theorem dX4_begin_2 : decode cX4_begin 2 = .ok (.putfield 18, 3) := by decide +kernel
theorem dX4_begin_5 : decode cX4_begin 5 = .ok (.aload_n 0, 1) := by decide +kernel
theorem dX4_begin_6 : decode cX4_begin 6 = .ok (.bipush (-9), 2) := by decide +kernel
theorem dX4_begin_8 : decode cX4_begin 8 = .ok (.putfield 22, 3) := by decide +kernel
theorem dX4_begin_11 : decode cX4_begin 11 = .ok (.aload_n 0, 1) := by decide +kernel
theorem dX4_begin_12 : decode cX4_begin 12 = .ok (.bipush (-9), 2) := by decide +kernel
theorem dX4_begin_14 : decode cX4_begin 14 = .ok (.putfield 25, 3) := by decide +kernel
theorem dX4_begin_17 : decode cX4_begin 17 = .ok (.aload_n 0, 1) := by decide +kernel
theorem dX4_begin_18 : decode cX4_begin 18 = .ok (.aload_n 1, 1) := by decide +kernel
theorem dX4_begin_19 : decode cX4_begin 19 = .ok (.invokevirtual 28, 3) := by decide +kernel
theorem dX4_begin_22 : decode cX4_begin 22 = .ok (.putfield 34, 3) := by decide +kernel
theorem dX4_begin_25 : decode cX4_begin 25 = .ok (.aload_n 0, 1) := by decide +kernel
theorem dX4_begin_26 : decode cX4_begin 26 = .ok (.iconst 0, 1) := by decide +kernel
theorem dX4_begin_27 : decode cX4_begin 27 = .ok (.putfield 36, 3) := by decide +kernel
theorem dX4_begin_30 : decode cX4_begin 30 = .ok (.aload_n 0, 1) := by decide +kernel
theorem dX4_begin_31 : decode cX4_begin 31 = .ok (.iconst 0, 1) := by decide +kernel
theorem dX4_begin_32 : decode cX4_begin 32 = .ok (.putfield 39, 3) := by decide +kernel
theorem dX4_begin_35 : decode cX4_begin 35 = .ok (.aload_n 0, 1) := by decide +kernel
theorem dX4_begin_36 : decode cX4_begin 36 = .ok (.sipush 216, 3) := by decide +kernel
theorem dX4_begin_39 : decode cX4_begin 39 = .ok (.putfield 42, 3) := by decide +kernel
theorem dX4_begin_42 : decode cX4_begin 42 = .ok (.aload_n 0, 1) := by decide +kernel
theorem dX4_begin_43 : decode cX4_begin 43 = .ok (.iconst 0, 1) := by decide +kernel
theorem dX4_begin_44 : decode cX4_begin 44 = .ok (.putfield 45, 3) := by decide +kernel
theorem dX4_begin_47 : decode cX4_begin 47 = .ok (.aload_n 0, 1) := by decide +kernel
theorem dX4_begin_48 : decode cX4_begin 48 = .ok (.iconst 0, 1) := by decide +kernel
theorem dX4_begin_49 : decode cX4_begin 49 = .ok (.putfield 48, 3) := by decide +kernel
theorem dX4_begin_52 : decode cX4_begin 52 = .ok (.return_, 1) := by decide +kernel
theorem dX4_take_0 : decode cX4_take 0 = .ok (.aload_n 1, 1) := by decide +kernel
theorem dX4_take_1 : decode cX4_take 1 = .ok (.getfield 51, 3) := by decide +kernel
theorem dX4_take_4 : decode cX4_take 4 = .ok (.astore 4, 2) := by decide +kernel
theorem dX4_take_6 : decode cX4_take 6 = .ok (.aload_n 0, 1) := by decide +kernel
theorem dX4_take_7 : decode cX4_take 7 = .ok (.aload_n 1, 1) := by decide +kernel
theorem dX4_take_8 : decode cX4_take 8 = .ok (.getfield 57, 3) := by decide +kernel
theorem dX4_take_11 : decode cX4_take 11 = .ok (.putfield 18, 3) := by decide +kernel
theorem dX4_take_14 : decode cX4_take 14 = .ok (.aload 4, 2) := by decide +kernel
theorem dX4_take_16 : decode cX4_take 16 = .ok (.getfield 58, 3) := by decide +kernel
theorem dX4_take_19 : decode cX4_take 19 = .ok (.aload_n 2, 1) := by decide +kernel
theorem dX4_take_20 : decode cX4_take 20 = .ok (.getfield 58, 3) := by decide +kernel
theorem dX4_take_23 : decode cX4_take 23 = .ok (.isub, 1) := by decide +kernel
theorem dX4_take_24 : decode cX4_take 24 = .ok (.istore 5, 2) := by decide +kernel
theorem dX4_take_26 : decode cX4_take 26 = .ok (.aload_n 0, 1) := by decide +kernel
theorem dX4_take_27 : decode cX4_take 27 = .ok (.aload_n 1, 1) := by decide +kernel
theorem dX4_take_28 : decode cX4_take 28 = .ok (.iload_n 3, 1) := by decide +kernel
theorem dX4_take_29 : decode cX4_take 29 = .ok (.ifCond .eq 7, 3) := by decide +kernel
theorem dX4_take_32 : decode cX4_take 32 = .ok (.iconst 1, 1) := by decide +kernel
theorem dX4_take_33 : decode cX4_take 33 = .ok (.goto 4, 3) := by decide +kernel
theorem dX4_take_36 : decode cX4_take 36 = .ok (.iconst 0, 1) := by decide +kernel
theorem dX4_take_37 : decode cX4_take 37 = .ok (.aload 4, 2) := by decide +kernel
theorem dX4_take_39 : decode cX4_take 39 = .ok (.getfield 61, 3) := by decide +kernel
theorem dX4_take_42 : decode cX4_take 42 = .ok (.aload_n 2, 1) := by decide +kernel
theorem dX4_take_43 : decode cX4_take 43 = .ok (.getfield 61, 3) := by decide +kernel
theorem dX4_take_46 : decode cX4_take 46 = .ok (.isub, 1) := by decide +kernel
theorem dX4_take_47 : decode cX4_take 47 = .ok (.iload 5, 2) := by decide +kernel
theorem dX4_take_49 : decode cX4_take 49 = .ok (.invokevirtual 64, 3) := by decide +kernel
theorem dX4_take_52 : decode cX4_take 52 = .ok (.aload_n 0, 1) := by decide +kernel
theorem dX4_take_53 : decode cX4_take 53 = .ok (.aload_n 1, 1) := by decide +kernel
theorem dX4_take_54 : decode cX4_take 54 = .ok (.invokevirtual 68, 3) := by decide +kernel
theorem dX4_take_57 : decode cX4_take 57 = .ok (.aload_n 0, 1) := by decide +kernel
theorem dX4_take_58 : decode cX4_take 58 = .ok (.dup, 1) := by decide +kernel
theorem dX4_take_59 : decode cX4_take 59 = .ok (.getfield 34, 3) := by decide +kernel
theorem dX4_take_62 : decode cX4_take 62 = .ok (.aload 4, 2) := by decide +kernel
theorem dX4_take_64 : decode cX4_take 64 = .ok (.invokevirtual 28, 3) := by decide +kernel
theorem dX4_take_67 : decode cX4_take 67 = .ok (.ior, 1) := by decide +kernel
theorem dX4_take_68 : decode cX4_take 68 = .ok (.putfield 34, 3) := by decide +kernel
theorem dX4_take_71 : decode cX4_take 71 = .ok (.aload_n 0, 1) := by decide +kernel
theorem dX4_take_72 : decode cX4_take 72 = .ok (.dup, 1) := by decide +kernel
theorem dX4_take_73 : decode cX4_take 73 = .ok (.getfield 36, 3) := by decide +kernel
theorem dX4_take_76 : decode cX4_take 76 = .ok (.iconst 1, 1) := by decide +kernel
theorem dX4_take_77 : decode cX4_take 77 = .ok (.aload 4, 2) := by decide +kernel
theorem dX4_take_79 : decode cX4_take 79 = .ok (.getfield 72, 3) := by decide +kernel
theorem dX4_take_82 : decode cX4_take 82 = .ok (.ishl, 1) := by decide +kernel
theorem dX4_take_83 : decode cX4_take 83 = .ok (.ior, 1) := by decide +kernel
theorem dX4_take_84 : decode cX4_take 84 = .ok (.putfield 36, 3) := by decide +kernel
theorem dX4_take_87 : decode cX4_take 87 = .ok (.aload_n 0, 1) := by decide +kernel
theorem dX4_take_88 : decode cX4_take 88 = .ok (.aload_n 0, 1) := by decide +kernel
theorem dX4_take_89 : decode cX4_take 89 = .ok (.getfield 39, 3) := by decide +kernel
theorem dX4_take_92 : decode cX4_take 92 = .ok (.aload_n 1, 1) := by decide +kernel
theorem dX4_take_93 : decode cX4_take 93 = .ok (.getfield 75, 3) := by decide +kernel
theorem dX4_take_96 : decode cX4_take 96 = .ok (.invokestatic 78, 3) := by decide +kernel
theorem dX4_take_99 : decode cX4_take 99 = .ok (.putfield 39, 3) := by decide +kernel
theorem dX4_take_102 : decode cX4_take 102 = .ok (.aload_n 0, 1) := by decide +kernel
theorem dX4_take_103 : decode cX4_take 103 = .ok (.aload_n 0, 1) := by decide +kernel
theorem dX4_take_104 : decode cX4_take 104 = .ok (.getfield 42, 3) := by decide +kernel
theorem dX4_take_107 : decode cX4_take 107 = .ok (.iload 5, 2) := by decide +kernel
theorem dX4_take_109 : decode cX4_take 109 = .ok (.invokestatic 84, 3) := by decide +kernel
theorem dX4_take_112 : decode cX4_take 112 = .ok (.putfield 42, 3) := by decide +kernel
theorem dX4_take_115 : decode cX4_take 115 = .ok (.aload_n 0, 1) := by decide +kernel
theorem dX4_take_116 : decode cX4_take 116 = .ok (.aload_n 0, 1) := by decide +kernel
theorem dX4_take_117 : decode cX4_take 117 = .ok (.getfield 45, 3) := by decide +kernel
theorem dX4_take_120 : decode cX4_take 120 = .ok (.iload 5, 2) := by decide +kernel
theorem dX4_take_122 : decode cX4_take 122 = .ok (.invokestatic 78, 3) := by decide +kernel
theorem dX4_take_125 : decode cX4_take 125 = .ok (.putfield 45, 3) := by decide +kernel
theorem dX4_take_128 : decode cX4_take 128 = .ok (.iload_n 3, 1) := by decide +kernel
theorem dX4_take_129 : decode cX4_take 129 = .ok (.ifCond .eq 32, 3) := by decide +kernel
theorem dX4_take_132 : decode cX4_take 132 = .ok (.aload_n 0, 1) := by decide +kernel
theorem dX4_take_133 : decode cX4_take 133 = .ok (.getfield 18, 3) := by decide +kernel
theorem dX4_take_136 : decode cX4_take 136 = .ok (.ifCond .le 25, 3) := by decide +kernel
theorem dX4_take_139 : decode cX4_take 139 = .ok (.aload_n 0, 1) := by decide +kernel
theorem dX4_take_140 : decode cX4_take 140 = .ok (.dup, 1) := by decide +kernel
theorem dX4_take_141 : decode cX4_take 141 = .ok (.getfield 48, 3) := by decide +kernel
theorem dX4_take_144 : decode cX4_take 144 = .ok (.iconst 1, 1) := by decide +kernel
theorem dX4_take_145 : decode cX4_take 145 = .ok (.aload_n 1, 1) := by decide +kernel
theorem dX4_take_146 : decode cX4_take 146 = .ok (.getfield 87, 3) := by decide +kernel
theorem dX4_take_149 : decode cX4_take 149 = .ok (.aload_n 0, 1) := by decide +kernel
theorem dX4_take_150 : decode cX4_take 150 = .ok (.getfield 18, 3) := by decide +kernel
theorem dX4_take_153 : decode cX4_take 153 = .ok (.iconst 1, 1) := by decide +kernel
theorem dX4_take_154 : decode cX4_take 154 = .ok (.isub, 1) := by decide +kernel
theorem dX4_take_155 : decode cX4_take 155 = .ok (.iaload, 1) := by decide +kernel
theorem dX4_take_156 : decode cX4_take 156 = .ok (.ishl, 1) := by decide +kernel
theorem dX4_take_157 : decode cX4_take 157 = .ok (.ior, 1) := by decide +kernel
theorem dX4_take_158 : decode cX4_take 158 = .ok (.putfield 48, 3) := by decide +kernel
theorem dX4_take_161 : decode cX4_take 161 = .ok (.return_, 1) := by decide +kernel
theorem dX4_takeBest_0 : decode cX4_takeBest 0 = .ok (.iload_n 2, 1) := by decide +kernel
theorem dX4_takeBest_1 : decode cX4_takeBest 1 = .ok (.aload_n 0, 1) := by decide +kernel
theorem dX4_takeBest_2 : decode cX4_takeBest 2 = .ok (.getfield 22, 3) := by decide +kernel
theorem dX4_takeBest_5 : decode cX4_takeBest 5 = .ok (.if_icmp .lt 36, 3) := by decide +kernel
theorem dX4_takeBest_8 : decode cX4_takeBest 8 = .ok (.iload_n 2, 1) := by decide +kernel
theorem dX4_takeBest_9 : decode cX4_takeBest 9 = .ok (.aload_n 0, 1) := by decide +kernel
theorem dX4_takeBest_10 : decode cX4_takeBest 10 = .ok (.getfield 22, 3) := by decide +kernel
theorem dX4_takeBest_13 : decode cX4_takeBest 13 = .ok (.if_icmp .ne 29, 3) := by decide +kernel
theorem dX4_takeBest_16 : decode cX4_takeBest 16 = .ok (.iload_n 3, 1) := by decide +kernel
theorem dX4_takeBest_17 : decode cX4_takeBest 17 = .ok (.aload_n 0, 1) := by decide +kernel
theorem dX4_takeBest_18 : decode cX4_takeBest 18 = .ok (.getfield 90, 3) := by decide +kernel
theorem dX4_takeBest_21 : decode cX4_takeBest 21 = .ok (.if_icmp .gt 20, 3) := by decide +kernel
theorem dX4_takeBest_24 : decode cX4_takeBest 24 = .ok (.iload_n 3, 1) := by decide +kernel
theorem dX4_takeBest_25 : decode cX4_takeBest 25 = .ok (.aload_n 0, 1) := by decide +kernel
theorem dX4_takeBest_26 : decode cX4_takeBest 26 = .ok (.getfield 90, 3) := by decide +kernel
theorem dX4_takeBest_29 : decode cX4_takeBest 29 = .ok (.if_icmp .ne 13, 3) := by decide +kernel
theorem dX4_takeBest_32 : decode cX4_takeBest 32 = .ok (.iload 4, 2) := by decide +kernel
theorem dX4_takeBest_34 : decode cX4_takeBest 34 = .ok (.aload_n 0, 1) := by decide +kernel
theorem dX4_takeBest_35 : decode cX4_takeBest 35 = .ok (.getfield 91, 3) := by decide +kernel
theorem dX4_takeBest_38 : decode cX4_takeBest 38 = .ok (.if_icmp .lt 4, 3) := by decide +kernel
theorem dX4_takeBest_41 : decode cX4_takeBest 41 = .ok (.return_, 1) := by decide +kernel
theorem dX4_takeBest_42 : decode cX4_takeBest 42 = .ok (.aload_n 0, 1) := by decide +kernel
theorem dX4_takeBest_43 : decode cX4_takeBest 43 = .ok (.iload_n 2, 1) := by decide +kernel
theorem dX4_takeBest_44 : decode cX4_takeBest 44 = .ok (.putfield 22, 3) := by decide +kernel
theorem dX4_takeBest_47 : decode cX4_takeBest 47 = .ok (.aload_n 0, 1) := by decide +kernel
theorem dX4_takeBest_48 : decode cX4_takeBest 48 = .ok (.iload_n 3, 1) := by decide +kernel
theorem dX4_takeBest_49 : decode cX4_takeBest 49 = .ok (.putfield 90, 3) := by decide +kernel
theorem dX4_takeBest_52 : decode cX4_takeBest 52 = .ok (.aload_n 0, 1) := by decide +kernel
theorem dX4_takeBest_53 : decode cX4_takeBest 53 = .ok (.iload 4, 2) := by decide +kernel
theorem dX4_takeBest_55 : decode cX4_takeBest 55 = .ok (.putfield 91, 3) := by decide +kernel
theorem dX4_takeBest_58 : decode cX4_takeBest 58 = .ok (.aload_n 1, 1) := by decide +kernel
theorem dX4_takeBest_59 : decode cX4_takeBest 59 = .ok (.getfield 94, 3) := by decide +kernel
theorem dX4_takeBest_62 : decode cX4_takeBest 62 = .ok (.iconst 0, 1) := by decide +kernel
theorem dX4_takeBest_63 : decode cX4_takeBest 63 = .ok (.aload_n 0, 1) := by decide +kernel
theorem dX4_takeBest_64 : decode cX4_takeBest 64 = .ok (.getfield 9, 3) := by decide +kernel
theorem dX4_takeBest_67 : decode cX4_takeBest 67 = .ok (.iconst 0, 1) := by decide +kernel
theorem dX4_takeBest_68 : decode cX4_takeBest 68 = .ok (.aload_n 0, 1) := by decide +kernel
theorem dX4_takeBest_69 : decode cX4_takeBest 69 = .ok (.getfield 18, 3) := by decide +kernel
theorem dX4_takeBest_72 : decode cX4_takeBest 72 = .ok (.invokestatic 97, 3) := by decide +kernel
theorem dX4_takeBest_75 : decode cX4_takeBest 75 = .ok (.return_, 1) := by decide +kernel
theorem dX4_takeLongest_0 : decode cX4_takeLongest 0 = .ok (.aload_n 1, 1) := by decide +kernel
theorem dX4_takeLongest_1 : decode cX4_takeLongest 1 = .ok (.getfield 51, 3) := by decide +kernel
theorem dX4_takeLongest_4 : decode cX4_takeLongest 4 = .ok (.invokevirtual 28, 3) := by decide +kernel
theorem dX4_takeLongest_7 : decode cX4_takeLongest 7 = .ok (.invokestatic 103, 3) := by decide +kernel
theorem dX4_takeLongest_10 : decode cX4_takeLongest 10 = .ok (.istore_n 2, 1) := by decide +kernel
theorem dX4_takeLongest_11 : decode cX4_takeLongest 11 = .ok (.iload_n 2, 1) := by decide +kernel
theorem dX4_takeLongest_12 : decode cX4_takeLongest 12 = .ok (.aload_n 0, 1) := by decide +kernel
theorem dX4_takeLongest_13 : decode cX4_takeLongest 13 = .ok (.getfield 25, 3) := by decide +kernel
theorem dX4_takeLongest_16 : decode cX4_takeLongest 16 = .ok (.if_icmp .le 25, 3) := by decide +kernel
theorem dX4_takeLongest_19 : decode cX4_takeLongest 19 = .ok (.aload_n 0, 1) := by decide +kernel
theorem dX4_takeLongest_20 : decode cX4_takeLongest 20 = .ok (.iload_n 2, 1) := by decide +kernel
theorem dX4_takeLongest_21 : decode cX4_takeLongest 21 = .ok (.putfield 25, 3) := by decide +kernel
theorem dX4_takeLongest_24 : decode cX4_takeLongest 24 = .ok (.aload_n 1, 1) := by decide +kernel
theorem dX4_takeLongest_25 : decode cX4_takeLongest 25 = .ok (.getfield 94, 3) := by decide +kernel
theorem dX4_takeLongest_28 : decode cX4_takeLongest 28 = .ok (.iconst 0, 1) := by decide +kernel
theorem dX4_takeLongest_29 : decode cX4_takeLongest 29 = .ok (.aload_n 0, 1) := by decide +kernel
theorem dX4_takeLongest_30 : decode cX4_takeLongest 30 = .ok (.getfield 15, 3) := by decide +kernel
theorem dX4_takeLongest_33 : decode cX4_takeLongest 33 = .ok (.iconst 0, 1) := by decide +kernel
theorem dX4_takeLongest_34 : decode cX4_takeLongest 34 = .ok (.aload_n 0, 1) := by decide +kernel
theorem dX4_takeLongest_35 : decode cX4_takeLongest 35 = .ok (.getfield 18, 3) := by decide +kernel
theorem dX4_takeLongest_38 : decode cX4_takeLongest 38 = .ok (.invokestatic 97, 3) := by decide +kernel
theorem dX4_takeLongest_41 : decode cX4_takeLongest 41 = .ok (.return_, 1) := by decide +kernel
theorem dX5_init_0 : decode cX5_init 0 = .ok (.aload_n 0, 1) := by decide +kernel
theorem dX5_init_1 : decode cX5_init 1 = .ok (.invokespecial 3, 3) := by decide +kernel
theorem dX5_init_4 : decode cX5_init 4 = .ok (.aload_n 0, 1) := by decide +kernel
theorem dX5_init_5 : decode cX5_init 5 = .ok (.bipush 6, 2) := by decide +kernel
theorem dX5_init_7 : decode cX5_init 7 = .ok (.newarray .int, 2) := by decide +kernel
theorem dX5_init_9 : decode cX5_init 9 = .ok (.putfield 9, 3) := by decide +kernel
theorem dX5_init_12 : decode cX5_init 12 = .ok (.aload_n 0, 1) := by decide +kernel
theorem dX5_init_13 : decode cX5_init 13 = .ok (.bipush 6, 2) := by decide +kernel
theorem dX5_init_15 : decode cX5_init 15 = .ok (.newarray .int, 2) := by decide +kernel
theorem dX5_init_17 : decode cX5_init 17 = .ok (.putfield 15, 3) := by decide +kernel
theorem dX5_init_20 : decode cX5_init 20 = .ok (.aload_n 0, 1) := by decide +kernel
theorem dX5_init_21 : decode cX5_init 21 = .ok (.new 18, 3) := by decide +kernel
theorem dX5_init_24 : decode cX5_init 24 = .ok (.dup, 1) := by decide +kernel
theorem dX5_init_25 : decode cX5_init 25 = .ok (.invokespecial 20, 3) := by decide +kernel
theorem dX5_init_28 : decode cX5_init 28 = .ok (.putfield 21, 3) := by decide +kernel
theorem dX5_init_31 : decode cX5_init 31 = .ok (.return_, 1) := by decide +kernel
theorem dX5_add_0 : decode cX5_add 0 = .ok (.aload_n 0, 1) := by decide +kernel
theorem dX5_add_1 : decode cX5_add 1 = .ok (.getfield 25, 3) := by decide +kernel
theorem dX5_add_4 : decode cX5_add 4 = .ok (.bipush 6, 2) := by decide +kernel
theorem dX5_add_6 : decode cX5_add 6 = .ok (.if_icmp .lt 5, 3) := by decide +kernel
theorem dX5_add_9 : decode cX5_add 9 = .ok (.iconst 0, 1) := by decide +kernel
theorem dX5_add_10 : decode cX5_add 10 = .ok (.ireturn, 1) := by decide +kernel
theorem dX5_add_11 : decode cX5_add 11 = .ok (.aload_n 0, 1) := by decide +kernel
theorem dX5_add_12 : decode cX5_add 12 = .ok (.getfield 9, 3) := by decide +kernel
theorem dX5_add_15 : decode cX5_add 15 = .ok (.aload_n 0, 1) := by decide +kernel
theorem dX5_add_16 : decode cX5_add 16 = .ok (.getfield 25, 3) := by decide +kernel
theorem dX5_add_19 : decode cX5_add 19 = .ok (.iload_n 1, 1) := by decide +kernel
theorem dX5_add_20 : decode cX5_add 20 = .ok (.iastore, 1) := by decide +kernel
theorem dX5_add_21 : decode cX5_add 21 = .ok (.aload_n 0, 1) := by decide +kernel
theorem dX5_add_22 : decode cX5_add 22 = .ok (.dup, 1) := by decide +kernel
theorem dX5_add_23 : decode cX5_add 23 = .ok (.getfield 25, 3) := by decide +kernel
theorem dX5_add_26 : decode cX5_add 26 = .ok (.iconst 1, 1) := by decide +kernel
theorem dX5_add_27 : decode cX5_add 27 = .ok (.iadd, 1) := by decide +kernel
theorem dX5_add_28 : decode cX5_add 28 = .ok (.putfield 25, 3) := by decide +kernel
theorem dX5_add_31 : decode cX5_add 31 = .ok (.iconst 1, 1) := by decide +kernel
theorem dX5_add_32 : decode cX5_add 32 = .ok (.ireturn, 1) := by decide +kernel
theorem dX5_choose_0 : decode cX5_choose 0 = .ok (.aload_n 1, 1) := by decide +kernel
theorem dX5_choose_1 : decode cX5_choose 1 = .ok (.getfield 29, 3) := by decide +kernel
theorem dX5_choose_4 : decode cX5_choose 4 = .ok (.istore_n 2, 1) := by decide +kernel
theorem dX5_choose_5 : decode cX5_choose 5 = .ok (.aload_n 0, 1) := by decide +kernel
theorem dX5_choose_6 : decode cX5_choose 6 = .ok (.iconst 0, 1) := by decide +kernel
theorem dX5_choose_7 : decode cX5_choose 7 = .ok (.putfield 32, 3) := by decide +kernel
theorem dX5_choose_10 : decode cX5_choose 10 = .ok (.iconst 0, 1) := by decide +kernel
theorem dX5_choose_11 : decode cX5_choose 11 = .ok (.istore_n 3, 1) := by decide +kernel
theorem dX5_choose_12 : decode cX5_choose 12 = .ok (.iload_n 3, 1) := by decide +kernel
theorem dX5_choose_13 : decode cX5_choose 13 = .ok (.aload_n 0, 1) := by decide +kernel
theorem dX5_choose_14 : decode cX5_choose 14 = .ok (.getfield 25, 3) := by decide +kernel
theorem dX5_choose_17 : decode cX5_choose 17 = .ok (.if_icmp .ge 58, 3) := by decide +kernel
theorem dX5_choose_20 : decode cX5_choose 20 = .ok (.iload_n 2, 1) := by decide +kernel
theorem dX5_choose_21 : decode cX5_choose 21 = .ok (.aload_n 0, 1) := by decide +kernel
theorem dX5_choose_22 : decode cX5_choose 22 = .ok (.getfield 9, 3) := by decide +kernel
theorem dX5_choose_25 : decode cX5_choose 25 = .ok (.iload_n 3, 1) := by decide +kernel
theorem dX5_choose_26 : decode cX5_choose 26 = .ok (.iaload, 1) := by decide +kernel
theorem dX5_choose_27 : decode cX5_choose 27 = .ok (.ishr, 1) := by decide +kernel
theorem dX5_choose_28 : decode cX5_choose 28 = .ok (.iconst 1, 1) := by decide +kernel
theorem dX5_choose_29 : decode cX5_choose 29 = .ok (.iand, 1) := by decide +kernel
theorem dX5_choose_30 : decode cX5_choose 30 = .ok (.ifCond .ne 39, 3) := by decide +kernel
theorem dX5_choose_33 : decode cX5_choose 33 = .ok (.iload_n 2, 1) := by decide +kernel
theorem dX5_choose_34 : decode cX5_choose 34 = .ok (.iconst 1, 1) := by decide +kernel
theorem dX5_choose_35 : decode cX5_choose 35 = .ok (.aload_n 0, 1) := by decide +kernel
theorem dX5_choose_36 : decode cX5_choose 36 = .ok (.getfield 9, 3) := by decide +kernel
theorem dX5_choose_39 : decode cX5_choose 39 = .ok (.iload_n 3, 1) := by decide +kernel
theorem dX5_choose_40 : decode cX5_choose 40 = .ok (.iaload, 1) := by decide +kernel
theorem dX5_choose_41 : decode cX5_choose 41 = .ok (.ishl, 1) := by decide +kernel
theorem dX5_choose_42 : decode cX5_choose 42 = .ok (.ior, 1) := by decide +kernel
theorem dX5_choose_43 : decode cX5_choose 43 = .ok (.istore_n 2, 1) := by decide +kernel
theorem dX5_choose_44 : decode cX5_choose 44 = .ok (.aload_n 0, 1) := by decide +kernel
theorem dX5_choose_45 : decode cX5_choose 45 = .ok (.getfield 15, 3) := by decide +kernel
theorem dX5_choose_48 : decode cX5_choose 48 = .ok (.aload_n 0, 1) := by decide +kernel
theorem dX5_choose_49 : decode cX5_choose 49 = .ok (.getfield 32, 3) := by decide +kernel
theorem dX5_choose_52 : decode cX5_choose 52 = .ok (.aload_n 0, 1) := by decide +kernel
theorem dX5_choose_53 : decode cX5_choose 53 = .ok (.getfield 9, 3) := by decide +kernel
theorem dX5_choose_56 : decode cX5_choose 56 = .ok (.iload_n 3, 1) := by decide +kernel
theorem dX5_choose_57 : decode cX5_choose 57 = .ok (.iaload, 1) := by decide +kernel
theorem dX5_choose_58 : decode cX5_choose 58 = .ok (.iastore, 1) := by decide +kernel
theorem dX5_choose_59 : decode cX5_choose 59 = .ok (.aload_n 0, 1) := by decide +kernel
theorem dX5_choose_60 : decode cX5_choose 60 = .ok (.dup, 1) := by decide +kernel
theorem dX5_choose_61 : decode cX5_choose 61 = .ok (.getfield 32, 3) := by decide +kernel
theorem dX5_choose_64 : decode cX5_choose 64 = .ok (.iconst 1, 1) := by decide +kernel
theorem dX5_choose_65 : decode cX5_choose 65 = .ok (.iadd, 1) := by decide +kernel
theorem dX5_choose_66 : decode cX5_choose 66 = .ok (.putfield 32, 3) := by decide +kernel
theorem dX5_choose_69 : decode cX5_choose 69 = .ok (.iinc 3 1, 3) := by decide +kernel
theorem dX5_choose_72 : decode cX5_choose 72 = .ok (.goto (-60), 3) := by decide +kernel
theorem dX5_choose_75 : decode cX5_choose 75 = .ok (.return_, 1) := by decide +kernel
theorem dX5_everybody_0 : decode cX5_everybody 0 = .ok (.iconst 1, 1) := by decide +kernel
theorem dX5_everybody_1 : decode cX5_everybody 1 = .ok (.aload_n 0, 1) := by decide +kernel
theorem dX5_everybody_2 : decode cX5_everybody 2 = .ok (.getfield 32, 3) := by decide +kernel
theorem dX5_everybody_5 : decode cX5_everybody 5 = .ok (.ishl, 1) := by decide +kernel
theorem dX5_everybody_6 : decode cX5_everybody 6 = .ok (.iconst 1, 1) := by decide +kernel
theorem dX5_everybody_7 : decode cX5_everybody 7 = .ok (.isub, 1) := by decide +kernel
theorem dX5_everybody_8 : decode cX5_everybody 8 = .ok (.ireturn, 1) := by decide +kernel
theorem dX5_walk_0 : decode cX5_walk 0 = .ok (.aload_n 0, 1) := by decide +kernel
theorem dX5_walk_1 : decode cX5_walk 1 = .ok (.getfield 21, 3) := by decide +kernel
theorem dX5_walk_4 : decode cX5_walk 4 = .ok (.aload_n 2, 1) := by decide +kernel
theorem dX5_walk_5 : decode cX5_walk 5 = .ok (.invokevirtual 35, 3) := by decide +kernel
theorem dX5_walk_8 : decode cX5_walk 8 = .ok (.iconst 0, 1) := by decide +kernel
theorem dX5_walk_9 : decode cX5_walk 9 = .ok (.istore 4, 2) := by decide +kernel
theorem dX5_walk_11 : decode cX5_walk 11 = .ok (.iload 4, 2) := by decide +kernel
theorem dX5_walk_13 : decode cX5_walk 13 = .ok (.aload_n 0, 1) := by decide +kernel
theorem dX5_walk_14 : decode cX5_walk 14 = .ok (.getfield 32, 3) := by decide +kernel
theorem dX5_walk_17 : decode cX5_walk 17 = .ok (.if_icmp .ge 35, 3) := by decide +kernel
theorem dX5_walk_20 : decode cX5_walk 20 = .ok (.iload_n 3, 1) := by decide +kernel
theorem dX5_walk_21 : decode cX5_walk 21 = .ok (.iload 4, 2) := by decide +kernel
theorem dX5_walk_23 : decode cX5_walk 23 = .ok (.ishr, 1) := by decide +kernel
theorem dX5_walk_24 : decode cX5_walk 24 = .ok (.iconst 1, 1) := by decide +kernel
theorem dX5_walk_25 : decode cX5_walk 25 = .ok (.iand, 1) := by decide +kernel
theorem dX5_walk_26 : decode cX5_walk 26 = .ok (.iconst 1, 1) := by decide +kernel
theorem dX5_walk_27 : decode cX5_walk 27 = .ok (.if_icmp .ne 19, 3) := by decide +kernel
theorem dX5_walk_30 : decode cX5_walk 30 = .ok (.aload_n 0, 1) := by decide +kernel
theorem dX5_walk_31 : decode cX5_walk 31 = .ok (.getfield 21, 3) := by decide +kernel
theorem dX5_walk_34 : decode cX5_walk 34 = .ok (.aload_n 1, 1) := by decide +kernel
theorem dX5_walk_35 : decode cX5_walk 35 = .ok (.aload_n 0, 1) := by decide +kernel
theorem dX5_walk_36 : decode cX5_walk 36 = .ok (.getfield 15, 3) := by decide +kernel
theorem dX5_walk_39 : decode cX5_walk 39 = .ok (.iload 4, 2) := by decide +kernel
theorem dX5_walk_41 : decode cX5_walk 41 = .ok (.iaload, 1) := by decide +kernel
theorem dX5_walk_42 : decode cX5_walk 42 = .ok (.invokevirtual 39, 3) := by decide +kernel
theorem dX5_walk_45 : decode cX5_walk 45 = .ok (.pop, 1) := by decide +kernel
theorem dX5_walk_46 : decode cX5_walk 46 = .ok (.iinc 4 1, 3) := by decide +kernel
theorem dX5_walk_49 : decode cX5_walk 49 = .ok (.goto (-38), 3) := by decide +kernel
theorem dX5_walk_52 : decode cX5_walk 52 = .ok (.return_, 1) := by decide +kernel
theorem dX5_wholeOfOdds_0 : decode cX5_wholeOfOdds 0 = .ok (.iconst 1, 1) := by decide +kernel
theorem dX5_wholeOfOdds_1 : decode cX5_wholeOfOdds 1 = .ok (.istore_n 1, 1) := by decide +kernel
theorem dX5_wholeOfOdds_2 : decode cX5_wholeOfOdds 2 = .ok (.iconst 0, 1) := by decide +kernel
theorem dX5_wholeOfOdds_3 : decode cX5_wholeOfOdds 3 = .ok (.istore_n 2, 1) := by decide +kernel
theorem dX5_wholeOfOdds_4 : decode cX5_wholeOfOdds 4 = .ok (.iload_n 2, 1) := by decide +kernel
theorem dX5_wholeOfOdds_5 : decode cX5_wholeOfOdds 5 = .ok (.aload_n 0, 1) := by decide +kernel
theorem dX5_wholeOfOdds_6 : decode cX5_wholeOfOdds 6 = .ok (.getfield 32, 3) := by decide +kernel
theorem dX5_wholeOfOdds_9 : decode cX5_wholeOfOdds 9 = .ok (.if_icmp .ge 14, 3) := by decide +kernel
theorem dX5_wholeOfOdds_12 : decode cX5_wholeOfOdds 12 = .ok (.iload_n 1, 1) := by decide +kernel
theorem dX5_wholeOfOdds_13 : decode cX5_wholeOfOdds 13 = .ok (.bipush 10, 2) := by decide +kernel
theorem dX5_wholeOfOdds_15 : decode cX5_wholeOfOdds 15 = .ok (.imul, 1) := by decide +kernel
theorem dX5_wholeOfOdds_16 : decode cX5_wholeOfOdds 16 = .ok (.istore_n 1, 1) := by decide +kernel
theorem dX5_wholeOfOdds_17 : decode cX5_wholeOfOdds 17 = .ok (.iinc 2 1, 3) := by decide +kernel
theorem dX5_wholeOfOdds_20 : decode cX5_wholeOfOdds 20 = .ok (.goto (-16), 3) := by decide +kernel
theorem dX5_wholeOfOdds_23 : decode cX5_wholeOfOdds 23 = .ok (.iload_n 1, 1) := by decide +kernel
theorem dX5_wholeOfOdds_24 : decode cX5_wholeOfOdds 24 = .ok (.ireturn, 1) := by decide +kernel
theorem dX5_oddsOf_0 : decode cX5_oddsOf 0 = .ok (.iconst 1, 1) := by decide +kernel
theorem dX5_oddsOf_1 : decode cX5_oddsOf 1 = .ok (.istore_n 3, 1) := by decide +kernel
theorem dX5_oddsOf_2 : decode cX5_oddsOf 2 = .ok (.iconst 0, 1) := by decide +kernel
theorem dX5_oddsOf_3 : decode cX5_oddsOf 3 = .ok (.istore 4, 2) := by decide +kernel
theorem dX5_oddsOf_5 : decode cX5_oddsOf 5 = .ok (.iload 4, 2) := by decide +kernel
theorem dX5_oddsOf_7 : decode cX5_oddsOf 7 = .ok (.aload_n 0, 1) := by decide +kernel
theorem dX5_oddsOf_8 : decode cX5_oddsOf 8 = .ok (.getfield 32, 3) := by decide +kernel
theorem dX5_oddsOf_11 : decode cX5_oddsOf 11 = .ok (.if_icmp .ge 30, 3) := by decide +kernel
theorem dX5_oddsOf_14 : decode cX5_oddsOf 14 = .ok (.iload_n 3, 1) := by decide +kernel
theorem dX5_oddsOf_15 : decode cX5_oddsOf 15 = .ok (.iload_n 1, 1) := by decide +kernel
theorem dX5_oddsOf_16 : decode cX5_oddsOf 16 = .ok (.iload 4, 2) := by decide +kernel
theorem dX5_oddsOf_18 : decode cX5_oddsOf 18 = .ok (.ishr, 1) := by decide +kernel
theorem dX5_oddsOf_19 : decode cX5_oddsOf 19 = .ok (.iconst 1, 1) := by decide +kernel
theorem dX5_oddsOf_20 : decode cX5_oddsOf 20 = .ok (.iand, 1) := by decide +kernel
theorem dX5_oddsOf_21 : decode cX5_oddsOf 21 = .ok (.iconst 1, 1) := by decide +kernel
theorem dX5_oddsOf_22 : decode cX5_oddsOf 22 = .ok (.if_icmp .ne 10, 3) := by decide +kernel
theorem dX5_oddsOf_25 : decode cX5_oddsOf 25 = .ok (.bipush 10, 2) := by decide +kernel
theorem dX5_oddsOf_27 : decode cX5_oddsOf 27 = .ok (.iload_n 2, 1) := by decide +kernel
theorem dX5_oddsOf_28 : decode cX5_oddsOf 28 = .ok (.isub, 1) := by decide +kernel
theorem dX5_oddsOf_29 : decode cX5_oddsOf 29 = .ok (.goto 4, 3) := by decide +kernel
theorem dX5_oddsOf_32 : decode cX5_oddsOf 32 = .ok (.iload_n 2, 1) := by decide +kernel
theorem dX5_oddsOf_33 : decode cX5_oddsOf 33 = .ok (.imul, 1) := by decide +kernel
theorem dX5_oddsOf_34 : decode cX5_oddsOf 34 = .ok (.istore_n 3, 1) := by decide +kernel
theorem dX5_oddsOf_35 : decode cX5_oddsOf 35 = .ok (.iinc 4 1, 3) := by decide +kernel
theorem dX5_oddsOf_38 : decode cX5_oddsOf 38 = .ok (.goto (-33), 3) := by decide +kernel
theorem dX5_oddsOf_41 : decode cX5_oddsOf 41 = .ok (.iload_n 3, 1) := by decide +kernel
theorem dX5_oddsOf_42 : decode cX5_oddsOf 42 = .ok (.ireturn, 1) := by decide +kernel
theorem dX6_init_0 : decode cX6_init 0 = .ok (.aload_n 0, 1) := by decide +kernel
theorem dX6_init_1 : decode cX6_init 1 = .ok (.invokespecial 3, 3) := by decide +kernel
theorem dX6_init_4 : decode cX6_init 4 = .ok (.aload_n 0, 1) := by decide +kernel
theorem dX6_init_5 : decode cX6_init 5 = .ok (.bipush 6, 2) := by decide +kernel
theorem dX6_init_7 : decode cX6_init 7 = .ok (.newarray .int, 2) := by decide +kernel
theorem dX6_init_9 : decode cX6_init 9 = .ok (.putfield 9, 3) := by decide +kernel
theorem dX6_init_12 : decode cX6_init 12 = .ok (.aload_n 0, 1) := by decide +kernel
theorem dX6_init_13 : decode cX6_init 13 = .ok (.bipush 6, 2) := by decide +kernel
theorem dX6_init_15 : decode cX6_init 15 = .ok (.newarray .int, 2) := by decide +kernel
theorem dX6_init_17 : decode cX6_init 17 = .ok (.putfield 15, 3) := by decide +kernel
theorem dX6_init_20 : decode cX6_init 20 = .ok (.aload_n 0, 1) := by decide +kernel
theorem dX6_init_21 : decode cX6_init 21 = .ok (.bipush 6, 2) := by decide +kernel
theorem dX6_init_23 : decode cX6_init 23 = .ok (.newarray .int, 2) := by decide +kernel
theorem dX6_init_25 : decode cX6_init 25 = .ok (.putfield 18, 3) := by decide +kernel
theorem dX6_init_28 : decode cX6_init 28 = .ok (.aload_n 0, 1) := by decide +kernel
theorem dX6_init_29 : decode cX6_init 29 = .ok (.new 21, 3) := by decide +kernel
theorem dX6_init_32 : decode cX6_init 32 = .ok (.dup, 1) := by decide +kernel
theorem dX6_init_33 : decode cX6_init 33 = .ok (.invokespecial 23, 3) := by decide +kernel
theorem dX6_init_36 : decode cX6_init 36 = .ok (.putfield 24, 3) := by decide +kernel
theorem dX6_init_39 : decode cX6_init 39 = .ok (.return_, 1) := by decide +kernel
theorem dX6_begin_0 : decode cX6_begin 0 = .ok (.aload_n 0, 1) := by decide +kernel
theorem dX6_begin_1 : decode cX6_begin 1 = .ok (.iconst 0, 1) := by decide +kernel
theorem dX6_begin_2 : decode cX6_begin 2 = .ok (.putfield 28, 3) := by decide +kernel
theorem dX6_begin_5 : decode cX6_begin 5 = .ok (.iconst 0, 1) := by decide +kernel
theorem dX6_begin_6 : decode cX6_begin 6 = .ok (.istore_n 3, 1) := by decide +kernel
theorem dX6_begin_7 : decode cX6_begin 7 = .ok (.iload_n 3, 1) := by decide +kernel
theorem dX6_begin_8 : decode cX6_begin 8 = .ok (.aload_n 1, 1) := by decide +kernel
theorem dX6_begin_9 : decode cX6_begin 9 = .ok (.getfield 32, 3) := by decide +kernel
theorem dX6_begin_12 : decode cX6_begin 12 = .ok (.if_icmp .ge 37, 3) := by decide +kernel
theorem dX6_begin_15 : decode cX6_begin 15 = .ok (.aload_n 2, 1) := by decide +kernel
theorem dX6_begin_16 : decode cX6_begin 16 = .ok (.iload_n 3, 1) := by decide +kernel
theorem dX6_begin_17 : decode cX6_begin 17 = .ok (.invokevirtual 37, 3) := by decide +kernel
theorem dX6_begin_20 : decode cX6_begin 20 = .ok (.ifCond .ne 23, 3) := by decide +kernel
theorem dX6_begin_23 : decode cX6_begin 23 = .ok (.aload_n 0, 1) := by decide +kernel
theorem dX6_begin_24 : decode cX6_begin 24 = .ok (.getfield 9, 3) := by decide +kernel
theorem dX6_begin_27 : decode cX6_begin 27 = .ok (.aload_n 0, 1) := by decide +kernel
theorem dX6_begin_28 : decode cX6_begin 28 = .ok (.getfield 28, 3) := by decide +kernel
theorem dX6_begin_31 : decode cX6_begin 31 = .ok (.iload_n 3, 1) := by decide +kernel
theorem dX6_begin_32 : decode cX6_begin 32 = .ok (.iastore, 1) := by decide +kernel
theorem dX6_begin_33 : decode cX6_begin 33 = .ok (.aload_n 0, 1) := by decide +kernel
theorem dX6_begin_34 : decode cX6_begin 34 = .ok (.dup, 1) := by decide +kernel
theorem dX6_begin_35 : decode cX6_begin 35 = .ok (.getfield 28, 3) := by decide +kernel
theorem dX6_begin_38 : decode cX6_begin 38 = .ok (.iconst 1, 1) := by decide +kernel
theorem dX6_begin_39 : decode cX6_begin 39 = .ok (.iadd, 1) := by decide +kernel
theorem dX6_begin_40 : decode cX6_begin 40 = .ok (.putfield 28, 3) := by decide +kernel
theorem dX6_begin_43 : decode cX6_begin 43 = .ok (.iinc 3 1, 3) := by decide +kernel
theorem dX6_begin_46 : decode cX6_begin 46 = .ok (.goto (-39), 3) := by decide +kernel
theorem dX6_begin_49 : decode cX6_begin 49 = .ok (.return_, 1) := by decide +kernel
theorem dX6_next_0 : decode cX6_next 0 = .ok (.aload_n 0, 1) := by decide +kernel
theorem dX6_next_1 : decode cX6_next 1 = .ok (.getfield 28, 3) := by decide +kernel
theorem dX6_next_4 : decode cX6_next 4 = .ok (.iconst 2, 1) := by decide +kernel
theorem dX6_next_5 : decode cX6_next 5 = .ok (.isub, 1) := by decide +kernel
theorem dX6_next_6 : decode cX6_next 6 = .ok (.istore_n 1, 1) := by decide +kernel
theorem dX6_next_7 : decode cX6_next 7 = .ok (.iload_n 1, 1) := by decide +kernel
theorem dX6_next_8 : decode cX6_next 8 = .ok (.ifCond .lt 26, 3) := by decide +kernel
theorem dX6_next_11 : decode cX6_next 11 = .ok (.aload_n 0, 1) := by decide +kernel
theorem dX6_next_12 : decode cX6_next 12 = .ok (.getfield 9, 3) := by decide +kernel
theorem dX6_next_15 : decode cX6_next 15 = .ok (.iload_n 1, 1) := by decide +kernel
theorem dX6_next_16 : decode cX6_next 16 = .ok (.iaload, 1) := by decide +kernel
theorem dX6_next_17 : decode cX6_next 17 = .ok (.aload_n 0, 1) := by decide +kernel
theorem dX6_next_18 : decode cX6_next 18 = .ok (.getfield 9, 3) := by decide +kernel
theorem dX6_next_21 : decode cX6_next 21 = .ok (.iload_n 1, 1) := by decide +kernel
theorem dX6_next_22 : decode cX6_next 22 = .ok (.iconst 1, 1) := by decide +kernel
theorem dX6_next_23 : decode cX6_next 23 = .ok (.iadd, 1) := by decide +kernel
theorem dX6_next_24 : decode cX6_next 24 = .ok (.iaload, 1) := by decide +kernel
theorem dX6_next_25 : decode cX6_next 25 = .ok (.if_icmp .le 9, 3) := by decide +kernel
theorem dX6_next_28 : decode cX6_next 28 = .ok (.iinc 1 (-1), 3) := by decide +kernel
theorem dX6_next_31 : decode cX6_next 31 = .ok (.goto (-24), 3) := by decide +kernel
theorem dX6_next_34 : decode cX6_next 34 = .ok (.iload_n 1, 1) := by decide +kernel
theorem dX6_next_35 : decode cX6_next 35 = .ok (.ifCond .ge 5, 3) := by decide +kernel
theorem dX6_next_38 : decode cX6_next 38 = .ok (.iconst 0, 1) := by decide +kernel
theorem dX6_next_39 : decode cX6_next 39 = .ok (.ireturn, 1) := by decide +kernel
theorem dX6_next_40 : decode cX6_next 40 = .ok (.aload_n 0, 1) := by decide +kernel
theorem dX6_next_41 : decode cX6_next 41 = .ok (.getfield 28, 3) := by decide +kernel
theorem dX6_next_44 : decode cX6_next 44 = .ok (.iconst 1, 1) := by decide +kernel
theorem dX6_next_45 : decode cX6_next 45 = .ok (.isub, 1) := by decide +kernel
theorem dX6_next_46 : decode cX6_next 46 = .ok (.istore_n 2, 1) := by decide +kernel
theorem dX6_next_47 : decode cX6_next 47 = .ok (.iload_n 2, 1) := by decide +kernel
theorem dX6_next_48 : decode cX6_next 48 = .ok (.iload_n 1, 1) := by decide +kernel
theorem dX6_next_49 : decode cX6_next 49 = .ok (.iconst 1, 1) := by decide +kernel
theorem dX6_next_50 : decode cX6_next 50 = .ok (.iadd, 1) := by decide +kernel
theorem dX6_next_51 : decode cX6_next 51 = .ok (.if_icmp .le 24, 3) := by decide +kernel
theorem dX6_next_54 : decode cX6_next 54 = .ok (.aload_n 0, 1) := by decide +kernel
theorem dX6_next_55 : decode cX6_next 55 = .ok (.getfield 9, 3) := by decide +kernel
theorem dX6_next_58 : decode cX6_next 58 = .ok (.iload_n 2, 1) := by decide +kernel
theorem dX6_next_59 : decode cX6_next 59 = .ok (.iaload, 1) := by decide +kernel
theorem dX6_next_60 : decode cX6_next 60 = .ok (.aload_n 0, 1) := by decide +kernel
theorem dX6_next_61 : decode cX6_next 61 = .ok (.getfield 9, 3) := by decide +kernel
theorem dX6_next_64 : decode cX6_next 64 = .ok (.iload_n 1, 1) := by decide +kernel
theorem dX6_next_65 : decode cX6_next 65 = .ok (.iaload, 1) := by decide +kernel
theorem dX6_next_66 : decode cX6_next 66 = .ok (.if_icmp .ge 9, 3) := by decide +kernel
theorem dX6_next_69 : decode cX6_next 69 = .ok (.iinc 2 (-1), 3) := by decide +kernel
theorem dX6_next_72 : decode cX6_next 72 = .ok (.goto (-25), 3) := by decide +kernel
theorem dX6_next_75 : decode cX6_next 75 = .ok (.aload_n 0, 1) := by decide +kernel
theorem dX6_next_76 : decode cX6_next 76 = .ok (.iload_n 1, 1) := by decide +kernel
theorem dX6_next_77 : decode cX6_next 77 = .ok (.iload_n 2, 1) := by decide +kernel
theorem dX6_next_78 : decode cX6_next 78 = .ok (.invokevirtual 41, 3) := by decide +kernel
theorem dX6_next_81 : decode cX6_next 81 = .ok (.iload_n 1, 1) := by decide +kernel
theorem dX6_next_82 : decode cX6_next 82 = .ok (.iconst 1, 1) := by decide +kernel
theorem dX6_next_83 : decode cX6_next 83 = .ok (.iadd, 1) := by decide +kernel
theorem dX6_next_84 : decode cX6_next 84 = .ok (.istore_n 3, 1) := by decide +kernel
theorem dX6_next_85 : decode cX6_next 85 = .ok (.aload_n 0, 1) := by decide +kernel
theorem dX6_next_86 : decode cX6_next 86 = .ok (.getfield 28, 3) := by decide +kernel
theorem dX6_next_89 : decode cX6_next 89 = .ok (.iconst 1, 1) := by decide +kernel
theorem dX6_next_90 : decode cX6_next 90 = .ok (.isub, 1) := by decide +kernel
theorem dX6_next_91 : decode cX6_next 91 = .ok (.istore 4, 2) := by decide +kernel
theorem dX6_next_93 : decode cX6_next 93 = .ok (.iload_n 3, 1) := by decide +kernel
theorem dX6_next_94 : decode cX6_next 94 = .ok (.iload 4, 2) := by decide +kernel
theorem dX6_next_96 : decode cX6_next 96 = .ok (.if_icmp .ge 19, 3) := by decide +kernel
theorem dX6_next_99 : decode cX6_next 99 = .ok (.aload_n 0, 1) := by decide +kernel
theorem dX6_next_100 : decode cX6_next 100 = .ok (.iload_n 3, 1) := by decide +kernel
theorem dX6_next_101 : decode cX6_next 101 = .ok (.iload 4, 2) := by decide +kernel
theorem dX6_next_103 : decode cX6_next 103 = .ok (.invokevirtual 41, 3) := by decide +kernel
theorem dX6_next_106 : decode cX6_next 106 = .ok (.iinc 3 1, 3) := by decide +kernel
theorem dX6_next_109 : decode cX6_next 109 = .ok (.iinc 4 (-1), 3) := by decide +kernel
theorem dX6_next_112 : decode cX6_next 112 = .ok (.goto (-19), 3) := by decide +kernel
theorem dX6_next_115 : decode cX6_next 115 = .ok (.iconst 1, 1) := by decide +kernel
theorem dX6_next_116 : decode cX6_next 116 = .ok (.ireturn, 1) := by decide +kernel
theorem dX6_swap_0 : decode cX6_swap 0 = .ok (.aload_n 0, 1) := by decide +kernel
theorem dX6_swap_1 : decode cX6_swap 1 = .ok (.getfield 9, 3) := by decide +kernel
theorem dX6_swap_4 : decode cX6_swap 4 = .ok (.iload_n 1, 1) := by decide +kernel
theorem dX6_swap_5 : decode cX6_swap 5 = .ok (.iaload, 1) := by decide +kernel
theorem dX6_swap_6 : decode cX6_swap 6 = .ok (.istore_n 3, 1) := by decide +kernel
theorem dX6_swap_7 : decode cX6_swap 7 = .ok (.aload_n 0, 1) := by decide +kernel
theorem dX6_swap_8 : decode cX6_swap 8 = .ok (.getfield 9, 3) := by decide +kernel
theorem dX6_swap_11 : decode cX6_swap 11 = .ok (.iload_n 1, 1) := by decide +kernel
theorem dX6_swap_12 : decode cX6_swap 12 = .ok (.aload_n 0, 1) := by decide +kernel
theorem dX6_swap_13 : decode cX6_swap 13 = .ok (.getfield 9, 3) := by decide +kernel
theorem dX6_swap_16 : decode cX6_swap 16 = .ok (.iload_n 2, 1) := by decide +kernel
theorem dX6_swap_17 : decode cX6_swap 17 = .ok (.iaload, 1) := by decide +kernel
theorem dX6_swap_18 : decode cX6_swap 18 = .ok (.iastore, 1) := by decide +kernel
theorem dX6_swap_19 : decode cX6_swap 19 = .ok (.aload_n 0, 1) := by decide +kernel
theorem dX6_swap_20 : decode cX6_swap 20 = .ok (.getfield 9, 3) := by decide +kernel
theorem dX6_swap_23 : decode cX6_swap 23 = .ok (.iload_n 2, 1) := by decide +kernel
theorem dX6_swap_24 : decode cX6_swap 24 = .ok (.iload_n 3, 1) := by decide +kernel
theorem dX6_swap_25 : decode cX6_swap 25 = .ok (.iastore, 1) := by decide +kernel
theorem dX6_swap_26 : decode cX6_swap 26 = .ok (.return_, 1) := by decide +kernel
theorem dX6_walk_0 : decode cX6_walk 0 = .ok (.aload_n 0, 1) := by decide +kernel
theorem dX6_walk_1 : decode cX6_walk 1 = .ok (.getfield 24, 3) := by decide +kernel
theorem dX6_walk_4 : decode cX6_walk 4 = .ok (.aload_n 2, 1) := by decide +kernel
theorem dX6_walk_5 : decode cX6_walk 5 = .ok (.invokevirtual 45, 3) := by decide +kernel
theorem dX6_walk_8 : decode cX6_walk 8 = .ok (.aload_n 0, 1) := by decide +kernel
theorem dX6_walk_9 : decode cX6_walk 9 = .ok (.iconst 0, 1) := by decide +kernel
theorem dX6_walk_10 : decode cX6_walk 10 = .ok (.putfield 49, 3) := by decide +kernel
theorem dX6_walk_13 : decode cX6_walk 13 = .ok (.iconst 0, 1) := by decide +kernel
theorem dX6_walk_14 : decode cX6_walk 14 = .ok (.istore_n 3, 1) := by decide +kernel
theorem dX6_walk_15 : decode cX6_walk 15 = .ok (.aload_n 0, 1) := by decide +kernel
theorem dX6_walk_16 : decode cX6_walk 16 = .ok (.getfield 28, 3) := by decide +kernel
theorem dX6_walk_19 : decode cX6_walk 19 = .ok (.iconst 1, 1) := by decide +kernel
theorem dX6_walk_20 : decode cX6_walk 20 = .ok (.isub, 1) := by decide +kernel
theorem dX6_walk_21 : decode cX6_walk 21 = .ok (.istore 4, 2) := by decide +kernel
theorem dX6_walk_23 : decode cX6_walk 23 = .ok (.iconst 0, 1) := by decide +kernel
theorem dX6_walk_24 : decode cX6_walk 24 = .ok (.istore 5, 2) := by decide +kernel
theorem dX6_walk_26 : decode cX6_walk 26 = .ok (.iconst 0, 1) := by decide +kernel
theorem dX6_walk_27 : decode cX6_walk 27 = .ok (.istore 6, 2) := by decide +kernel
theorem dX6_walk_29 : decode cX6_walk 29 = .ok (.iload 6, 2) := by decide +kernel
theorem dX6_walk_31 : decode cX6_walk 31 = .ok (.aload_n 0, 1) := by decide +kernel
theorem dX6_walk_32 : decode cX6_walk 32 = .ok (.getfield 28, 3) := by decide +kernel
theorem dX6_walk_35 : decode cX6_walk 35 = .ok (.if_icmp .ge 121, 3) := by decide +kernel
theorem dX6_walk_38 : decode cX6_walk 38 = .ok (.iload 5, 2) := by decide +kernel
theorem dX6_walk_40 : decode cX6_walk 40 = .ok (.ifCond .eq 13, 3) := by decide +kernel
theorem dX6_walk_43 : decode cX6_walk 43 = .ok (.aload_n 0, 1) := by decide +kernel
theorem dX6_walk_44 : decode cX6_walk 44 = .ok (.getfield 9, 3) := by decide +kernel
theorem dX6_walk_47 : decode cX6_walk 47 = .ok (.iload 4, 2) := by decide +kernel
theorem dX6_walk_49 : decode cX6_walk 49 = .ok (.iaload, 1) := by decide +kernel
theorem dX6_walk_50 : decode cX6_walk 50 = .ok (.goto 9, 3) := by decide +kernel
theorem dX6_walk_53 : decode cX6_walk 53 = .ok (.aload_n 0, 1) := by decide +kernel
theorem dX6_walk_54 : decode cX6_walk 54 = .ok (.getfield 9, 3) := by decide +kernel
theorem dX6_walk_57 : decode cX6_walk 57 = .ok (.iload_n 3, 1) := by decide +kernel
theorem dX6_walk_58 : decode cX6_walk 58 = .ok (.iaload, 1) := by decide +kernel
theorem dX6_walk_59 : decode cX6_walk 59 = .ok (.istore 7, 2) := by decide +kernel
theorem dX6_walk_61 : decode cX6_walk 61 = .ok (.iload 5, 2) := by decide +kernel
theorem dX6_walk_63 : decode cX6_walk 63 = .ok (.ifCond .eq 9, 3) := by decide +kernel
theorem dX6_walk_66 : decode cX6_walk 66 = .ok (.iinc 4 (-1), 3) := by decide +kernel
theorem dX6_walk_69 : decode cX6_walk 69 = .ok (.goto 6, 3) := by decide +kernel
theorem dX6_walk_72 : decode cX6_walk 72 = .ok (.iinc 3 1, 3) := by decide +kernel
theorem dX6_walk_75 : decode cX6_walk 75 = .ok (.aload_n 0, 1) := by decide +kernel
theorem dX6_walk_76 : decode cX6_walk 76 = .ok (.getfield 24, 3) := by decide +kernel
theorem dX6_walk_79 : decode cX6_walk 79 = .ok (.aload_n 1, 1) := by decide +kernel
theorem dX6_walk_80 : decode cX6_walk 80 = .ok (.iload 7, 2) := by decide +kernel
theorem dX6_walk_82 : decode cX6_walk 82 = .ok (.invokevirtual 52, 3) := by decide +kernel
theorem dX6_walk_85 : decode cX6_walk 85 = .ok (.ifCond .eq 15, 3) := by decide +kernel
theorem dX6_walk_88 : decode cX6_walk 88 = .ok (.iload 5, 2) := by decide +kernel
theorem dX6_walk_90 : decode cX6_walk 90 = .ok (.ifCond .ne 7, 3) := by decide +kernel
theorem dX6_walk_93 : decode cX6_walk 93 = .ok (.iconst 1, 1) := by decide +kernel
theorem dX6_walk_94 : decode cX6_walk 94 = .ok (.goto 4, 3) := by decide +kernel
theorem dX6_walk_97 : decode cX6_walk 97 = .ok (.iconst 0, 1) := by decide +kernel
theorem dX6_walk_98 : decode cX6_walk 98 = .ok (.istore 5, 2) := by decide +kernel
theorem dX6_walk_100 : decode cX6_walk 100 = .ok (.aload_n 0, 1) := by decide +kernel
theorem dX6_walk_101 : decode cX6_walk 101 = .ok (.getfield 15, 3) := by decide +kernel
theorem dX6_walk_104 : decode cX6_walk 104 = .ok (.iload 6, 2) := by decide +kernel
theorem dX6_walk_106 : decode cX6_walk 106 = .ok (.iload 7, 2) := by decide +kernel
theorem dX6_walk_108 : decode cX6_walk 108 = .ok (.iastore, 1) := by decide +kernel
theorem dX6_walk_109 : decode cX6_walk 109 = .ok (.aload_n 0, 1) := by decide +kernel
theorem dX6_walk_110 : decode cX6_walk 110 = .ok (.getfield 18, 3) := by decide +kernel
theorem dX6_walk_113 : decode cX6_walk 113 = .ok (.iload 6, 2) := by decide +kernel
theorem dX6_walk_115 : decode cX6_walk 115 = .ok (.aload_n 0, 1) := by decide +kernel
theorem dX6_walk_116 : decode cX6_walk 116 = .ok (.getfield 24, 3) := by decide +kernel
theorem dX6_walk_119 : decode cX6_walk 119 = .ok (.getfield 56, 3) := by decide +kernel
theorem dX6_walk_122 : decode cX6_walk 122 = .ok (.iastore, 1) := by decide +kernel
theorem dX6_walk_123 : decode cX6_walk 123 = .ok (.aload_n 0, 1) := by decide +kernel
theorem dX6_walk_124 : decode cX6_walk 124 = .ok (.getfield 24, 3) := by decide +kernel
theorem dX6_walk_127 : decode cX6_walk 127 = .ok (.getfield 56, 3) := by decide +kernel
theorem dX6_walk_130 : decode cX6_walk 130 = .ok (.aload_n 1, 1) := by decide +kernel
theorem dX6_walk_131 : decode cX6_walk 131 = .ok (.getfield 59, 3) := by decide +kernel
theorem dX6_walk_134 : decode cX6_walk 134 = .ok (.iload 7, 2) := by decide +kernel
theorem dX6_walk_136 : decode cX6_walk 136 = .ok (.iaload, 1) := by decide +kernel
theorem dX6_walk_137 : decode cX6_walk 137 = .ok (.if_icmp .ne 13, 3) := by decide +kernel
theorem dX6_walk_140 : decode cX6_walk 140 = .ok (.aload_n 0, 1) := by decide +kernel
theorem dX6_walk_141 : decode cX6_walk 141 = .ok (.dup, 1) := by decide +kernel
theorem dX6_walk_142 : decode cX6_walk 142 = .ok (.getfield 49, 3) := by decide +kernel
theorem dX6_walk_145 : decode cX6_walk 145 = .ok (.iconst 1, 1) := by decide +kernel
theorem dX6_walk_146 : decode cX6_walk 146 = .ok (.iadd, 1) := by decide +kernel
theorem dX6_walk_147 : decode cX6_walk 147 = .ok (.putfield 49, 3) := by decide +kernel
theorem dX6_walk_150 : decode cX6_walk 150 = .ok (.iinc 6 1, 3) := by decide +kernel
theorem dX6_walk_153 : decode cX6_walk 153 = .ok (.goto (-124), 3) := by decide +kernel
theorem dX6_walk_156 : decode cX6_walk 156 = .ok (.return_, 1) := by decide +kernel
theorem dX6_leaderAt_0 : decode cX6_leaderAt 0 = .ok (.iload_n 1, 1) := by decide +kernel
theorem dX6_leaderAt_1 : decode cX6_leaderAt 1 = .ok (.ifCond .lt 20, 3) := by decide +kernel
theorem dX6_leaderAt_4 : decode cX6_leaderAt 4 = .ok (.iload_n 1, 1) := by decide +kernel
theorem dX6_leaderAt_5 : decode cX6_leaderAt 5 = .ok (.aload_n 0, 1) := by decide +kernel
theorem dX6_leaderAt_6 : decode cX6_leaderAt 6 = .ok (.getfield 28, 3) := by decide +kernel
theorem dX6_leaderAt_9 : decode cX6_leaderAt 9 = .ok (.if_icmp .ge 12, 3) := by decide +kernel
theorem dX6_leaderAt_12 : decode cX6_leaderAt 12 = .ok (.aload_n 0, 1) := by decide +kernel
theorem dX6_leaderAt_13 : decode cX6_leaderAt 13 = .ok (.getfield 15, 3) := by decide +kernel
theorem dX6_leaderAt_16 : decode cX6_leaderAt 16 = .ok (.iload_n 1, 1) := by decide +kernel
theorem dX6_leaderAt_17 : decode cX6_leaderAt 17 = .ok (.iaload, 1) := by decide +kernel
theorem dX6_leaderAt_18 : decode cX6_leaderAt 18 = .ok (.goto 5, 3) := by decide +kernel
theorem dX6_leaderAt_21 : decode cX6_leaderAt 21 = .ok (.bipush (-9), 2) := by decide +kernel
theorem dX6_leaderAt_23 : decode cX6_leaderAt 23 = .ok (.ireturn, 1) := by decide +kernel
theorem dX7_init_0 : decode cX7_init 0 = .ok (.aload_n 0, 1) := by decide +kernel
theorem dX7_init_1 : decode cX7_init 1 = .ok (.invokespecial 3, 3) := by decide +kernel
theorem dX7_init_4 : decode cX7_init 4 = .ok (.aload_n 0, 1) := by decide +kernel
theorem dX7_init_5 : decode cX7_init 5 = .ok (.bipush 6, 2) := by decide +kernel
theorem dX7_init_7 : decode cX7_init 7 = .ok (.newarray .int, 2) := by decide +kernel
theorem dX7_init_9 : decode cX7_init 9 = .ok (.putfield 9, 3) := by decide +kernel
theorem dX7_init_12 : decode cX7_init 12 = .ok (.aload_n 0, 1) := by decide +kernel
theorem dX7_init_13 : decode cX7_init 13 = .ok (.bipush 6, 2) := by decide +kernel
theorem dX7_init_15 : decode cX7_init 15 = .ok (.newarray .int, 2) := by decide +kernel
theorem dX7_init_17 : decode cX7_init 17 = .ok (.putfield 15, 3) := by decide +kernel
theorem dX7_init_20 : decode cX7_init 20 = .ok (.return_, 1) := by decide +kernel
theorem dX7_add_0 : decode cX7_add 0 = .ok (.aload_n 0, 1) := by decide +kernel
theorem dX7_add_1 : decode cX7_add 1 = .ok (.getfield 18, 3) := by decide +kernel
theorem dX7_add_4 : decode cX7_add 4 = .ok (.bipush 6, 2) := by decide +kernel
theorem dX7_add_6 : decode cX7_add 6 = .ok (.if_icmp .lt 5, 3) := by decide +kernel
theorem dX7_add_9 : decode cX7_add 9 = .ok (.iconst 0, 1) := by decide +kernel
theorem dX7_add_10 : decode cX7_add 10 = .ok (.ireturn, 1) := by decide +kernel
theorem dX7_add_11 : decode cX7_add 11 = .ok (.aload_n 0, 1) := by decide +kernel
theorem dX7_add_12 : decode cX7_add 12 = .ok (.getfield 9, 3) := by decide +kernel
theorem dX7_add_15 : decode cX7_add 15 = .ok (.aload_n 0, 1) := by decide +kernel
theorem dX7_add_16 : decode cX7_add 16 = .ok (.getfield 18, 3) := by decide +kernel
theorem dX7_add_19 : decode cX7_add 19 = .ok (.iload_n 1, 1) := by decide +kernel
theorem dX7_add_20 : decode cX7_add 20 = .ok (.iastore, 1) := by decide +kernel
theorem dX7_add_21 : decode cX7_add 21 = .ok (.aload_n 0, 1) := by decide +kernel
theorem dX7_add_22 : decode cX7_add 22 = .ok (.getfield 15, 3) := by decide +kernel
theorem dX7_add_25 : decode cX7_add 25 = .ok (.aload_n 0, 1) := by decide +kernel
theorem dX7_add_26 : decode cX7_add 26 = .ok (.getfield 18, 3) := by decide +kernel
theorem dX7_add_29 : decode cX7_add 29 = .ok (.iload_n 2, 1) := by decide +kernel
theorem dX7_add_30 : decode cX7_add 30 = .ok (.iastore, 1) := by decide +kernel
theorem dX7_add_31 : decode cX7_add 31 = .ok (.aload_n 0, 1) := by decide +kernel
theorem dX7_add_32 : decode cX7_add 32 = .ok (.dup, 1) := by decide +kernel
theorem dX7_add_33 : decode cX7_add 33 = .ok (.getfield 18, 3) := by decide +kernel
theorem dX7_add_36 : decode cX7_add 36 = .ok (.iconst 1, 1) := by decide +kernel
theorem dX7_add_37 : decode cX7_add 37 = .ok (.iadd, 1) := by decide +kernel
theorem dX7_add_38 : decode cX7_add 38 = .ok (.putfield 18, 3) := by decide +kernel
theorem dX7_add_41 : decode cX7_add 41 = .ok (.iconst 1, 1) := by decide +kernel
theorem dX7_add_42 : decode cX7_add 42 = .ok (.ireturn, 1) := by decide +kernel
theorem dX7_agreeWith_0 : decode cX7_agreeWith 0 = .ok (.iconst 0, 1) := by decide +kernel
theorem dX7_agreeWith_1 : decode cX7_agreeWith 1 = .ok (.istore_n 2, 1) := by decide +kernel
theorem dX7_agreeWith_2 : decode cX7_agreeWith 2 = .ok (.iload_n 2, 1) := by decide +kernel
theorem dX7_agreeWith_3 : decode cX7_agreeWith 3 = .ok (.aload_n 0, 1) := by decide +kernel
theorem dX7_agreeWith_4 : decode cX7_agreeWith 4 = .ok (.getfield 18, 3) := by decide +kernel
theorem dX7_agreeWith_7 : decode cX7_agreeWith 7 = .ok (.if_icmp .ge 44, 3) := by decide +kernel
theorem dX7_agreeWith_10 : decode cX7_agreeWith 10 = .ok (.aload_n 0, 1) := by decide +kernel
theorem dX7_agreeWith_11 : decode cX7_agreeWith 11 = .ok (.getfield 9, 3) := by decide +kernel
theorem dX7_agreeWith_14 : decode cX7_agreeWith 14 = .ok (.iload_n 2, 1) := by decide +kernel
theorem dX7_agreeWith_15 : decode cX7_agreeWith 15 = .ok (.iaload, 1) := by decide +kernel
theorem dX7_agreeWith_16 : decode cX7_agreeWith 16 = .ok (.aload_n 1, 1) := by decide +kernel
theorem dX7_agreeWith_17 : decode cX7_agreeWith 17 = .ok (.getfield 22, 3) := by decide +kernel
theorem dX7_agreeWith_20 : decode cX7_agreeWith 20 = .ok (.if_icmp .ge 23, 3) := by decide +kernel
theorem dX7_agreeWith_23 : decode cX7_agreeWith 23 = .ok (.aload_n 1, 1) := by decide +kernel
theorem dX7_agreeWith_24 : decode cX7_agreeWith 24 = .ok (.getfield 25, 3) := by decide +kernel
theorem dX7_agreeWith_27 : decode cX7_agreeWith 27 = .ok (.aload_n 0, 1) := by decide +kernel
theorem dX7_agreeWith_28 : decode cX7_agreeWith 28 = .ok (.getfield 9, 3) := by decide +kernel
theorem dX7_agreeWith_31 : decode cX7_agreeWith 31 = .ok (.iload_n 2, 1) := by decide +kernel
theorem dX7_agreeWith_32 : decode cX7_agreeWith 32 = .ok (.iaload, 1) := by decide +kernel
theorem dX7_agreeWith_33 : decode cX7_agreeWith 33 = .ok (.iaload, 1) := by decide +kernel
theorem dX7_agreeWith_34 : decode cX7_agreeWith 34 = .ok (.aload_n 0, 1) := by decide +kernel
theorem dX7_agreeWith_35 : decode cX7_agreeWith 35 = .ok (.getfield 15, 3) := by decide +kernel
theorem dX7_agreeWith_38 : decode cX7_agreeWith 38 = .ok (.iload_n 2, 1) := by decide +kernel
theorem dX7_agreeWith_39 : decode cX7_agreeWith 39 = .ok (.iaload, 1) := by decide +kernel
theorem dX7_agreeWith_40 : decode cX7_agreeWith 40 = .ok (.if_icmp .eq 5, 3) := by decide +kernel
theorem dX7_agreeWith_43 : decode cX7_agreeWith 43 = .ok (.iconst 0, 1) := by decide +kernel
theorem dX7_agreeWith_44 : decode cX7_agreeWith 44 = .ok (.ireturn, 1) := by decide +kernel
theorem dX7_agreeWith_45 : decode cX7_agreeWith 45 = .ok (.iinc 2 1, 3) := by decide +kernel
theorem dX7_agreeWith_48 : decode cX7_agreeWith 48 = .ok (.goto (-46), 3) := by decide +kernel
theorem dX7_agreeWith_51 : decode cX7_agreeWith 51 = .ok (.iconst 1, 1) := by decide +kernel
theorem dX7_agreeWith_52 : decode cX7_agreeWith 52 = .ok (.ireturn, 1) := by decide +kernel
theorem dX8_init_0 : decode cX8_init 0 = .ok (.aload_n 0, 1) := by decide +kernel
theorem dX8_init_1 : decode cX8_init 1 = .ok (.invokespecial 3, 3) := by decide +kernel
theorem dX8_init_4 : decode cX8_init 4 = .ok (.aload_n 0, 1) := by decide +kernel
theorem dX8_init_5 : decode cX8_init 5 = .ok (.sipush 150, 3) := by decide +kernel
theorem dX8_init_8 : decode cX8_init 8 = .ok (.newarray .int, 2) := by decide +kernel
theorem dX8_init_10 : decode cX8_init 10 = .ok (.putfield 9, 3) := by decide +kernel
theorem dX8_init_13 : decode cX8_init 13 = .ok (.return_, 1) := by decide +kernel
theorem dX8_append_0 : decode cX8_append 0 = .ok (.aload_n 0, 1) := by decide +kernel
theorem dX8_append_1 : decode cX8_append 1 = .ok (.getfield 15, 3) := by decide +kernel
theorem dX8_append_4 : decode cX8_append 4 = .ok (.sipush 150, 3) := by decide +kernel
theorem dX8_append_7 : decode cX8_append 7 = .ok (.if_icmp .lt 5, 3) := by decide +kernel
theorem dX8_append_10 : decode cX8_append 10 = .ok (.iconst 0, 1) := by decide +kernel
theorem dX8_append_11 : decode cX8_append 11 = .ok (.ireturn, 1) := by decide +kernel
theorem dX8_append_12 : decode cX8_append 12 = .ok (.aload_n 0, 1) := by decide +kernel
theorem dX8_append_13 : decode cX8_append 13 = .ok (.getfield 9, 3) := by decide +kernel
theorem dX8_append_16 : decode cX8_append 16 = .ok (.aload_n 0, 1) := by decide +kernel
theorem dX8_append_17 : decode cX8_append 17 = .ok (.getfield 15, 3) := by decide +kernel
theorem dX8_append_20 : decode cX8_append 20 = .ok (.iload_n 1, 1) := by decide +kernel
theorem dX8_append_21 : decode cX8_append 21 = .ok (.iastore, 1) := by decide +kernel
theorem dX8_append_22 : decode cX8_append 22 = .ok (.aload_n 0, 1) := by decide +kernel
theorem dX8_append_23 : decode cX8_append 23 = .ok (.dup, 1) := by decide +kernel
theorem dX8_append_24 : decode cX8_append 24 = .ok (.getfield 15, 3) := by decide +kernel
theorem dX8_append_27 : decode cX8_append 27 = .ok (.iconst 1, 1) := by decide +kernel
theorem dX8_append_28 : decode cX8_append 28 = .ok (.iadd, 1) := by decide +kernel
theorem dX8_append_29 : decode cX8_append 29 = .ok (.putfield 15, 3) := by decide +kernel
theorem dX8_append_32 : decode cX8_append 32 = .ok (.iconst 1, 1) := by decide +kernel
theorem dX8_append_33 : decode cX8_append 33 = .ok (.ireturn, 1) := by decide +kernel
theorem dX8_read_0 : decode cX8_read 0 = .ok (.aload_n 1, 1) := by decide +kernel
theorem dX8_read_1 : decode cX8_read 1 = .ok (.invokevirtual 19, 3) := by decide +kernel
theorem dX8_read_4 : decode cX8_read 4 = .ok (.aload_n 0, 1) := by decide +kernel
theorem dX8_read_5 : decode cX8_read 5 = .ok (.iconst 0, 1) := by decide +kernel
theorem dX8_read_6 : decode cX8_read 6 = .ok (.putfield 24, 3) := by decide +kernel
theorem dX8_read_9 : decode cX8_read 9 = .ok (.iconst 0, 1) := by decide +kernel
theorem dX8_read_10 : decode cX8_read 10 = .ok (.istore_n 2, 1) := by decide +kernel
theorem dX8_read_11 : decode cX8_read 11 = .ok (.iload_n 2, 1) := by decide +kernel
theorem dX8_read_12 : decode cX8_read 12 = .ok (.sipush 150, 3) := by decide +kernel
theorem dX8_read_15 : decode cX8_read 15 = .ok (.if_icmp .ge 42, 3) := by decide +kernel
theorem dX8_read_18 : decode cX8_read 18 = .ok (.aload_n 0, 1) := by decide +kernel
theorem dX8_read_19 : decode cX8_read 19 = .ok (.invokevirtual 27, 3) := by decide +kernel
theorem dX8_read_22 : decode cX8_read 22 = .ok (.aload_n 0, 1) := by decide +kernel
theorem dX8_read_23 : decode cX8_read 23 = .ok (.getfield 30, 3) := by decide +kernel
theorem dX8_read_26 : decode cX8_read 26 = .ok (.ifCond .ne 5, 3) := by decide +kernel
theorem dX8_read_29 : decode cX8_read 29 = .ok (.iload_n 2, 1) := by decide +kernel
theorem dX8_read_30 : decode cX8_read 30 = .ok (.ireturn, 1) := by decide +kernel
theorem dX8_read_31 : decode cX8_read 31 = .ok (.aload_n 0, 1) := by decide +kernel
theorem dX8_read_32 : decode cX8_read 32 = .ok (.aload_n 1, 1) := by decide +kernel
theorem dX8_read_33 : decode cX8_read 33 = .ok (.iload_n 2, 1) := by decide +kernel
theorem dX8_read_34 : decode cX8_read 34 = .ok (.ifCond .ne 7, 3) := by decide +kernel
theorem dX8_read_37 : decode cX8_read 37 = .ok (.iconst 1, 1) := by decide +kernel
theorem dX8_read_38 : decode cX8_read 38 = .ok (.goto 4, 3) := by decide +kernel
theorem dX8_read_41 : decode cX8_read 41 = .ok (.iconst 0, 1) := by decide +kernel
theorem dX8_read_42 : decode cX8_read 42 = .ok (.invokevirtual 33, 3) := by decide +kernel
theorem dX8_read_45 : decode cX8_read 45 = .ok (.ifCond .ne 6, 3) := by decide +kernel
theorem dX8_read_48 : decode cX8_read 48 = .ok (.goto 9, 3) := by decide +kernel
theorem dX8_read_51 : decode cX8_read 51 = .ok (.iinc 2 1, 3) := by decide +kernel
theorem dX8_read_54 : decode cX8_read 54 = .ok (.goto (-43), 3) := by decide +kernel
theorem dX8_read_57 : decode cX8_read 57 = .ok (.bipush (-10), 2) := by decide +kernel
theorem dX8_read_59 : decode cX8_read 59 = .ok (.aload_n 0, 1) := by decide +kernel
theorem dX8_read_60 : decode cX8_read 60 = .ok (.getfield 37, 3) := by decide +kernel
theorem dX8_read_63 : decode cX8_read 63 = .ok (.isub, 1) := by decide +kernel
theorem dX8_read_64 : decode cX8_read 64 = .ok (.ireturn, 1) := by decide +kernel
theorem dX8_readItem_0 : decode cX8_readItem 0 = .ok (.aload_n 0, 1) := by decide +kernel
theorem dX8_readItem_1 : decode cX8_readItem 1 = .ok (.getfield 30, 3) := by decide +kernel
theorem dX8_readItem_4 : decode cX8_readItem 4 = .ok (.iconst 1, 1) := by decide +kernel
theorem dX8_readItem_5 : decode cX8_readItem 5 = .ok (.if_icmp .eq 5, 3) := by decide +kernel
theorem dX8_readItem_8 : decode cX8_readItem 8 = .ok (.iconst 0, 1) := by decide +kernel
theorem dX8_readItem_9 : decode cX8_readItem 9 = .ok (.ireturn, 1) := by decide +kernel
theorem dX8_readItem_10 : decode cX8_readItem 10 = .ok (.aload_n 0, 1) := by decide +kernel
theorem dX8_readItem_11 : decode cX8_readItem 11 = .ok (.getfield 40, 3) := by decide +kernel
theorem dX8_readItem_14 : decode cX8_readItem 14 = .ok (.lookupswitch 106 #[(99, 34), (108, 79), (115, 52)], 34) := by decide +kernel
theorem dX8_readItem_48 : decode cX8_readItem 48 = .ok (.iload_n 2, 1) := by decide +kernel
theorem dX8_readItem_49 : decode cX8_readItem 49 = .ok (.ifCond .eq 15, 3) := by decide +kernel
theorem dX8_readItem_52 : decode cX8_readItem 52 = .ok (.aload_n 0, 1) := by decide +kernel
theorem dX8_readItem_53 : decode cX8_readItem 53 = .ok (.aload_n 1, 1) := by decide +kernel
theorem dX8_readItem_54 : decode cX8_readItem 54 = .ok (.invokevirtual 43, 3) := by decide +kernel
theorem dX8_readItem_57 : decode cX8_readItem 57 = .ok (.ifCond .eq 7, 3) := by decide +kernel
theorem dX8_readItem_60 : decode cX8_readItem 60 = .ok (.iconst 1, 1) := by decide +kernel
theorem dX8_readItem_61 : decode cX8_readItem 61 = .ok (.goto 4, 3) := by decide +kernel
theorem dX8_readItem_64 : decode cX8_readItem 64 = .ok (.iconst 0, 1) := by decide +kernel
theorem dX8_readItem_65 : decode cX8_readItem 65 = .ok (.ireturn, 1) := by decide +kernel
theorem dX8_readItem_66 : decode cX8_readItem 66 = .ok (.iload_n 2, 1) := by decide +kernel
theorem dX8_readItem_67 : decode cX8_readItem 67 = .ok (.ifCond .ne 24, 3) := by decide +kernel
theorem dX8_readItem_70 : decode cX8_readItem 70 = .ok (.aload_n 1, 1) := by decide +kernel
theorem dX8_readItem_71 : decode cX8_readItem 71 = .ok (.getfield 47, 3) := by decide +kernel
theorem dX8_readItem_74 : decode cX8_readItem 74 = .ok (.bipush 12, 2) := by decide +kernel
theorem dX8_readItem_76 : decode cX8_readItem 76 = .ok (.if_icmp .ge 15, 3) := by decide +kernel
theorem dX8_readItem_79 : decode cX8_readItem 79 = .ok (.aload_n 0, 1) := by decide +kernel
theorem dX8_readItem_80 : decode cX8_readItem 80 = .ok (.aload_n 1, 1) := by decide +kernel
theorem dX8_readItem_81 : decode cX8_readItem 81 = .ok (.invokevirtual 50, 3) := by decide +kernel
theorem dX8_readItem_84 : decode cX8_readItem 84 = .ok (.ifCond .eq 7, 3) := by decide +kernel
theorem dX8_readItem_87 : decode cX8_readItem 87 = .ok (.iconst 1, 1) := by decide +kernel
theorem dX8_readItem_88 : decode cX8_readItem 88 = .ok (.goto 4, 3) := by decide +kernel
theorem dX8_readItem_91 : decode cX8_readItem 91 = .ok (.iconst 0, 1) := by decide +kernel
theorem dX8_readItem_92 : decode cX8_readItem 92 = .ok (.ireturn, 1) := by decide +kernel
theorem dX8_readItem_93 : decode cX8_readItem 93 = .ok (.iload_n 2, 1) := by decide +kernel
theorem dX8_readItem_94 : decode cX8_readItem 94 = .ok (.ifCond .ne 24, 3) := by decide +kernel
theorem dX8_readItem_97 : decode cX8_readItem 97 = .ok (.aload_n 1, 1) := by decide +kernel
theorem dX8_readItem_98 : decode cX8_readItem 98 = .ok (.getfield 53, 3) := by decide +kernel
theorem dX8_readItem_101 : decode cX8_readItem 101 = .ok (.bipush 6, 2) := by decide +kernel
theorem dX8_readItem_103 : decode cX8_readItem 103 = .ok (.if_icmp .ge 15, 3) := by decide +kernel
theorem dX8_readItem_106 : decode cX8_readItem 106 = .ok (.aload_n 0, 1) := by decide +kernel
theorem dX8_readItem_107 : decode cX8_readItem 107 = .ok (.aload_n 1, 1) := by decide +kernel
theorem dX8_readItem_108 : decode cX8_readItem 108 = .ok (.invokevirtual 56, 3) := by decide +kernel
theorem dX8_readItem_111 : decode cX8_readItem 111 = .ok (.ifCond .eq 7, 3) := by decide +kernel
theorem dX8_readItem_114 : decode cX8_readItem 114 = .ok (.iconst 1, 1) := by decide +kernel
theorem dX8_readItem_115 : decode cX8_readItem 115 = .ok (.goto 4, 3) := by decide +kernel
theorem dX8_readItem_118 : decode cX8_readItem 118 = .ok (.iconst 0, 1) := by decide +kernel
theorem dX8_readItem_119 : decode cX8_readItem 119 = .ok (.ireturn, 1) := by decide +kernel
theorem dX8_readItem_120 : decode cX8_readItem 120 = .ok (.iconst 0, 1) := by decide +kernel
theorem dX8_readItem_121 : decode cX8_readItem 121 = .ok (.ireturn, 1) := by decide +kernel
theorem dX8_readCorners_0 : decode cX8_readCorners 0 = .ok (.aload_n 0, 1) := by decide +kernel
theorem dX8_readCorners_1 : decode cX8_readCorners 1 = .ok (.iconst 1, 1) := by decide +kernel
theorem dX8_readCorners_2 : decode cX8_readCorners 2 = .ok (.bipush 8, 2) := by decide +kernel
theorem dX8_readCorners_4 : decode cX8_readCorners 4 = .ok (.invokevirtual 59, 3) := by decide +kernel
theorem dX8_readCorners_7 : decode cX8_readCorners 7 = .ok (.ifCond .ne 5, 3) := by decide +kernel
theorem dX8_readCorners_10 : decode cX8_readCorners 10 = .ok (.iconst 0, 1) := by decide +kernel
theorem dX8_readCorners_11 : decode cX8_readCorners 11 = .ok (.ireturn, 1) := by decide +kernel
theorem dX8_readCorners_12 : decode cX8_readCorners 12 = .ok (.aload_n 1, 1) := by decide +kernel
theorem dX8_readCorners_13 : decode cX8_readCorners 13 = .ok (.aload_n 0, 1) := by decide +kernel
theorem dX8_readCorners_14 : decode cX8_readCorners 14 = .ok (.getfield 40, 3) := by decide +kernel
theorem dX8_readCorners_17 : decode cX8_readCorners 17 = .ok (.putfield 63, 3) := by decide +kernel
theorem dX8_readCorners_20 : decode cX8_readCorners 20 = .ok (.aload_n 0, 1) := by decide +kernel
theorem dX8_readCorners_21 : decode cX8_readCorners 21 = .ok (.invokevirtual 66, 3) := by decide +kernel
theorem dX8_readCorners_24 : decode cX8_readCorners 24 = .ok (.ireturn, 1) := by decide +kernel
theorem dX8_readStreet_0 : decode cX8_readStreet 0 = .ok (.aload_n 0, 1) := by decide +kernel
theorem dX8_readStreet_1 : decode cX8_readStreet 1 = .ok (.iconst 0, 1) := by decide +kernel
theorem dX8_readStreet_2 : decode cX8_readStreet 2 = .ok (.aload_n 1, 1) := by decide +kernel
theorem dX8_readStreet_3 : decode cX8_readStreet 3 = .ok (.getfield 63, 3) := by decide +kernel
theorem dX8_readStreet_6 : decode cX8_readStreet 6 = .ok (.iconst 1, 1) := by decide +kernel
theorem dX8_readStreet_7 : decode cX8_readStreet 7 = .ok (.isub, 1) := by decide +kernel
theorem dX8_readStreet_8 : decode cX8_readStreet 8 = .ok (.invokevirtual 59, 3) := by decide +kernel
theorem dX8_readStreet_11 : decode cX8_readStreet 11 = .ok (.ifCond .ne 5, 3) := by decide +kernel
theorem dX8_readStreet_14 : decode cX8_readStreet 14 = .ok (.iconst 0, 1) := by decide +kernel
theorem dX8_readStreet_15 : decode cX8_readStreet 15 = .ok (.ireturn, 1) := by decide +kernel
theorem dX8_readStreet_16 : decode cX8_readStreet 16 = .ok (.aload_n 0, 1) := by decide +kernel
theorem dX8_readStreet_17 : decode cX8_readStreet 17 = .ok (.getfield 40, 3) := by decide +kernel
theorem dX8_readStreet_20 : decode cX8_readStreet 20 = .ok (.istore_n 2, 1) := by decide +kernel
theorem dX8_readStreet_21 : decode cX8_readStreet 21 = .ok (.aload_n 0, 1) := by decide +kernel
theorem dX8_readStreet_22 : decode cX8_readStreet 22 = .ok (.iconst 0, 1) := by decide +kernel
theorem dX8_readStreet_23 : decode cX8_readStreet 23 = .ok (.aload_n 1, 1) := by decide +kernel
theorem dX8_readStreet_24 : decode cX8_readStreet 24 = .ok (.getfield 63, 3) := by decide +kernel
theorem dX8_readStreet_27 : decode cX8_readStreet 27 = .ok (.iconst 1, 1) := by decide +kernel
theorem dX8_readStreet_28 : decode cX8_readStreet 28 = .ok (.isub, 1) := by decide +kernel
theorem dX8_readStreet_29 : decode cX8_readStreet 29 = .ok (.invokevirtual 59, 3) := by decide +kernel
theorem dX8_readStreet_32 : decode cX8_readStreet 32 = .ok (.ifCond .eq 11, 3) := by decide +kernel
theorem dX8_readStreet_35 : decode cX8_readStreet 35 = .ok (.aload_n 0, 1) := by decide +kernel
theorem dX8_readStreet_36 : decode cX8_readStreet 36 = .ok (.getfield 40, 3) := by decide +kernel
theorem dX8_readStreet_39 : decode cX8_readStreet 39 = .ok (.iload_n 2, 1) := by decide +kernel
theorem dX8_readStreet_40 : decode cX8_readStreet 40 = .ok (.if_icmp .ne 5, 3) := by decide +kernel
theorem dX8_readStreet_43 : decode cX8_readStreet 43 = .ok (.iconst 0, 1) := by decide +kernel
theorem dX8_readStreet_44 : decode cX8_readStreet 44 = .ok (.ireturn, 1) := by decide +kernel
theorem dX8_readStreet_45 : decode cX8_readStreet 45 = .ok (.aload_n 0, 1) := by decide +kernel
theorem dX8_readStreet_46 : decode cX8_readStreet 46 = .ok (.getfield 40, 3) := by decide +kernel
theorem dX8_readStreet_49 : decode cX8_readStreet 49 = .ok (.istore_n 3, 1) := by decide +kernel
theorem dX8_readStreet_50 : decode cX8_readStreet 50 = .ok (.aload_n 0, 1) := by decide +kernel
theorem dX8_readStreet_51 : decode cX8_readStreet 51 = .ok (.iconst 1, 1) := by decide +kernel
theorem dX8_readStreet_52 : decode cX8_readStreet 52 = .ok (.bipush 9, 2) := by decide +kernel
theorem dX8_readStreet_54 : decode cX8_readStreet 54 = .ok (.invokevirtual 59, 3) := by decide +kernel
theorem dX8_readStreet_57 : decode cX8_readStreet 57 = .ok (.ifCond .ne 5, 3) := by decide +kernel
theorem dX8_readStreet_60 : decode cX8_readStreet 60 = .ok (.iconst 0, 1) := by decide +kernel
theorem dX8_readStreet_61 : decode cX8_readStreet 61 = .ok (.ireturn, 1) := by decide +kernel
theorem dX8_readStreet_62 : decode cX8_readStreet 62 = .ok (.aload_n 1, 1) := by decide +kernel
theorem dX8_readStreet_63 : decode cX8_readStreet 63 = .ok (.iload_n 2, 1) := by decide +kernel
theorem dX8_readStreet_64 : decode cX8_readStreet 64 = .ok (.iload_n 3, 1) := by decide +kernel
theorem dX8_readStreet_65 : decode cX8_readStreet 65 = .ok (.aload_n 0, 1) := by decide +kernel
theorem dX8_readStreet_66 : decode cX8_readStreet 66 = .ok (.getfield 40, 3) := by decide +kernel
theorem dX8_readStreet_69 : decode cX8_readStreet 69 = .ok (.invokevirtual 70, 3) := by decide +kernel
theorem dX8_readStreet_72 : decode cX8_readStreet 72 = .ok (.aload_n 0, 1) := by decide +kernel
theorem dX8_readStreet_73 : decode cX8_readStreet 73 = .ok (.invokevirtual 66, 3) := by decide +kernel
theorem dX8_readStreet_76 : decode cX8_readStreet 76 = .ok (.ireturn, 1) := by decide +kernel
theorem dX8_readLeader_0 : decode cX8_readLeader 0 = .ok (.aload_n 0, 1) := by decide +kernel
theorem dX8_readLeader_1 : decode cX8_readLeader 1 = .ok (.iconst 0, 1) := by decide +kernel
theorem dX8_readLeader_2 : decode cX8_readLeader 2 = .ok (.aload_n 1, 1) := by decide +kernel
theorem dX8_readLeader_3 : decode cX8_readLeader 3 = .ok (.getfield 63, 3) := by decide +kernel
theorem dX8_readLeader_6 : decode cX8_readLeader 6 = .ok (.iconst 1, 1) := by decide +kernel
theorem dX8_readLeader_7 : decode cX8_readLeader 7 = .ok (.isub, 1) := by decide +kernel
theorem dX8_readLeader_8 : decode cX8_readLeader 8 = .ok (.invokevirtual 59, 3) := by decide +kernel
theorem dX8_readLeader_11 : decode cX8_readLeader 11 = .ok (.ifCond .ne 5, 3) := by decide +kernel
theorem dX8_readLeader_14 : decode cX8_readLeader 14 = .ok (.iconst 0, 1) := by decide +kernel
theorem dX8_readLeader_15 : decode cX8_readLeader 15 = .ok (.ireturn, 1) := by decide +kernel
theorem dX8_readLeader_16 : decode cX8_readLeader 16 = .ok (.aload_n 0, 1) := by decide +kernel
theorem dX8_readLeader_17 : decode cX8_readLeader 17 = .ok (.getfield 40, 3) := by decide +kernel
theorem dX8_readLeader_20 : decode cX8_readLeader 20 = .ok (.istore_n 2, 1) := by decide +kernel
theorem dX8_readLeader_21 : decode cX8_readLeader 21 = .ok (.aload_n 0, 1) := by decide +kernel
theorem dX8_readLeader_22 : decode cX8_readLeader 22 = .ok (.iconst 1, 1) := by decide +kernel
theorem dX8_readLeader_23 : decode cX8_readLeader 23 = .ok (.iconst 5, 1) := by decide +kernel
theorem dX8_readLeader_24 : decode cX8_readLeader 24 = .ok (.invokevirtual 59, 3) := by decide +kernel
theorem dX8_readLeader_27 : decode cX8_readLeader 27 = .ok (.ifCond .ne 5, 3) := by decide +kernel
theorem dX8_readLeader_30 : decode cX8_readLeader 30 = .ok (.iconst 0, 1) := by decide +kernel
theorem dX8_readLeader_31 : decode cX8_readLeader 31 = .ok (.ireturn, 1) := by decide +kernel
theorem dX8_readLeader_32 : decode cX8_readLeader 32 = .ok (.aload_n 1, 1) := by decide +kernel
theorem dX8_readLeader_33 : decode cX8_readLeader 33 = .ok (.iload_n 2, 1) := by decide +kernel
theorem dX8_readLeader_34 : decode cX8_readLeader 34 = .ok (.aload_n 0, 1) := by decide +kernel
theorem dX8_readLeader_35 : decode cX8_readLeader 35 = .ok (.getfield 40, 3) := by decide +kernel
theorem dX8_readLeader_38 : decode cX8_readLeader 38 = .ok (.invokevirtual 74, 3) := by decide +kernel
theorem dX8_readLeader_41 : decode cX8_readLeader 41 = .ok (.aload_n 0, 1) := by decide +kernel
theorem dX8_readLeader_42 : decode cX8_readLeader 42 = .ok (.invokevirtual 66, 3) := by decide +kernel
theorem dX8_readLeader_45 : decode cX8_readLeader 45 = .ok (.ireturn, 1) := by decide +kernel
theorem dX8_readNumber_0 : decode cX8_readNumber 0 = .ok (.aload_n 0, 1) := by decide +kernel
theorem dX8_readNumber_1 : decode cX8_readNumber 1 = .ok (.invokevirtual 27, 3) := by decide +kernel
theorem dX8_readNumber_4 : decode cX8_readNumber 4 = .ok (.aload_n 0, 1) := by decide +kernel
theorem dX8_readNumber_5 : decode cX8_readNumber 5 = .ok (.getfield 30, 3) := by decide +kernel
theorem dX8_readNumber_8 : decode cX8_readNumber 8 = .ok (.iconst 2, 1) := by decide +kernel
theorem dX8_readNumber_9 : decode cX8_readNumber 9 = .ok (.if_icmp .ne 23, 3) := by decide +kernel
theorem dX8_readNumber_12 : decode cX8_readNumber 12 = .ok (.aload_n 0, 1) := by decide +kernel
theorem dX8_readNumber_13 : decode cX8_readNumber 13 = .ok (.getfield 40, 3) := by decide +kernel
theorem dX8_readNumber_16 : decode cX8_readNumber 16 = .ok (.iload_n 1, 1) := by decide +kernel
theorem dX8_readNumber_17 : decode cX8_readNumber 17 = .ok (.if_icmp .lt 15, 3) := by decide +kernel
theorem dX8_readNumber_20 : decode cX8_readNumber 20 = .ok (.aload_n 0, 1) := by decide +kernel
theorem dX8_readNumber_21 : decode cX8_readNumber 21 = .ok (.getfield 40, 3) := by decide +kernel
theorem dX8_readNumber_24 : decode cX8_readNumber 24 = .ok (.iload_n 2, 1) := by decide +kernel
theorem dX8_readNumber_25 : decode cX8_readNumber 25 = .ok (.if_icmp .gt 7, 3) := by decide +kernel
theorem dX8_readNumber_28 : decode cX8_readNumber 28 = .ok (.iconst 1, 1) := by decide +kernel
theorem dX8_readNumber_29 : decode cX8_readNumber 29 = .ok (.goto 4, 3) := by decide +kernel
theorem dX8_readNumber_32 : decode cX8_readNumber 32 = .ok (.iconst 0, 1) := by decide +kernel
theorem dX8_readNumber_33 : decode cX8_readNumber 33 = .ok (.ireturn, 1) := by decide +kernel
theorem dX8_readStop_0 : decode cX8_readStop 0 = .ok (.aload_n 0, 1) := by decide +kernel
theorem dX8_readStop_1 : decode cX8_readStop 1 = .ok (.invokevirtual 27, 3) := by decide +kernel
theorem dX8_readStop_4 : decode cX8_readStop 4 = .ok (.aload_n 0, 1) := by decide +kernel
theorem dX8_readStop_5 : decode cX8_readStop 5 = .ok (.getfield 30, 3) := by decide +kernel
theorem dX8_readStop_8 : decode cX8_readStop 8 = .ok (.iconst 3, 1) := by decide +kernel
theorem dX8_readStop_9 : decode cX8_readStop 9 = .ok (.if_icmp .ne 7, 3) := by decide +kernel
theorem dX8_readStop_12 : decode cX8_readStop 12 = .ok (.iconst 1, 1) := by decide +kernel
theorem dX8_readStop_13 : decode cX8_readStop 13 = .ok (.goto 4, 3) := by decide +kernel
theorem dX8_readStop_16 : decode cX8_readStop 16 = .ok (.iconst 0, 1) := by decide +kernel
theorem dX8_readStop_17 : decode cX8_readStop 17 = .ok (.ireturn, 1) := by decide +kernel
theorem dX8_advance_0 : decode cX8_advance 0 = .ok (.aload_n 0, 1) := by decide +kernel
theorem dX8_advance_1 : decode cX8_advance 1 = .ok (.bipush 32, 2) := by decide +kernel
theorem dX8_advance_3 : decode cX8_advance 3 = .ok (.bipush 32, 2) := by decide +kernel
theorem dX8_advance_5 : decode cX8_advance 5 = .ok (.invokevirtual 78, 3) := by decide +kernel
theorem dX8_advance_8 : decode cX8_advance 8 = .ok (.pop, 1) := by decide +kernel
theorem dX8_advance_9 : decode cX8_advance 9 = .ok (.aload_n 0, 1) := by decide +kernel
theorem dX8_advance_10 : decode cX8_advance 10 = .ok (.aload_n 0, 1) := by decide +kernel
theorem dX8_advance_11 : decode cX8_advance 11 = .ok (.getfield 24, 3) := by decide +kernel
theorem dX8_advance_14 : decode cX8_advance 14 = .ok (.putfield 37, 3) := by decide +kernel
theorem dX8_advance_17 : decode cX8_advance 17 = .ok (.aload_n 0, 1) := by decide +kernel
theorem dX8_advance_18 : decode cX8_advance 18 = .ok (.bipush 48, 2) := by decide +kernel
theorem dX8_advance_20 : decode cX8_advance 20 = .ok (.bipush 57, 2) := by decide +kernel
theorem dX8_advance_22 : decode cX8_advance 22 = .ok (.invokevirtual 78, 3) := by decide +kernel
theorem dX8_advance_25 : decode cX8_advance 25 = .ok (.ifCond .eq 44, 3) := by decide +kernel
theorem dX8_advance_28 : decode cX8_advance 28 = .ok (.aload_n 0, 1) := by decide +kernel
theorem dX8_advance_29 : decode cX8_advance 29 = .ok (.aload_n 0, 1) := by decide +kernel
theorem dX8_advance_30 : decode cX8_advance 30 = .ok (.getfield 24, 3) := by decide +kernel
theorem dX8_advance_33 : decode cX8_advance 33 = .ok (.aload_n 0, 1) := by decide +kernel
theorem dX8_advance_34 : decode cX8_advance 34 = .ok (.getfield 37, 3) := by decide +kernel
theorem dX8_advance_37 : decode cX8_advance 37 = .ok (.isub, 1) := by decide +kernel
theorem dX8_advance_38 : decode cX8_advance 38 = .ok (.iconst 1, 1) := by decide +kernel
theorem dX8_advance_39 : decode cX8_advance 39 = .ok (.if_icmp .ne 7, 3) := by decide +kernel
theorem dX8_advance_42 : decode cX8_advance 42 = .ok (.iconst 2, 1) := by decide +kernel
theorem dX8_advance_43 : decode cX8_advance 43 = .ok (.goto 4, 3) := by decide +kernel
theorem dX8_advance_46 : decode cX8_advance 46 = .ok (.iconst 4, 1) := by decide +kernel
theorem dX8_advance_47 : decode cX8_advance 47 = .ok (.putfield 30, 3) := by decide +kernel
theorem dX8_advance_50 : decode cX8_advance 50 = .ok (.aload_n 0, 1) := by decide +kernel
theorem dX8_advance_51 : decode cX8_advance 51 = .ok (.aload_n 0, 1) := by decide +kernel
theorem dX8_advance_52 : decode cX8_advance 52 = .ok (.getfield 9, 3) := by decide +kernel
theorem dX8_advance_55 : decode cX8_advance 55 = .ok (.aload_n 0, 1) := by decide +kernel
theorem dX8_advance_56 : decode cX8_advance 56 = .ok (.getfield 37, 3) := by decide +kernel
theorem dX8_advance_59 : decode cX8_advance 59 = .ok (.iaload, 1) := by decide +kernel
theorem dX8_advance_60 : decode cX8_advance 60 = .ok (.bipush 48, 2) := by decide +kernel
theorem dX8_advance_62 : decode cX8_advance 62 = .ok (.isub, 1) := by decide +kernel
theorem dX8_advance_63 : decode cX8_advance 63 = .ok (.putfield 40, 3) := by decide +kernel
theorem dX8_advance_66 : decode cX8_advance 66 = .ok (.goto 104, 3) := by decide +kernel
theorem dX8_advance_69 : decode cX8_advance 69 = .ok (.aload_n 0, 1) := by decide +kernel
theorem dX8_advance_70 : decode cX8_advance 70 = .ok (.bipush 97, 2) := by decide +kernel
theorem dX8_advance_72 : decode cX8_advance 72 = .ok (.bipush 122, 2) := by decide +kernel
theorem dX8_advance_74 : decode cX8_advance 74 = .ok (.invokevirtual 78, 3) := by decide +kernel
theorem dX8_advance_77 : decode cX8_advance 77 = .ok (.ifCond .eq 41, 3) := by decide +kernel
theorem dX8_advance_80 : decode cX8_advance 80 = .ok (.aload_n 0, 1) := by decide +kernel
theorem dX8_advance_81 : decode cX8_advance 81 = .ok (.aload_n 0, 1) := by decide +kernel
theorem dX8_advance_82 : decode cX8_advance 82 = .ok (.getfield 24, 3) := by decide +kernel
theorem dX8_advance_85 : decode cX8_advance 85 = .ok (.aload_n 0, 1) := by decide +kernel
theorem dX8_advance_86 : decode cX8_advance 86 = .ok (.getfield 37, 3) := by decide +kernel
theorem dX8_advance_89 : decode cX8_advance 89 = .ok (.isub, 1) := by decide +kernel
theorem dX8_advance_90 : decode cX8_advance 90 = .ok (.iconst 1, 1) := by decide +kernel
theorem dX8_advance_91 : decode cX8_advance 91 = .ok (.if_icmp .ne 7, 3) := by decide +kernel
theorem dX8_advance_94 : decode cX8_advance 94 = .ok (.iconst 1, 1) := by decide +kernel
theorem dX8_advance_95 : decode cX8_advance 95 = .ok (.goto 4, 3) := by decide +kernel
theorem dX8_advance_98 : decode cX8_advance 98 = .ok (.iconst 4, 1) := by decide +kernel
theorem dX8_advance_99 : decode cX8_advance 99 = .ok (.putfield 30, 3) := by decide +kernel
theorem dX8_advance_102 : decode cX8_advance 102 = .ok (.aload_n 0, 1) := by decide +kernel
theorem dX8_advance_103 : decode cX8_advance 103 = .ok (.aload_n 0, 1) := by decide +kernel
theorem dX8_advance_104 : decode cX8_advance 104 = .ok (.getfield 9, 3) := by decide +kernel
theorem dX8_advance_107 : decode cX8_advance 107 = .ok (.aload_n 0, 1) := by decide +kernel
theorem dX8_advance_108 : decode cX8_advance 108 = .ok (.getfield 37, 3) := by decide +kernel
theorem dX8_advance_111 : decode cX8_advance 111 = .ok (.iaload, 1) := by decide +kernel
theorem dX8_advance_112 : decode cX8_advance 112 = .ok (.putfield 40, 3) := by decide +kernel
theorem dX8_advance_115 : decode cX8_advance 115 = .ok (.goto 55, 3) := by decide +kernel
theorem dX8_advance_118 : decode cX8_advance 118 = .ok (.aload_n 0, 1) := by decide +kernel
theorem dX8_advance_119 : decode cX8_advance 119 = .ok (.getfield 24, 3) := by decide +kernel
theorem dX8_advance_122 : decode cX8_advance 122 = .ok (.aload_n 0, 1) := by decide +kernel
theorem dX8_advance_123 : decode cX8_advance 123 = .ok (.getfield 15, 3) := by decide +kernel
theorem dX8_advance_126 : decode cX8_advance 126 = .ok (.if_icmp .ge 39, 3) := by decide +kernel
theorem dX8_advance_129 : decode cX8_advance 129 = .ok (.aload_n 0, 1) := by decide +kernel
theorem dX8_advance_130 : decode cX8_advance 130 = .ok (.aload_n 0, 1) := by decide +kernel
theorem dX8_advance_131 : decode cX8_advance 131 = .ok (.getfield 9, 3) := by decide +kernel
theorem dX8_advance_134 : decode cX8_advance 134 = .ok (.aload_n 0, 1) := by decide +kernel
theorem dX8_advance_135 : decode cX8_advance 135 = .ok (.getfield 24, 3) := by decide +kernel
theorem dX8_advance_138 : decode cX8_advance 138 = .ok (.iaload, 1) := by decide +kernel
theorem dX8_advance_139 : decode cX8_advance 139 = .ok (.bipush 59, 2) := by decide +kernel
theorem dX8_advance_141 : decode cX8_advance 141 = .ok (.if_icmp .ne 7, 3) := by decide +kernel
theorem dX8_advance_144 : decode cX8_advance 144 = .ok (.iconst 3, 1) := by decide +kernel
theorem dX8_advance_145 : decode cX8_advance 145 = .ok (.goto 4, 3) := by decide +kernel
theorem dX8_advance_148 : decode cX8_advance 148 = .ok (.iconst 4, 1) := by decide +kernel
theorem dX8_advance_149 : decode cX8_advance 149 = .ok (.putfield 30, 3) := by decide +kernel
theorem dX8_advance_152 : decode cX8_advance 152 = .ok (.aload_n 0, 1) := by decide +kernel
theorem dX8_advance_153 : decode cX8_advance 153 = .ok (.dup, 1) := by decide +kernel
theorem dX8_advance_154 : decode cX8_advance 154 = .ok (.getfield 24, 3) := by decide +kernel
theorem dX8_advance_157 : decode cX8_advance 157 = .ok (.iconst 1, 1) := by decide +kernel
theorem dX8_advance_158 : decode cX8_advance 158 = .ok (.iadd, 1) := by decide +kernel
theorem dX8_advance_159 : decode cX8_advance 159 = .ok (.putfield 24, 3) := by decide +kernel
theorem dX8_advance_162 : decode cX8_advance 162 = .ok (.goto 8, 3) := by decide +kernel
theorem dX8_advance_165 : decode cX8_advance 165 = .ok (.aload_n 0, 1) := by decide +kernel
theorem dX8_advance_166 : decode cX8_advance 166 = .ok (.iconst 0, 1) := by decide +kernel
theorem dX8_advance_167 : decode cX8_advance 167 = .ok (.putfield 30, 3) := by decide +kernel
theorem dX8_advance_170 : decode cX8_advance 170 = .ok (.return_, 1) := by decide +kernel
theorem dX8_skip_0 : decode cX8_skip 0 = .ok (.aload_n 0, 1) := by decide +kernel
theorem dX8_skip_1 : decode cX8_skip 1 = .ok (.getfield 24, 3) := by decide +kernel
theorem dX8_skip_4 : decode cX8_skip 4 = .ok (.istore_n 3, 1) := by decide +kernel
theorem dX8_skip_5 : decode cX8_skip 5 = .ok (.aload_n 0, 1) := by decide +kernel
theorem dX8_skip_6 : decode cX8_skip 6 = .ok (.getfield 24, 3) := by decide +kernel
theorem dX8_skip_9 : decode cX8_skip 9 = .ok (.aload_n 0, 1) := by decide +kernel
theorem dX8_skip_10 : decode cX8_skip 10 = .ok (.getfield 15, 3) := by decide +kernel
theorem dX8_skip_13 : decode cX8_skip 13 = .ok (.if_icmp .ge 42, 3) := by decide +kernel
theorem dX8_skip_16 : decode cX8_skip 16 = .ok (.aload_n 0, 1) := by decide +kernel
theorem dX8_skip_17 : decode cX8_skip 17 = .ok (.getfield 9, 3) := by decide +kernel
theorem dX8_skip_20 : decode cX8_skip 20 = .ok (.aload_n 0, 1) := by decide +kernel
theorem dX8_skip_21 : decode cX8_skip 21 = .ok (.getfield 24, 3) := by decide +kernel
theorem dX8_skip_24 : decode cX8_skip 24 = .ok (.iaload, 1) := by decide +kernel
theorem dX8_skip_25 : decode cX8_skip 25 = .ok (.iload_n 1, 1) := by decide +kernel
theorem dX8_skip_26 : decode cX8_skip 26 = .ok (.if_icmp .lt 29, 3) := by decide +kernel
theorem dX8_skip_29 : decode cX8_skip 29 = .ok (.aload_n 0, 1) := by decide +kernel
theorem dX8_skip_30 : decode cX8_skip 30 = .ok (.getfield 9, 3) := by decide +kernel
theorem dX8_skip_33 : decode cX8_skip 33 = .ok (.aload_n 0, 1) := by decide +kernel
theorem dX8_skip_34 : decode cX8_skip 34 = .ok (.getfield 24, 3) := by decide +kernel
theorem dX8_skip_37 : decode cX8_skip 37 = .ok (.iaload, 1) := by decide +kernel
theorem dX8_skip_38 : decode cX8_skip 38 = .ok (.iload_n 2, 1) := by decide +kernel
theorem dX8_skip_39 : decode cX8_skip 39 = .ok (.if_icmp .gt 16, 3) := by decide +kernel
theorem dX8_skip_42 : decode cX8_skip 42 = .ok (.aload_n 0, 1) := by decide +kernel
theorem dX8_skip_43 : decode cX8_skip 43 = .ok (.dup, 1) := by decide +kernel
theorem dX8_skip_44 : decode cX8_skip 44 = .ok (.getfield 24, 3) := by decide +kernel
theorem dX8_skip_47 : decode cX8_skip 47 = .ok (.iconst 1, 1) := by decide +kernel
theorem dX8_skip_48 : decode cX8_skip 48 = .ok (.iadd, 1) := by decide +kernel
theorem dX8_skip_49 : decode cX8_skip 49 = .ok (.putfield 24, 3) := by decide +kernel
theorem dX8_skip_52 : decode cX8_skip 52 = .ok (.goto (-47), 3) := by decide +kernel
theorem dX8_skip_55 : decode cX8_skip 55 = .ok (.aload_n 0, 1) := by decide +kernel
theorem dX8_skip_56 : decode cX8_skip 56 = .ok (.getfield 24, 3) := by decide +kernel
theorem dX8_skip_59 : decode cX8_skip 59 = .ok (.iload_n 3, 1) := by decide +kernel
theorem dX8_skip_60 : decode cX8_skip 60 = .ok (.if_icmp .le 7, 3) := by decide +kernel
theorem dX8_skip_63 : decode cX8_skip 63 = .ok (.iconst 1, 1) := by decide +kernel
theorem dX8_skip_64 : decode cX8_skip 64 = .ok (.goto 4, 3) := by decide +kernel
theorem dX8_skip_67 : decode cX8_skip 67 = .ok (.iconst 0, 1) := by decide +kernel
theorem dX8_skip_68 : decode cX8_skip 68 = .ok (.ireturn, 1) := by decide +kernel
theorem dJ6_bitCount_0f7a4_0 : decode cJ6_bitCount_0f7a4 0 = .ok (.iload_n 0, 1) := by decide +kernel
theorem dJ6_bitCount_0f7a4_1 : decode cJ6_bitCount_0f7a4 1 = .ok (.iload_n 0, 1) := by decide +kernel
theorem dJ6_bitCount_0f7a4_2 : decode cJ6_bitCount_0f7a4 2 = .ok (.iconst 1, 1) := by decide +kernel
theorem dJ6_bitCount_0f7a4_3 : decode cJ6_bitCount_0f7a4 3 = .ok (.iushr, 1) := by decide +kernel
theorem dJ6_bitCount_0f7a4_4 : decode cJ6_bitCount_0f7a4 4 = .ok (.ldc_w 265, 3) := by decide +kernel
theorem dJ6_bitCount_0f7a4_7 : decode cJ6_bitCount_0f7a4 7 = .ok (.iand, 1) := by decide +kernel
theorem dJ6_bitCount_0f7a4_8 : decode cJ6_bitCount_0f7a4 8 = .ok (.isub, 1) := by decide +kernel
theorem dJ6_bitCount_0f7a4_9 : decode cJ6_bitCount_0f7a4 9 = .ok (.istore_n 0, 1) := by decide +kernel
theorem dJ6_bitCount_0f7a4_10 : decode cJ6_bitCount_0f7a4 10 = .ok (.iload_n 0, 1) := by decide +kernel
theorem dJ6_bitCount_0f7a4_11 : decode cJ6_bitCount_0f7a4 11 = .ok (.ldc_w 266, 3) := by decide +kernel
theorem dJ6_bitCount_0f7a4_14 : decode cJ6_bitCount_0f7a4 14 = .ok (.iand, 1) := by decide +kernel
theorem dJ6_bitCount_0f7a4_15 : decode cJ6_bitCount_0f7a4 15 = .ok (.iload_n 0, 1) := by decide +kernel
theorem dJ6_bitCount_0f7a4_16 : decode cJ6_bitCount_0f7a4 16 = .ok (.iconst 2, 1) := by decide +kernel
theorem dJ6_bitCount_0f7a4_17 : decode cJ6_bitCount_0f7a4 17 = .ok (.iushr, 1) := by decide +kernel
theorem dJ6_bitCount_0f7a4_18 : decode cJ6_bitCount_0f7a4 18 = .ok (.ldc_w 266, 3) := by decide +kernel
theorem dJ6_bitCount_0f7a4_21 : decode cJ6_bitCount_0f7a4 21 = .ok (.iand, 1) := by decide +kernel
theorem dJ6_bitCount_0f7a4_22 : decode cJ6_bitCount_0f7a4 22 = .ok (.iadd, 1) := by decide +kernel
theorem dJ6_bitCount_0f7a4_23 : decode cJ6_bitCount_0f7a4 23 = .ok (.istore_n 0, 1) := by decide +kernel
theorem dJ6_bitCount_0f7a4_24 : decode cJ6_bitCount_0f7a4 24 = .ok (.iload_n 0, 1) := by decide +kernel
theorem dJ6_bitCount_0f7a4_25 : decode cJ6_bitCount_0f7a4 25 = .ok (.iload_n 0, 1) := by decide +kernel
theorem dJ6_bitCount_0f7a4_26 : decode cJ6_bitCount_0f7a4 26 = .ok (.iconst 4, 1) := by decide +kernel
theorem dJ6_bitCount_0f7a4_27 : decode cJ6_bitCount_0f7a4 27 = .ok (.iushr, 1) := by decide +kernel
theorem dJ6_bitCount_0f7a4_28 : decode cJ6_bitCount_0f7a4 28 = .ok (.iadd, 1) := by decide +kernel
theorem dJ6_bitCount_0f7a4_29 : decode cJ6_bitCount_0f7a4 29 = .ok (.ldc_w 267, 3) := by decide +kernel
theorem dJ6_bitCount_0f7a4_32 : decode cJ6_bitCount_0f7a4 32 = .ok (.iand, 1) := by decide +kernel
theorem dJ6_bitCount_0f7a4_33 : decode cJ6_bitCount_0f7a4 33 = .ok (.istore_n 0, 1) := by decide +kernel
theorem dJ6_bitCount_0f7a4_34 : decode cJ6_bitCount_0f7a4 34 = .ok (.iload_n 0, 1) := by decide +kernel
theorem dJ6_bitCount_0f7a4_35 : decode cJ6_bitCount_0f7a4 35 = .ok (.iload_n 0, 1) := by decide +kernel
theorem dJ6_bitCount_0f7a4_36 : decode cJ6_bitCount_0f7a4 36 = .ok (.bipush 8, 2) := by decide +kernel
theorem dJ6_bitCount_0f7a4_38 : decode cJ6_bitCount_0f7a4 38 = .ok (.iushr, 1) := by decide +kernel
theorem dJ6_bitCount_0f7a4_39 : decode cJ6_bitCount_0f7a4 39 = .ok (.iadd, 1) := by decide +kernel
theorem dJ6_bitCount_0f7a4_40 : decode cJ6_bitCount_0f7a4 40 = .ok (.istore_n 0, 1) := by decide +kernel
theorem dJ6_bitCount_0f7a4_41 : decode cJ6_bitCount_0f7a4 41 = .ok (.iload_n 0, 1) := by decide +kernel
theorem dJ6_bitCount_0f7a4_42 : decode cJ6_bitCount_0f7a4 42 = .ok (.iload_n 0, 1) := by decide +kernel
theorem dJ6_bitCount_0f7a4_43 : decode cJ6_bitCount_0f7a4 43 = .ok (.bipush 16, 2) := by decide +kernel
theorem dJ6_bitCount_0f7a4_45 : decode cJ6_bitCount_0f7a4 45 = .ok (.iushr, 1) := by decide +kernel
theorem dJ6_bitCount_0f7a4_46 : decode cJ6_bitCount_0f7a4 46 = .ok (.iadd, 1) := by decide +kernel
theorem dJ6_bitCount_0f7a4_47 : decode cJ6_bitCount_0f7a4 47 = .ok (.istore_n 0, 1) := by decide +kernel
theorem dJ6_bitCount_0f7a4_48 : decode cJ6_bitCount_0f7a4 48 = .ok (.iload_n 0, 1) := by decide +kernel
theorem dJ6_bitCount_0f7a4_49 : decode cJ6_bitCount_0f7a4 49 = .ok (.bipush 63, 2) := by decide +kernel
theorem dJ6_bitCount_0f7a4_51 : decode cJ6_bitCount_0f7a4 51 = .ok (.iand, 1) := by decide +kernel
theorem dJ6_bitCount_0f7a4_52 : decode cJ6_bitCount_0f7a4 52 = .ok (.ireturn, 1) := by decide +kernel
theorem dJ9_max_7cf53_0 : decode cJ9_max_7cf53 0 = .ok (.iload_n 0, 1) := by decide +kernel
theorem dJ9_max_7cf53_1 : decode cJ9_max_7cf53 1 = .ok (.iload_n 1, 1) := by decide +kernel
theorem dJ9_max_7cf53_2 : decode cJ9_max_7cf53 2 = .ok (.if_icmp .lt 7, 3) := by decide +kernel
theorem dJ9_max_7cf53_5 : decode cJ9_max_7cf53 5 = .ok (.iload_n 0, 1) := by decide +kernel
theorem dJ9_max_7cf53_6 : decode cJ9_max_7cf53 6 = .ok (.goto 4, 3) := by decide +kernel
theorem dJ9_max_7cf53_9 : decode cJ9_max_7cf53 9 = .ok (.iload_n 1, 1) := by decide +kernel
theorem dJ9_max_7cf53_10 : decode cJ9_max_7cf53 10 = .ok (.ireturn, 1) := by decide +kernel
theorem dJ9_min_7cf53_0 : decode cJ9_min_7cf53 0 = .ok (.iload_n 0, 1) := by decide +kernel
theorem dJ9_min_7cf53_1 : decode cJ9_min_7cf53 1 = .ok (.iload_n 1, 1) := by decide +kernel
theorem dJ9_min_7cf53_2 : decode cJ9_min_7cf53 2 = .ok (.if_icmp .gt 7, 3) := by decide +kernel
theorem dJ9_min_7cf53_5 : decode cJ9_min_7cf53 5 = .ok (.iload_n 0, 1) := by decide +kernel
theorem dJ9_min_7cf53_6 : decode cJ9_min_7cf53 6 = .ok (.goto 4, 3) := by decide +kernel
theorem dJ9_min_7cf53_9 : decode cJ9_min_7cf53 9 = .ok (.iload_n 1, 1) := by decide +kernel
theorem dJ9_min_7cf53_10 : decode cJ9_min_7cf53 10 = .ok (.ireturn, 1) := by decide +kernel
