theorem dX12_move_57 : decode cX12_move 57 = .ok (.aload_n 0, 1) := by decide +kernel
theorem dX12_move_58 : decode cX12_move 58 = .ok (.iload_n 1, 1) := by decide +kernel
theorem dX12_move_59 : decode cX12_move 59 = .ok (.iload_n 3, 1) := by decide +kernel
theorem dX12_move_60 : decode cX12_move 60 = .ok (.aload_n 0, 1) := by decide +kernel
theorem dX12_move_61 : decode cX12_move 61 = .ok (.getfield 23, 3) := by decide +kernel
theorem dX12_move_64 : decode cX12_move 64 = .ok (.iload_n 3, 1) := by decide +kernel
theorem dX12_move_65 : decode cX12_move 65 = .ok (.iaload, 1) := by decide +kernel
theorem dX12_move_66 : decode cX12_move 66 = .ok (.invokevirtual 331, 3) := by decide +kernel
theorem dX12_move_69 : decode cX12_move 69 = .ok (.iinc 3 1, 3) := by decide +kernel
theorem dX12_move_72 : decode cX12_move 72 = .ok (.goto (-20), 3) := by decide +kernel
theorem dX12_move_75 : decode cX12_move 75 = .ok (.iload_n 2, 1) := by decide +kernel
theorem dX12_move_76 : decode cX12_move 76 = .ok (.ireturn, 1) := by decide +kernel
theorem dX12_look_0 : decode cX12_look 0 = .ok (.iload_n 1, 1) := by decide +kernel
theorem dX12_look_1 : decode cX12_look 1 = .ok (.iconst 3, 1) := by decide +kernel
theorem dX12_look_2 : decode cX12_look 2 = .ok (.if_icmp .ne 10, 3) := by decide +kernel
theorem dX12_look_5 : decode cX12_look 5 = .ok (.aload_n 0, 1) := by decide +kernel
theorem dX12_look_6 : decode cX12_look 6 = .ok (.getfield 26, 3) := by decide +kernel
theorem dX12_look_9 : decode cX12_look 9 = .ok (.goto 7, 3) := by decide +kernel
theorem dX12_look_12 : decode cX12_look 12 = .ok (.iload_n 1, 1) := by decide +kernel
theorem dX12_look_13 : decode cX12_look 13 = .ok (.invokestatic 328, 3) := by decide +kernel
theorem dX12_look_16 : decode cX12_look 16 = .ok (.istore_n 3, 1) := by decide +kernel
theorem dX12_look_17 : decode cX12_look 17 = .ok (.aload_n 0, 1) := by decide +kernel
theorem dX12_look_18 : decode cX12_look 18 = .ok (.iload_n 1, 1) := by decide +kernel
theorem dX12_look_19 : decode cX12_look 19 = .ok (.ifCond .lt 8, 3) := by decide +kernel
theorem dX12_look_22 : decode cX12_look 22 = .ok (.iload_n 1, 1) := by decide +kernel
theorem dX12_look_23 : decode cX12_look 23 = .ok (.iconst 3, 1) := by decide +kernel
theorem dX12_look_24 : decode cX12_look 24 = .ok (.if_icmp .le 7, 3) := by decide +kernel
theorem dX12_look_27 : decode cX12_look 27 = .ok (.iconst 1, 1) := by decide +kernel
theorem dX12_look_28 : decode cX12_look 28 = .ok (.goto 17, 3) := by decide +kernel
theorem dX12_look_31 : decode cX12_look 31 = .ok (.iload_n 2, 1) := by decide +kernel
theorem dX12_look_32 : decode cX12_look 32 = .ok (.ifCond .lt 8, 3) := by decide +kernel
theorem dX12_look_35 : decode cX12_look 35 = .ok (.iload_n 2, 1) := by decide +kernel
theorem dX12_look_36 : decode cX12_look 36 = .ok (.iload_n 3, 1) := by decide +kernel
theorem dX12_look_37 : decode cX12_look 37 = .ok (.if_icmp .lt 7, 3) := by decide +kernel
theorem dX12_look_40 : decode cX12_look 40 = .ok (.iconst 2, 1) := by decide +kernel
theorem dX12_look_41 : decode cX12_look 41 = .ok (.goto 4, 3) := by decide +kernel
theorem dX12_look_44 : decode cX12_look 44 = .ok (.iconst 0, 1) := by decide +kernel
theorem dX12_look_45 : decode cX12_look 45 = .ok (.putfield 7, 3) := by decide +kernel
theorem dX12_look_48 : decode cX12_look 48 = .ok (.aload_n 0, 1) := by decide +kernel
theorem dX12_look_49 : decode cX12_look 49 = .ok (.getfield 7, 3) := by decide +kernel
theorem dX12_look_52 : decode cX12_look 52 = .ok (.ifCond .eq 5, 3) := by decide +kernel
theorem dX12_look_55 : decode cX12_look 55 = .ok (.iconst 0, 1) := by decide +kernel
theorem dX12_look_56 : decode cX12_look 56 = .ok (.ireturn, 1) := by decide +kernel
theorem dX12_look_57 : decode cX12_look 57 = .ok (.iload_n 1, 1) := by decide +kernel
theorem dX12_look_58 : decode cX12_look 58 = .ok (.ifCond .ne 12, 3) := by decide +kernel
theorem dX12_look_61 : decode cX12_look 61 = .ok (.aload_n 0, 1) := by decide +kernel
theorem dX12_look_62 : decode cX12_look 62 = .ok (.getfield 13, 3) := by decide +kernel
theorem dX12_look_65 : decode cX12_look 65 = .ok (.iload_n 2, 1) := by decide +kernel
theorem dX12_look_66 : decode cX12_look 66 = .ok (.iaload, 1) := by decide +kernel
theorem dX12_look_67 : decode cX12_look 67 = .ok (.goto 37, 3) := by decide +kernel
theorem dX12_look_70 : decode cX12_look 70 = .ok (.iload_n 1, 1) := by decide +kernel
theorem dX12_look_71 : decode cX12_look 71 = .ok (.iconst 1, 1) := by decide +kernel
theorem dX12_look_72 : decode cX12_look 72 = .ok (.if_icmp .ne 12, 3) := by decide +kernel
theorem dX12_look_75 : decode cX12_look 75 = .ok (.aload_n 0, 1) := by decide +kernel
theorem dX12_look_76 : decode cX12_look 76 = .ok (.getfield 17, 3) := by decide +kernel
theorem dX12_look_79 : decode cX12_look 79 = .ok (.iload_n 2, 1) := by decide +kernel
theorem dX12_look_80 : decode cX12_look 80 = .ok (.iaload, 1) := by decide +kernel
theorem dX12_look_81 : decode cX12_look 81 = .ok (.goto 23, 3) := by decide +kernel
theorem dX12_look_84 : decode cX12_look 84 = .ok (.iload_n 1, 1) := by decide +kernel
theorem dX12_look_85 : decode cX12_look 85 = .ok (.iconst 2, 1) := by decide +kernel
theorem dX12_look_86 : decode cX12_look 86 = .ok (.if_icmp .ne 12, 3) := by decide +kernel
theorem dX12_look_89 : decode cX12_look 89 = .ok (.aload_n 0, 1) := by decide +kernel
theorem dX12_look_90 : decode cX12_look 90 = .ok (.getfield 20, 3) := by decide +kernel
theorem dX12_look_93 : decode cX12_look 93 = .ok (.iload_n 2, 1) := by decide +kernel
theorem dX12_look_94 : decode cX12_look 94 = .ok (.iaload, 1) := by decide +kernel
theorem dX12_look_95 : decode cX12_look 95 = .ok (.goto 9, 3) := by decide +kernel
theorem dX12_look_98 : decode cX12_look 98 = .ok (.aload_n 0, 1) := by decide +kernel
theorem dX12_look_99 : decode cX12_look 99 = .ok (.getfield 23, 3) := by decide +kernel
theorem dX12_look_102 : decode cX12_look 102 = .ok (.iload_n 2, 1) := by decide +kernel
theorem dX12_look_103 : decode cX12_look 103 = .ok (.iaload, 1) := by decide +kernel
theorem dX12_look_104 : decode cX12_look 104 = .ok (.ireturn, 1) := by decide +kernel
theorem dX12_size_0 : decode cX12_size 0 = .ok (.aload_n 0, 1) := by decide +kernel
theorem dX12_size_1 : decode cX12_size 1 = .ok (.iconst 0, 1) := by decide +kernel
theorem dX12_size_2 : decode cX12_size 2 = .ok (.putfield 7, 3) := by decide +kernel
theorem dX12_size_5 : decode cX12_size 5 = .ok (.aload_n 0, 1) := by decide +kernel
theorem dX12_size_6 : decode cX12_size 6 = .ok (.getfield 26, 3) := by decide +kernel
theorem dX12_size_9 : decode cX12_size 9 = .ok (.ireturn, 1) := by decide +kernel
theorem dX12_hash_0 : decode cX12_hash 0 = .ok (.aload_n 0, 1) := by decide +kernel
theorem dX12_hash_1 : decode cX12_hash 1 = .ok (.iload_n 1, 1) := by decide +kernel
theorem dX12_hash_2 : decode cX12_hash 2 = .ok (.ifCond .eq 17, 3) := by decide +kernel
theorem dX12_hash_5 : decode cX12_hash 5 = .ok (.iload_n 2, 1) := by decide +kernel
theorem dX12_hash_6 : decode cX12_hash 6 = .ok (.ifCond .lt 9, 3) := by decide +kernel
theorem dX12_hash_9 : decode cX12_hash 9 = .ok (.iload_n 2, 1) := by decide +kernel
theorem dX12_hash_10 : decode cX12_hash 10 = .ok (.bipush 114, 2) := by decide +kernel
theorem dX12_hash_12 : decode cX12_hash 12 = .ok (.if_icmp .le 7, 3) := by decide +kernel
theorem dX12_hash_15 : decode cX12_hash 15 = .ok (.iconst 1, 1) := by decide +kernel
theorem dX12_hash_16 : decode cX12_hash 16 = .ok (.goto 4, 3) := by decide +kernel
theorem dX12_hash_19 : decode cX12_hash 19 = .ok (.iconst 0, 1) := by decide +kernel
theorem dX12_hash_20 : decode cX12_hash 20 = .ok (.putfield 7, 3) := by decide +kernel
theorem dX12_hash_23 : decode cX12_hash 23 = .ok (.aload_n 0, 1) := by decide +kernel
theorem dX12_hash_24 : decode cX12_hash 24 = .ok (.getfield 7, 3) := by decide +kernel
theorem dX12_hash_27 : decode cX12_hash 27 = .ok (.ifCond .eq 4, 3) := by decide +kernel
theorem dX12_hash_30 : decode cX12_hash 30 = .ok (.return_, 1) := by decide +kernel
theorem dX12_hash_31 : decode cX12_hash 31 = .ok (.aload_n 0, 1) := by decide +kernel
theorem dX12_hash_32 : decode cX12_hash 32 = .ok (.iconst 0, 1) := by decide +kernel
theorem dX12_hash_33 : decode cX12_hash 33 = .ok (.putfield 63, 3) := by decide +kernel
theorem dX12_hash_36 : decode cX12_hash 36 = .ok (.aload_n 0, 1) := by decide +kernel
theorem dX12_hash_37 : decode cX12_hash 37 = .ok (.aload_n 0, 1) := by decide +kernel
theorem dX12_hash_38 : decode cX12_hash 38 = .ok (.getfield 29, 3) := by decide +kernel
theorem dX12_hash_41 : decode cX12_hash 41 = .ok (.iconst 0, 1) := by decide +kernel
theorem dX12_hash_42 : decode cX12_hash 42 = .ok (.aload_n 0, 1) := by decide +kernel
theorem dX12_hash_43 : decode cX12_hash 43 = .ok (.getfield 32, 3) := by decide +kernel
theorem dX12_hash_46 : decode cX12_hash 46 = .ok (.invokevirtual 279, 3) := by decide +kernel
theorem dX12_hash_49 : decode cX12_hash 49 = .ok (.iload_n 1, 1) := by decide +kernel
theorem dX12_hash_50 : decode cX12_hash 50 = .ok (.ifCond .eq 11, 3) := by decide +kernel
theorem dX12_hash_53 : decode cX12_hash 53 = .ok (.aload_n 0, 1) := by decide +kernel
theorem dX12_hash_54 : decode cX12_hash 54 = .ok (.iload_n 2, 1) := by decide +kernel
theorem dX12_hash_55 : decode cX12_hash 55 = .ok (.invokevirtual 286, 3) := by decide +kernel
theorem dX12_hash_58 : decode cX12_hash 58 = .ok (.goto 7, 3) := by decide +kernel
theorem dX12_hash_61 : decode cX12_hash 61 = .ok (.aload_n 0, 1) := by decide +kernel
theorem dX12_hash_62 : decode cX12_hash 62 = .ok (.invokevirtual 283, 3) := by decide +kernel
theorem dX12_hash_65 : decode cX12_hash 65 = .ok (.aload_n 0, 1) := by decide +kernel
theorem dX12_hash_66 : decode cX12_hash 66 = .ok (.iload_n 1, 1) := by decide +kernel
theorem dX12_hash_67 : decode cX12_hash 67 = .ok (.ifCond .eq 7, 3) := by decide +kernel
theorem dX12_hash_70 : decode cX12_hash 70 = .ok (.iload_n 2, 1) := by decide +kernel
theorem dX12_hash_71 : decode cX12_hash 71 = .ok (.goto 5, 3) := by decide +kernel
theorem dX12_hash_74 : decode cX12_hash 74 = .ok (.bipush 64, 2) := by decide +kernel
theorem dX12_hash_76 : decode cX12_hash 76 = .ok (.putfield 26, 3) := by decide +kernel
theorem dX12_hash_79 : decode cX12_hash 79 = .ok (.iconst 0, 1) := by decide +kernel
theorem dX12_hash_80 : decode cX12_hash 80 = .ok (.istore_n 3, 1) := by decide +kernel
theorem dX12_hash_81 : decode cX12_hash 81 = .ok (.iload_n 3, 1) := by decide +kernel
theorem dX12_hash_82 : decode cX12_hash 82 = .ok (.aload_n 0, 1) := by decide +kernel
theorem dX12_hash_83 : decode cX12_hash 83 = .ok (.getfield 26, 3) := by decide +kernel
theorem dX12_hash_86 : decode cX12_hash 86 = .ok (.if_icmp .ge 21, 3) := by decide +kernel
theorem dX12_hash_89 : decode cX12_hash 89 = .ok (.aload_n 0, 1) := by decide +kernel
theorem dX12_hash_90 : decode cX12_hash 90 = .ok (.getfield 23, 3) := by decide +kernel
theorem dX12_hash_93 : decode cX12_hash 93 = .ok (.iload_n 3, 1) := by decide +kernel
theorem dX12_hash_94 : decode cX12_hash 94 = .ok (.aload_n 0, 1) := by decide +kernel
theorem dX12_hash_95 : decode cX12_hash 95 = .ok (.getfield 66, 3) := by decide +kernel
theorem dX12_hash_98 : decode cX12_hash 98 = .ok (.iload_n 3, 1) := by decide +kernel
theorem dX12_hash_99 : decode cX12_hash 99 = .ok (.iaload, 1) := by decide +kernel
theorem dX12_hash_100 : decode cX12_hash 100 = .ok (.iastore, 1) := by decide +kernel
theorem dX12_hash_101 : decode cX12_hash 101 = .ok (.iinc 3 1, 3) := by decide +kernel
theorem dX12_hash_104 : decode cX12_hash 104 = .ok (.goto (-23), 3) := by decide +kernel
theorem dX12_hash_107 : decode cX12_hash 107 = .ok (.return_, 1) := by decide +kernel
theorem dX12_noCurve_0 : decode cX12_noCurve 0 = .ok (.aload_n 0, 1) := by decide +kernel
theorem dX12_noCurve_1 : decode cX12_noCurve 1 = .ok (.iload_n 1, 1) := by decide +kernel
theorem dX12_noCurve_2 : decode cX12_noCurve 2 = .ok (.ifCond .lt 8, 3) := by decide +kernel
theorem dX12_noCurve_5 : decode cX12_noCurve 5 = .ok (.iload_n 1, 1) := by decide +kernel
theorem dX12_noCurve_6 : decode cX12_noCurve 6 = .ok (.iconst 1, 1) := by decide +kernel
theorem dX12_noCurve_7 : decode cX12_noCurve 7 = .ok (.if_icmp .le 7, 3) := by decide +kernel
theorem dX12_noCurve_10 : decode cX12_noCurve 10 = .ok (.iconst 1, 1) := by decide +kernel
theorem dX12_noCurve_11 : decode cX12_noCurve 11 = .ok (.goto 4, 3) := by decide +kernel
theorem dX12_noCurve_14 : decode cX12_noCurve 14 = .ok (.iconst 0, 1) := by decide +kernel
theorem dX12_noCurve_15 : decode cX12_noCurve 15 = .ok (.putfield 7, 3) := by decide +kernel
theorem dX12_noCurve_18 : decode cX12_noCurve 18 = .ok (.aload_n 0, 1) := by decide +kernel
theorem dX12_noCurve_19 : decode cX12_noCurve 19 = .ok (.getfield 7, 3) := by decide +kernel
theorem dX12_noCurve_22 : decode cX12_noCurve 22 = .ok (.ifCond .ne 8, 3) := by decide +kernel
theorem dX12_noCurve_25 : decode cX12_noCurve 25 = .ok (.aload_n 0, 1) := by decide +kernel
theorem dX12_noCurve_26 : decode cX12_noCurve 26 = .ok (.iload_n 1, 1) := by decide +kernel
theorem dX12_noCurve_27 : decode cX12_noCurve 27 = .ok (.invokevirtual 131, 3) := by decide +kernel
theorem dX12_noCurve_30 : decode cX12_noCurve 30 = .ok (.aload_n 0, 1) := by decide +kernel
theorem dX12_noCurve_31 : decode cX12_noCurve 31 = .ok (.getfield 7, 3) := by decide +kernel
theorem dX12_noCurve_34 : decode cX12_noCurve 34 = .ok (.ifCond .eq 7, 3) := by decide +kernel
theorem dX12_noCurve_37 : decode cX12_noCurve 37 = .ok (.iconst 1, 1) := by decide +kernel
theorem dX12_noCurve_38 : decode cX12_noCurve 38 = .ok (.goto 4, 3) := by decide +kernel
theorem dX12_noCurve_41 : decode cX12_noCurve 41 = .ok (.iconst 0, 1) := by decide +kernel
theorem dX12_noCurve_42 : decode cX12_noCurve 42 = .ok (.ireturn, 1) := by decide +kernel
theorem dX12_agree_0 : decode cX12_agree 0 = .ok (.aload_n 0, 1) := by decide +kernel
theorem dX12_agree_1 : decode cX12_agree 1 = .ok (.iload_n 1, 1) := by decide +kernel
theorem dX12_agree_2 : decode cX12_agree 2 = .ok (.invokevirtual 334, 3) := by decide +kernel
theorem dX12_agree_5 : decode cX12_agree 5 = .ok (.ifCond .eq 5, 3) := by decide +kernel
theorem dX12_agree_8 : decode cX12_agree 8 = .ok (.iconst 0, 1) := by decide +kernel
theorem dX12_agree_9 : decode cX12_agree 9 = .ok (.ireturn, 1) := by decide +kernel
theorem dX12_agree_10 : decode cX12_agree 10 = .ok (.aload_n 0, 1) := by decide +kernel
theorem dX12_agree_11 : decode cX12_agree 11 = .ok (.iload_n 2, 1) := by decide +kernel
theorem dX12_agree_12 : decode cX12_agree 12 = .ok (.invokevirtual 337, 3) := by decide +kernel
theorem dX12_agree_15 : decode cX12_agree 15 = .ok (.iconst 0, 1) := by decide +kernel
theorem dX12_agree_16 : decode cX12_agree 16 = .ok (.istore_n 3, 1) := by decide +kernel
theorem dX12_agree_17 : decode cX12_agree 17 = .ok (.iload_n 3, 1) := by decide +kernel
theorem dX12_agree_18 : decode cX12_agree 18 = .ok (.aload_n 0, 1) := by decide +kernel
theorem dX12_agree_19 : decode cX12_agree 19 = .ok (.getfield 26, 3) := by decide +kernel
theorem dX12_agree_22 : decode cX12_agree 22 = .ok (.if_icmp .ge 20, 3) := by decide +kernel
theorem dX12_agree_25 : decode cX12_agree 25 = .ok (.aload_n 0, 1) := by decide +kernel
theorem dX12_agree_26 : decode cX12_agree 26 = .ok (.getfield 23, 3) := by decide +kernel
theorem dX12_agree_29 : decode cX12_agree 29 = .ok (.iload_n 3, 1) := by decide +kernel
theorem dX12_agree_30 : decode cX12_agree 30 = .ok (.iaload, 1) := by decide +kernel
theorem dX12_agree_31 : decode cX12_agree 31 = .ok (.ifCond .eq 5, 3) := by decide +kernel
theorem dX12_agree_34 : decode cX12_agree 34 = .ok (.iconst 1, 1) := by decide +kernel
theorem dX12_agree_35 : decode cX12_agree 35 = .ok (.ireturn, 1) := by decide +kernel
theorem dX12_agree_36 : decode cX12_agree 36 = .ok (.iinc 3 1, 3) := by decide +kernel
theorem dX12_agree_39 : decode cX12_agree 39 = .ok (.goto (-22), 3) := by decide +kernel
theorem dX12_agree_42 : decode cX12_agree 42 = .ok (.iconst 0, 1) := by decide +kernel
theorem dX12_agree_43 : decode cX12_agree 43 = .ok (.ireturn, 1) := by decide +kernel
theorem dX12_derive_0 : decode cX12_derive 0 = .ok (.aload_n 0, 1) := by decide +kernel
theorem dX12_derive_1 : decode cX12_derive 1 = .ok (.iload_n 1, 1) := by decide +kernel
theorem dX12_derive_2 : decode cX12_derive 2 = .ok (.invokevirtual 334, 3) := by decide +kernel
theorem dX12_derive_5 : decode cX12_derive 5 = .ok (.ifCond .eq 4, 3) := by decide +kernel
theorem dX12_derive_8 : decode cX12_derive 8 = .ok (.return_, 1) := by decide +kernel
theorem dX12_derive_9 : decode cX12_derive 9 = .ok (.aload_n 0, 1) := by decide +kernel
theorem dX12_derive_10 : decode cX12_derive 10 = .ok (.invokevirtual 302, 3) := by decide +kernel
theorem dX12_derive_13 : decode cX12_derive 13 = .ok (.aload_n 0, 1) := by decide +kernel
theorem dX12_derive_14 : decode cX12_derive 14 = .ok (.aload_n 0, 1) := by decide +kernel
theorem dX12_derive_15 : decode cX12_derive 15 = .ok (.invokevirtual 231, 3) := by decide +kernel
theorem dX12_derive_18 : decode cX12_derive 18 = .ok (.putfield 26, 3) := by decide +kernel
theorem dX12_derive_21 : decode cX12_derive 21 = .ok (.iconst 0, 1) := by decide +kernel
theorem dX12_derive_22 : decode cX12_derive 22 = .ok (.istore_n 2, 1) := by decide +kernel
theorem dX12_derive_23 : decode cX12_derive 23 = .ok (.iload_n 2, 1) := by decide +kernel
theorem dX12_derive_24 : decode cX12_derive 24 = .ok (.aload_n 0, 1) := by decide +kernel
theorem dX12_derive_25 : decode cX12_derive 25 = .ok (.getfield 26, 3) := by decide +kernel
theorem dX12_derive_28 : decode cX12_derive 28 = .ok (.if_icmp .ge 21, 3) := by decide +kernel
theorem dX12_derive_31 : decode cX12_derive 31 = .ok (.aload_n 0, 1) := by decide +kernel
theorem dX12_derive_32 : decode cX12_derive 32 = .ok (.getfield 23, 3) := by decide +kernel
theorem dX12_derive_35 : decode cX12_derive 35 = .ok (.iload_n 2, 1) := by decide +kernel
theorem dX12_derive_36 : decode cX12_derive 36 = .ok (.aload_n 0, 1) := by decide +kernel
theorem dX12_derive_37 : decode cX12_derive 37 = .ok (.getfield 96, 3) := by decide +kernel
theorem dX12_derive_40 : decode cX12_derive 40 = .ok (.iload_n 2, 1) := by decide +kernel
theorem dX12_derive_41 : decode cX12_derive 41 = .ok (.iaload, 1) := by decide +kernel
theorem dX12_derive_42 : decode cX12_derive 42 = .ok (.iastore, 1) := by decide +kernel
theorem dX12_derive_43 : decode cX12_derive 43 = .ok (.iinc 2 1, 3) := by decide +kernel
theorem dX12_derive_46 : decode cX12_derive 46 = .ok (.goto (-23), 3) := by decide +kernel
theorem dX12_derive_49 : decode cX12_derive 49 = .ok (.return_, 1) := by decide +kernel
theorem dX12_sign_0 : decode cX12_sign 0 = .ok (.aload_n 0, 1) := by decide +kernel
theorem dX12_sign_1 : decode cX12_sign 1 = .ok (.iload_n 1, 1) := by decide +kernel
theorem dX12_sign_2 : decode cX12_sign 2 = .ok (.invokevirtual 334, 3) := by decide +kernel
theorem dX12_sign_5 : decode cX12_sign 5 = .ok (.ifCond .eq 4, 3) := by decide +kernel
theorem dX12_sign_8 : decode cX12_sign 8 = .ok (.return_, 1) := by decide +kernel
theorem dX12_sign_9 : decode cX12_sign 9 = .ok (.aload_n 0, 1) := by decide +kernel
theorem dX12_sign_10 : decode cX12_sign 10 = .ok (.iload_n 2, 1) := by decide +kernel
theorem dX12_sign_11 : decode cX12_sign 11 = .ok (.invokevirtual 340, 3) := by decide +kernel
theorem dX12_sign_14 : decode cX12_sign 14 = .ok (.return_, 1) := by decide +kernel
theorem dX12_verify_0 : decode cX12_verify 0 = .ok (.aload_n 0, 1) := by decide +kernel
theorem dX12_verify_1 : decode cX12_verify 1 = .ok (.iload_n 1, 1) := by decide +kernel
theorem dX12_verify_2 : decode cX12_verify 2 = .ok (.invokevirtual 334, 3) := by decide +kernel
theorem dX12_verify_5 : decode cX12_verify 5 = .ok (.ifCond .eq 5, 3) := by decide +kernel
theorem dX12_verify_8 : decode cX12_verify 8 = .ok (.iconst 0, 1) := by decide +kernel
theorem dX12_verify_9 : decode cX12_verify 9 = .ok (.ireturn, 1) := by decide +kernel
theorem dX12_verify_10 : decode cX12_verify 10 = .ok (.aload_n 0, 1) := by decide +kernel
theorem dX12_verify_11 : decode cX12_verify 11 = .ok (.iconst 0, 1) := by decide +kernel
theorem dX12_verify_12 : decode cX12_verify 12 = .ok (.putfield 26, 3) := by decide +kernel
theorem dX12_verify_15 : decode cX12_verify 15 = .ok (.aload_n 0, 1) := by decide +kernel
theorem dX12_verify_16 : decode cX12_verify 16 = .ok (.iload_n 2, 1) := by decide +kernel
theorem dX12_verify_17 : decode cX12_verify 17 = .ok (.invokevirtual 343, 3) := by decide +kernel
theorem dX12_verify_20 : decode cX12_verify 20 = .ok (.ireturn, 1) := by decide +kernel
theorem dX12_isPlace_0 : decode cX12_isPlace 0 = .ok (.iload_n 0, 1) := by decide +kernel
theorem dX12_isPlace_1 : decode cX12_isPlace 1 = .ok (.ifCond .lt 12, 3) := by decide +kernel
theorem dX12_isPlace_4 : decode cX12_isPlace 4 = .ok (.iload_n 0, 1) := by decide +kernel
theorem dX12_isPlace_5 : decode cX12_isPlace 5 = .ok (.iconst 3, 1) := by decide +kernel
theorem dX12_isPlace_6 : decode cX12_isPlace 6 = .ok (.if_icmp .ge 7, 3) := by decide +kernel
theorem dX12_isPlace_9 : decode cX12_isPlace 9 = .ok (.iconst 1, 1) := by decide +kernel
theorem dX12_isPlace_10 : decode cX12_isPlace 10 = .ok (.goto 4, 3) := by decide +kernel
theorem dX12_isPlace_13 : decode cX12_isPlace 13 = .ok (.iconst 0, 1) := by decide +kernel
theorem dX12_isPlace_14 : decode cX12_isPlace 14 = .ok (.ireturn, 1) := by decide +kernel
theorem dX12_point_0 : decode cX12_point 0 = .ok (.aload_n 0, 1) := by decide +kernel
theorem dX12_point_1 : decode cX12_point 1 = .ok (.iload_n 1, 1) := by decide +kernel
theorem dX12_point_2 : decode cX12_point 2 = .ok (.ifCond .lt 15, 3) := by decide +kernel
theorem dX12_point_5 : decode cX12_point 5 = .ok (.iload_n 1, 1) := by decide +kernel
theorem dX12_point_6 : decode cX12_point 6 = .ok (.iconst 1, 1) := by decide +kernel
theorem dX12_point_7 : decode cX12_point 7 = .ok (.if_icmp .gt 10, 3) := by decide +kernel
theorem dX12_point_10 : decode cX12_point 10 = .ok (.iload_n 2, 1) := by decide +kernel
theorem dX12_point_11 : decode cX12_point 11 = .ok (.invokestatic 347, 3) := by decide +kernel
theorem dX12_point_14 : decode cX12_point 14 = .ok (.ifCond .ne 7, 3) := by decide +kernel
theorem dX12_point_17 : decode cX12_point 17 = .ok (.iconst 1, 1) := by decide +kernel
theorem dX12_point_18 : decode cX12_point 18 = .ok (.goto 4, 3) := by decide +kernel
theorem dX12_point_21 : decode cX12_point 21 = .ok (.iconst 0, 1) := by decide +kernel
theorem dX12_point_22 : decode cX12_point 22 = .ok (.putfield 7, 3) := by decide +kernel
theorem dX12_point_25 : decode cX12_point 25 = .ok (.aload_n 0, 1) := by decide +kernel
theorem dX12_point_26 : decode cX12_point 26 = .ok (.getfield 7, 3) := by decide +kernel
theorem dX12_point_29 : decode cX12_point 29 = .ok (.ifCond .eq 5, 3) := by decide +kernel
theorem dX12_point_32 : decode cX12_point 32 = .ok (.iconst 0, 1) := by decide +kernel
theorem dX12_point_33 : decode cX12_point 33 = .ok (.ireturn, 1) := by decide +kernel
theorem dX12_point_34 : decode cX12_point 34 = .ok (.aload_n 0, 1) := by decide +kernel
theorem dX12_point_35 : decode cX12_point 35 = .ok (.iload_n 1, 1) := by decide +kernel
theorem dX12_point_36 : decode cX12_point 36 = .ok (.invokevirtual 131, 3) := by decide +kernel
theorem dX12_point_39 : decode cX12_point 39 = .ok (.aload_n 0, 1) := by decide +kernel
theorem dX12_point_40 : decode cX12_point 40 = .ok (.iconst 3, 1) := by decide +kernel
theorem dX12_point_41 : decode cX12_point 41 = .ok (.iload_n 2, 1) := by decide +kernel
theorem dX12_point_42 : decode cX12_point 42 = .ok (.imul, 1) := by decide +kernel
theorem dX12_point_43 : decode cX12_point 43 = .ok (.aload_n 0, 1) := by decide +kernel
theorem dX12_point_44 : decode cX12_point 44 = .ok (.getfield 17, 3) := by decide +kernel
theorem dX12_point_47 : decode cX12_point 47 = .ok (.iconst 0, 1) := by decide +kernel
theorem dX12_point_48 : decode cX12_point 48 = .ok (.invokevirtual 315, 3) := by decide +kernel
theorem dX12_point_51 : decode cX12_point 51 = .ok (.ifCond .ne 5, 3) := by decide +kernel
theorem dX12_point_54 : decode cX12_point 54 = .ok (.iconst 0, 1) := by decide +kernel
theorem dX12_point_55 : decode cX12_point 55 = .ok (.ireturn, 1) := by decide +kernel
theorem dX12_point_56 : decode cX12_point 56 = .ok (.aload_n 0, 1) := by decide +kernel
theorem dX12_point_57 : decode cX12_point 57 = .ok (.getfield 57, 3) := by decide +kernel
theorem dX12_point_60 : decode cX12_point 60 = .ok (.iload_n 2, 1) := by decide +kernel
theorem dX12_point_61 : decode cX12_point 61 = .ok (.iload_n 1, 1) := by decide +kernel
theorem dX12_point_62 : decode cX12_point 62 = .ok (.iastore, 1) := by decide +kernel
theorem dX12_point_63 : decode cX12_point 63 = .ok (.iconst 1, 1) := by decide +kernel
theorem dX12_point_64 : decode cX12_point 64 = .ok (.ireturn, 1) := by decide +kernel
theorem dX12_add_0 : decode cX12_add 0 = .ok (.aload_n 0, 1) := by decide +kernel
theorem dX12_add_1 : decode cX12_add 1 = .ok (.iload_n 1, 1) := by decide +kernel
theorem dX12_add_2 : decode cX12_add 2 = .ok (.invokestatic 347, 3) := by decide +kernel
theorem dX12_add_5 : decode cX12_add 5 = .ok (.ifCond .eq 17, 3) := by decide +kernel
theorem dX12_add_8 : decode cX12_add 8 = .ok (.iload_n 2, 1) := by decide +kernel
theorem dX12_add_9 : decode cX12_add 9 = .ok (.invokestatic 347, 3) := by decide +kernel
theorem dX12_add_12 : decode cX12_add 12 = .ok (.ifCond .eq 10, 3) := by decide +kernel
theorem dX12_add_15 : decode cX12_add 15 = .ok (.iload_n 3, 1) := by decide +kernel
theorem dX12_add_16 : decode cX12_add 16 = .ok (.invokestatic 347, 3) := by decide +kernel
theorem dX12_add_19 : decode cX12_add 19 = .ok (.ifCond .ne 7, 3) := by decide +kernel
theorem dX12_add_22 : decode cX12_add 22 = .ok (.iconst 1, 1) := by decide +kernel
theorem dX12_add_23 : decode cX12_add 23 = .ok (.goto 23, 3) := by decide +kernel
theorem dX12_add_26 : decode cX12_add 26 = .ok (.aload_n 0, 1) := by decide +kernel
theorem dX12_add_27 : decode cX12_add 27 = .ok (.getfield 57, 3) := by decide +kernel
theorem dX12_add_30 : decode cX12_add 30 = .ok (.iload_n 2, 1) := by decide +kernel
theorem dX12_add_31 : decode cX12_add 31 = .ok (.iaload, 1) := by decide +kernel
theorem dX12_add_32 : decode cX12_add 32 = .ok (.aload_n 0, 1) := by decide +kernel
theorem dX12_add_33 : decode cX12_add 33 = .ok (.getfield 57, 3) := by decide +kernel
theorem dX12_add_36 : decode cX12_add 36 = .ok (.iload_n 3, 1) := by decide +kernel
theorem dX12_add_37 : decode cX12_add 37 = .ok (.iaload, 1) := by decide +kernel
theorem dX12_add_38 : decode cX12_add 38 = .ok (.if_icmp .eq 7, 3) := by decide +kernel
theorem dX12_add_41 : decode cX12_add 41 = .ok (.iconst 2, 1) := by decide +kernel
theorem dX12_add_42 : decode cX12_add 42 = .ok (.goto 4, 3) := by decide +kernel
theorem dX12_add_45 : decode cX12_add 45 = .ok (.iconst 0, 1) := by decide +kernel
theorem dX12_add_46 : decode cX12_add 46 = .ok (.putfield 7, 3) := by decide +kernel
theorem dX12_add_49 : decode cX12_add 49 = .ok (.aload_n 0, 1) := by decide +kernel
theorem dX12_add_50 : decode cX12_add 50 = .ok (.getfield 7, 3) := by decide +kernel
theorem dX12_add_53 : decode cX12_add 53 = .ok (.ifCond .eq 4, 3) := by decide +kernel
theorem dX12_add_56 : decode cX12_add 56 = .ok (.return_, 1) := by decide +kernel
theorem dX12_add_57 : decode cX12_add 57 = .ok (.aload_n 0, 1) := by decide +kernel
theorem dX12_add_58 : decode cX12_add 58 = .ok (.aload_n 0, 1) := by decide +kernel
theorem dX12_add_59 : decode cX12_add 59 = .ok (.getfield 57, 3) := by decide +kernel
theorem dX12_add_62 : decode cX12_add 62 = .ok (.iload_n 2, 1) := by decide +kernel
theorem dX12_add_63 : decode cX12_add 63 = .ok (.iaload, 1) := by decide +kernel
theorem dX12_add_64 : decode cX12_add 64 = .ok (.invokevirtual 131, 3) := by decide +kernel
theorem dX12_add_67 : decode cX12_add 67 = .ok (.aload_n 0, 1) := by decide +kernel
theorem dX12_add_68 : decode cX12_add 68 = .ok (.bipush 54, 2) := by decide +kernel
theorem dX12_add_70 : decode cX12_add 70 = .ok (.iconst 3, 1) := by decide +kernel
theorem dX12_add_71 : decode cX12_add 71 = .ok (.iload_n 3, 1) := by decide +kernel
theorem dX12_add_72 : decode cX12_add 72 = .ok (.imul, 1) := by decide +kernel
theorem dX12_add_73 : decode cX12_add 73 = .ok (.invokevirtual 221, 3) := by decide +kernel
theorem dX12_add_76 : decode cX12_add 76 = .ok (.iload 4, 2) := by decide +kernel
theorem dX12_add_78 : decode cX12_add 78 = .ok (.ifCond .eq 9, 3) := by decide +kernel
theorem dX12_add_81 : decode cX12_add 81 = .ok (.aload_n 0, 1) := by decide +kernel
theorem dX12_add_82 : decode cX12_add 82 = .ok (.bipush 54, 2) := by decide +kernel
theorem dX12_add_84 : decode cX12_add 84 = .ok (.invokevirtual 350, 3) := by decide +kernel
theorem dX12_add_87 : decode cX12_add 87 = .ok (.aload_n 0, 1) := by decide +kernel
theorem dX12_add_88 : decode cX12_add 88 = .ok (.bipush 57, 2) := by decide +kernel
theorem dX12_add_90 : decode cX12_add 90 = .ok (.iconst 3, 1) := by decide +kernel
theorem dX12_add_91 : decode cX12_add 91 = .ok (.iload_n 2, 1) := by decide +kernel
theorem dX12_add_92 : decode cX12_add 92 = .ok (.imul, 1) := by decide +kernel
theorem dX12_add_93 : decode cX12_add 93 = .ok (.bipush 54, 2) := by decide +kernel
theorem dX12_add_95 : decode cX12_add 95 = .ok (.invokevirtual 224, 3) := by decide +kernel
theorem dX12_add_98 : decode cX12_add 98 = .ok (.aload_n 0, 1) := by decide +kernel
theorem dX12_add_99 : decode cX12_add 99 = .ok (.iconst 3, 1) := by decide +kernel
theorem dX12_add_100 : decode cX12_add 100 = .ok (.iload_n 1, 1) := by decide +kernel
theorem dX12_add_101 : decode cX12_add 101 = .ok (.imul, 1) := by decide +kernel
theorem dX12_add_102 : decode cX12_add 102 = .ok (.bipush 57, 2) := by decide +kernel
theorem dX12_add_104 : decode cX12_add 104 = .ok (.invokevirtual 221, 3) := by decide +kernel
theorem dX12_add_107 : decode cX12_add 107 = .ok (.aload_n 0, 1) := by decide +kernel
theorem dX12_add_108 : decode cX12_add 108 = .ok (.getfield 57, 3) := by decide +kernel
theorem dX12_add_111 : decode cX12_add 111 = .ok (.iload_n 1, 1) := by decide +kernel
theorem dX12_add_112 : decode cX12_add 112 = .ok (.aload_n 0, 1) := by decide +kernel
theorem dX12_add_113 : decode cX12_add 113 = .ok (.getfield 51, 3) := by decide +kernel
theorem dX12_add_116 : decode cX12_add 116 = .ok (.iastore, 1) := by decide +kernel
theorem dX12_add_117 : decode cX12_add 117 = .ok (.return_, 1) := by decide +kernel
theorem dX12_times_0 : decode cX12_times 0 = .ok (.aload_n 0, 1) := by decide +kernel
theorem dX12_times_1 : decode cX12_times 1 = .ok (.iload_n 1, 1) := by decide +kernel
theorem dX12_times_2 : decode cX12_times 2 = .ok (.invokestatic 347, 3) := by decide +kernel
theorem dX12_times_5 : decode cX12_times 5 = .ok (.ifCond .eq 10, 3) := by decide +kernel
theorem dX12_times_8 : decode cX12_times 8 = .ok (.iload_n 2, 1) := by decide +kernel
theorem dX12_times_9 : decode cX12_times 9 = .ok (.invokestatic 347, 3) := by decide +kernel
theorem dX12_times_12 : decode cX12_times 12 = .ok (.ifCond .ne 7, 3) := by decide +kernel
theorem dX12_times_15 : decode cX12_times 15 = .ok (.iconst 1, 1) := by decide +kernel
theorem dX12_times_16 : decode cX12_times 16 = .ok (.goto 4, 3) := by decide +kernel
theorem dX12_times_19 : decode cX12_times 19 = .ok (.iconst 0, 1) := by decide +kernel
theorem dX12_times_20 : decode cX12_times 20 = .ok (.putfield 7, 3) := by decide +kernel
theorem dX12_times_23 : decode cX12_times 23 = .ok (.aload_n 0, 1) := by decide +kernel
theorem dX12_times_24 : decode cX12_times 24 = .ok (.getfield 7, 3) := by decide +kernel
theorem dX12_times_27 : decode cX12_times 27 = .ok (.ifCond .eq 4, 3) := by decide +kernel
theorem dX12_times_30 : decode cX12_times 30 = .ok (.return_, 1) := by decide +kernel
theorem dX12_times_31 : decode cX12_times 31 = .ok (.aload_n 0, 1) := by decide +kernel
theorem dX12_times_32 : decode cX12_times 32 = .ok (.aload_n 0, 1) := by decide +kernel
theorem dX12_times_33 : decode cX12_times 33 = .ok (.getfield 57, 3) := by decide +kernel
theorem dX12_times_36 : decode cX12_times 36 = .ok (.iload_n 2, 1) := by decide +kernel
theorem dX12_times_37 : decode cX12_times 37 = .ok (.iaload, 1) := by decide +kernel
theorem dX12_times_38 : decode cX12_times 38 = .ok (.invokevirtual 131, 3) := by decide +kernel
theorem dX12_times_41 : decode cX12_times 41 = .ok (.aload_n 0, 1) := by decide +kernel
theorem dX12_times_42 : decode cX12_times 42 = .ok (.iconst 3, 1) := by decide +kernel
theorem dX12_times_43 : decode cX12_times 43 = .ok (.iload_n 1, 1) := by decide +kernel
theorem dX12_times_44 : decode cX12_times 44 = .ok (.imul, 1) := by decide +kernel
theorem dX12_times_45 : decode cX12_times 45 = .ok (.iconst 3, 1) := by decide +kernel
theorem dX12_times_46 : decode cX12_times 46 = .ok (.iload_n 2, 1) := by decide +kernel
theorem dX12_times_47 : decode cX12_times 47 = .ok (.imul, 1) := by decide +kernel
theorem dX12_times_48 : decode cX12_times 48 = .ok (.aload_n 0, 1) := by decide +kernel
theorem dX12_times_49 : decode cX12_times 49 = .ok (.getfield 13, 3) := by decide +kernel
theorem dX12_times_52 : decode cX12_times 52 = .ok (.aload_n 0, 1) := by decide +kernel
theorem dX12_times_53 : decode cX12_times 53 = .ok (.invokevirtual 231, 3) := by decide +kernel
theorem dX12_times_56 : decode cX12_times 56 = .ok (.invokevirtual 292, 3) := by decide +kernel
theorem dX12_times_59 : decode cX12_times 59 = .ok (.aload_n 0, 1) := by decide +kernel
theorem dX12_times_60 : decode cX12_times 60 = .ok (.getfield 57, 3) := by decide +kernel
theorem dX12_times_63 : decode cX12_times 63 = .ok (.iload_n 1, 1) := by decide +kernel
theorem dX12_times_64 : decode cX12_times 64 = .ok (.aload_n 0, 1) := by decide +kernel
theorem dX12_times_65 : decode cX12_times 65 = .ok (.getfield 51, 3) := by decide +kernel
theorem dX12_times_68 : decode cX12_times 68 = .ok (.iastore, 1) := by decide +kernel
theorem dX12_times_69 : decode cX12_times 69 = .ok (.return_, 1) := by decide +kernel
theorem dX12_code_0 : decode cX12_code 0 = .ok (.aload_n 0, 1) := by decide +kernel
theorem dX12_code_1 : decode cX12_code 1 = .ok (.iload_n 1, 1) := by decide +kernel
theorem dX12_code_2 : decode cX12_code 2 = .ok (.invokestatic 347, 3) := by decide +kernel
theorem dX12_code_5 : decode cX12_code 5 = .ok (.ifCond .eq 7, 3) := by decide +kernel
theorem dX12_code_8 : decode cX12_code 8 = .ok (.iconst 0, 1) := by decide +kernel
theorem dX12_code_9 : decode cX12_code 9 = .ok (.goto 4, 3) := by decide +kernel
theorem dX12_code_12 : decode cX12_code 12 = .ok (.iconst 1, 1) := by decide +kernel
theorem dX12_code_13 : decode cX12_code 13 = .ok (.putfield 7, 3) := by decide +kernel
theorem dX12_code_16 : decode cX12_code 16 = .ok (.aload_n 0, 1) := by decide +kernel
theorem dX12_code_17 : decode cX12_code 17 = .ok (.getfield 7, 3) := by decide +kernel
theorem dX12_code_20 : decode cX12_code 20 = .ok (.ifCond .eq 4, 3) := by decide +kernel
theorem dX12_code_23 : decode cX12_code 23 = .ok (.return_, 1) := by decide +kernel
theorem dX12_code_24 : decode cX12_code 24 = .ok (.aload_n 0, 1) := by decide +kernel
theorem dX12_code_25 : decode cX12_code 25 = .ok (.aload_n 0, 1) := by decide +kernel
theorem dX12_code_26 : decode cX12_code 26 = .ok (.getfield 57, 3) := by decide +kernel
theorem dX12_code_29 : decode cX12_code 29 = .ok (.iload_n 1, 1) := by decide +kernel
theorem dX12_code_30 : decode cX12_code 30 = .ok (.iaload, 1) := by decide +kernel
theorem dX12_code_31 : decode cX12_code 31 = .ok (.invokevirtual 131, 3) := by decide +kernel
theorem dX12_code_34 : decode cX12_code 34 = .ok (.aload_n 0, 1) := by decide +kernel
theorem dX12_code_35 : decode cX12_code 35 = .ok (.iconst 3, 1) := by decide +kernel
theorem dX12_code_36 : decode cX12_code 36 = .ok (.iload_n 1, 1) := by decide +kernel
theorem dX12_code_37 : decode cX12_code 37 = .ok (.imul, 1) := by decide +kernel
theorem dX12_code_38 : decode cX12_code 38 = .ok (.invokevirtual 296, 3) := by decide +kernel
theorem dX12_code_41 : decode cX12_code 41 = .ok (.aload_n 0, 1) := by decide +kernel
theorem dX12_code_42 : decode cX12_code 42 = .ok (.aload_n 0, 1) := by decide +kernel
theorem dX12_code_43 : decode cX12_code 43 = .ok (.invokevirtual 231, 3) := by decide +kernel
theorem dX12_code_46 : decode cX12_code 46 = .ok (.putfield 26, 3) := by decide +kernel
theorem dX12_code_49 : decode cX12_code 49 = .ok (.iconst 0, 1) := by decide +kernel
theorem dX12_code_50 : decode cX12_code 50 = .ok (.istore_n 2, 1) := by decide +kernel
theorem dX12_code_51 : decode cX12_code 51 = .ok (.iload_n 2, 1) := by decide +kernel
theorem dX12_code_52 : decode cX12_code 52 = .ok (.aload_n 0, 1) := by decide +kernel
theorem dX12_code_53 : decode cX12_code 53 = .ok (.getfield 26, 3) := by decide +kernel
theorem dX12_code_56 : decode cX12_code 56 = .ok (.if_icmp .ge 21, 3) := by decide +kernel
theorem dX12_code_59 : decode cX12_code 59 = .ok (.aload_n 0, 1) := by decide +kernel
theorem dX12_code_60 : decode cX12_code 60 = .ok (.getfield 23, 3) := by decide +kernel
theorem dX12_code_63 : decode cX12_code 63 = .ok (.iload_n 2, 1) := by decide +kernel
theorem dX12_code_64 : decode cX12_code 64 = .ok (.aload_n 0, 1) := by decide +kernel
theorem dX12_code_65 : decode cX12_code 65 = .ok (.getfield 111, 3) := by decide +kernel
theorem dX12_code_68 : decode cX12_code 68 = .ok (.iload_n 2, 1) := by decide +kernel
theorem dX12_code_69 : decode cX12_code 69 = .ok (.iaload, 1) := by decide +kernel
theorem dX12_code_70 : decode cX12_code 70 = .ok (.iastore, 1) := by decide +kernel
theorem dX12_code_71 : decode cX12_code 71 = .ok (.iinc 2 1, 3) := by decide +kernel
theorem dX12_code_74 : decode cX12_code 74 = .ok (.goto (-23), 3) := by decide +kernel
theorem dX12_code_77 : decode cX12_code 77 = .ok (.return_, 1) := by decide +kernel
theorem dX12_same_0 : decode cX12_same 0 = .ok (.aload_n 0, 1) := by decide +kernel
theorem dX12_same_1 : decode cX12_same 1 = .ok (.iload_n 1, 1) := by decide +kernel
theorem dX12_same_2 : decode cX12_same 2 = .ok (.invokestatic 347, 3) := by decide +kernel
theorem dX12_same_5 : decode cX12_same 5 = .ok (.ifCond .eq 10, 3) := by decide +kernel
theorem dX12_same_8 : decode cX12_same 8 = .ok (.iload_n 2, 1) := by decide +kernel
theorem dX12_same_9 : decode cX12_same 9 = .ok (.invokestatic 347, 3) := by decide +kernel
theorem dX12_same_12 : decode cX12_same 12 = .ok (.ifCond .ne 7, 3) := by decide +kernel
theorem dX12_same_15 : decode cX12_same 15 = .ok (.iconst 1, 1) := by decide +kernel
theorem dX12_same_16 : decode cX12_same 16 = .ok (.goto 4, 3) := by decide +kernel
theorem dX12_same_19 : decode cX12_same 19 = .ok (.iconst 0, 1) := by decide +kernel
theorem dX12_same_20 : decode cX12_same 20 = .ok (.putfield 7, 3) := by decide +kernel
theorem dX12_same_23 : decode cX12_same 23 = .ok (.aload_n 0, 1) := by decide +kernel
theorem dX12_same_24 : decode cX12_same 24 = .ok (.getfield 7, 3) := by decide +kernel
theorem dX12_same_27 : decode cX12_same 27 = .ok (.ifCond .ne 18, 3) := by decide +kernel
theorem dX12_same_30 : decode cX12_same 30 = .ok (.aload_n 0, 1) := by decide +kernel
theorem dX12_same_31 : decode cX12_same 31 = .ok (.getfield 57, 3) := by decide +kernel
theorem dX12_same_34 : decode cX12_same 34 = .ok (.iload_n 1, 1) := by decide +kernel
theorem dX12_same_35 : decode cX12_same 35 = .ok (.iaload, 1) := by decide +kernel
theorem dX12_same_36 : decode cX12_same 36 = .ok (.aload_n 0, 1) := by decide +kernel
theorem dX12_same_37 : decode cX12_same 37 = .ok (.getfield 57, 3) := by decide +kernel
theorem dX12_same_40 : decode cX12_same 40 = .ok (.iload_n 2, 1) := by decide +kernel
theorem dX12_same_41 : decode cX12_same 41 = .ok (.iaload, 1) := by decide +kernel
theorem dX12_same_42 : decode cX12_same 42 = .ok (.if_icmp .eq 5, 3) := by decide +kernel
theorem dX12_same_45 : decode cX12_same 45 = .ok (.iconst 0, 1) := by decide +kernel
theorem dX12_same_46 : decode cX12_same 46 = .ok (.ireturn, 1) := by decide +kernel
theorem dX12_same_47 : decode cX12_same 47 = .ok (.aload_n 0, 1) := by decide +kernel
theorem dX12_same_48 : decode cX12_same 48 = .ok (.aload_n 0, 1) := by decide +kernel
theorem dX12_same_49 : decode cX12_same 49 = .ok (.getfield 57, 3) := by decide +kernel
theorem dX12_same_52 : decode cX12_same 52 = .ok (.iload_n 1, 1) := by decide +kernel
theorem dX12_same_53 : decode cX12_same 53 = .ok (.iaload, 1) := by decide +kernel
theorem dX12_same_54 : decode cX12_same 54 = .ok (.invokevirtual 131, 3) := by decide +kernel
theorem dX12_same_57 : decode cX12_same 57 = .ok (.aload_n 0, 1) := by decide +kernel
theorem dX12_same_58 : decode cX12_same 58 = .ok (.iconst 3, 1) := by decide +kernel
theorem dX12_same_59 : decode cX12_same 59 = .ok (.iload_n 1, 1) := by decide +kernel
theorem dX12_same_60 : decode cX12_same 60 = .ok (.imul, 1) := by decide +kernel
theorem dX12_same_61 : decode cX12_same 61 = .ok (.iconst 3, 1) := by decide +kernel
theorem dX12_same_62 : decode cX12_same 62 = .ok (.iload_n 2, 1) := by decide +kernel
theorem dX12_same_63 : decode cX12_same 63 = .ok (.imul, 1) := by decide +kernel
theorem dX12_same_64 : decode cX12_same 64 = .ok (.invokevirtual 319, 3) := by decide +kernel
theorem dX12_same_67 : decode cX12_same 67 = .ok (.ireturn, 1) := by decide +kernel
theorem dX12_order_0 : decode cX12_order 0 = .ok (.aload_n 0, 1) := by decide +kernel
theorem dX12_order_1 : decode cX12_order 1 = .ok (.iload_n 1, 1) := by decide +kernel
theorem dX12_order_2 : decode cX12_order 2 = .ok (.invokestatic 347, 3) := by decide +kernel
theorem dX12_order_5 : decode cX12_order 5 = .ok (.ifCond .eq 12, 3) := by decide +kernel
theorem dX12_order_8 : decode cX12_order 8 = .ok (.iload_n 2, 1) := by decide +kernel
theorem dX12_order_9 : decode cX12_order 9 = .ok (.ifCond .lt 8, 3) := by decide +kernel
theorem dX12_order_12 : decode cX12_order 12 = .ok (.iload_n 2, 1) := by decide +kernel
theorem dX12_order_13 : decode cX12_order 13 = .ok (.iconst 2, 1) := by decide +kernel
theorem dX12_order_14 : decode cX12_order 14 = .ok (.if_icmp .le 7, 3) := by decide +kernel
theorem dX12_order_17 : decode cX12_order 17 = .ok (.iconst 1, 1) := by decide +kernel
theorem dX12_order_18 : decode cX12_order 18 = .ok (.goto 4, 3) := by decide +kernel
theorem dX12_order_21 : decode cX12_order 21 = .ok (.iconst 0, 1) := by decide +kernel
theorem dX12_order_22 : decode cX12_order 22 = .ok (.putfield 7, 3) := by decide +kernel
theorem dX12_order_25 : decode cX12_order 25 = .ok (.aload_n 0, 1) := by decide +kernel
theorem dX12_order_26 : decode cX12_order 26 = .ok (.getfield 7, 3) := by decide +kernel
theorem dX12_order_29 : decode cX12_order 29 = .ok (.ifCond .eq 5, 3) := by decide +kernel
theorem dX12_order_32 : decode cX12_order 32 = .ok (.iconst 0, 1) := by decide +kernel
theorem dX12_order_33 : decode cX12_order 33 = .ok (.ireturn, 1) := by decide +kernel
theorem dX12_order_34 : decode cX12_order 34 = .ok (.aload_n 0, 1) := by decide +kernel
theorem dX12_order_35 : decode cX12_order 35 = .ok (.aload_n 0, 1) := by decide +kernel
theorem dX12_order_36 : decode cX12_order 36 = .ok (.getfield 57, 3) := by decide +kernel
theorem dX12_order_39 : decode cX12_order 39 = .ok (.iload_n 1, 1) := by decide +kernel
theorem dX12_order_40 : decode cX12_order 40 = .ok (.iaload, 1) := by decide +kernel
theorem dX12_order_41 : decode cX12_order 41 = .ok (.invokevirtual 131, 3) := by decide +kernel
theorem dX12_order_44 : decode cX12_order 44 = .ok (.iload_n 2, 1) := by decide +kernel
theorem dX12_order_45 : decode cX12_order 45 = .ok (.iconst 2, 1) := by decide +kernel
theorem dX12_order_46 : decode cX12_order 46 = .ok (.if_icmp .ne 8, 3) := by decide +kernel
theorem dX12_order_49 : decode cX12_order 49 = .ok (.aload_n 0, 1) := by decide +kernel
theorem dX12_order_50 : decode cX12_order 50 = .ok (.getfield 51, 3) := by decide +kernel
theorem dX12_order_53 : decode cX12_order 53 = .ok (.ireturn, 1) := by decide +kernel
theorem dX12_order_54 : decode cX12_order 54 = .ok (.iload_n 2, 1) := by decide +kernel
theorem dX12_order_55 : decode cX12_order 55 = .ok (.ifCond .ne 19, 3) := by decide +kernel
theorem dX12_order_58 : decode cX12_order 58 = .ok (.aload_n 0, 1) := by decide +kernel
theorem dX12_order_59 : decode cX12_order 59 = .ok (.iconst 3, 1) := by decide +kernel
theorem dX12_order_60 : decode cX12_order 60 = .ok (.iload_n 1, 1) := by decide +kernel
theorem dX12_order_61 : decode cX12_order 61 = .ok (.imul, 1) := by decide +kernel
theorem dX12_order_62 : decode cX12_order 62 = .ok (.invokevirtual 353, 3) := by decide +kernel
theorem dX12_order_65 : decode cX12_order 65 = .ok (.ifCond .eq 7, 3) := by decide +kernel
theorem dX12_order_68 : decode cX12_order 68 = .ok (.iconst 1, 1) := by decide +kernel
theorem dX12_order_69 : decode cX12_order 69 = .ok (.goto 4, 3) := by decide +kernel
theorem dX12_order_72 : decode cX12_order 72 = .ok (.iconst 0, 1) := by decide +kernel
theorem dX12_order_73 : decode cX12_order 73 = .ok (.ireturn, 1) := by decide +kernel
theorem dX12_order_74 : decode cX12_order 74 = .ok (.aload_n 0, 1) := by decide +kernel
theorem dX12_order_75 : decode cX12_order 75 = .ok (.bipush 54, 2) := by decide +kernel
theorem dX12_order_77 : decode cX12_order 77 = .ok (.iconst 3, 1) := by decide +kernel
theorem dX12_order_78 : decode cX12_order 78 = .ok (.iload_n 1, 1) := by decide +kernel
theorem dX12_order_79 : decode cX12_order 79 = .ok (.imul, 1) := by decide +kernel
theorem dX12_order_80 : decode cX12_order 80 = .ok (.invokevirtual 221, 3) := by decide +kernel
theorem dX12_order_83 : decode cX12_order 83 = .ok (.iconst 1, 1) := by decide +kernel
theorem dX12_order_84 : decode cX12_order 84 = .ok (.istore_n 3, 1) := by decide +kernel
theorem dX12_order_85 : decode cX12_order 85 = .ok (.iload_n 3, 1) := by decide +kernel
theorem dX12_order_86 : decode cX12_order 86 = .ok (.bipush 9, 2) := by decide +kernel
theorem dX12_order_88 : decode cX12_order 88 = .ok (.if_icmp .ge 31, 3) := by decide +kernel
theorem dX12_order_91 : decode cX12_order 91 = .ok (.aload_n 0, 1) := by decide +kernel
theorem dX12_order_92 : decode cX12_order 92 = .ok (.bipush 54, 2) := by decide +kernel
theorem dX12_order_94 : decode cX12_order 94 = .ok (.invokevirtual 353, 3) := by decide +kernel
theorem dX12_order_97 : decode cX12_order 97 = .ok (.ifCond .eq 5, 3) := by decide +kernel
theorem dX12_order_100 : decode cX12_order 100 = .ok (.iload_n 3, 1) := by decide +kernel
theorem dX12_order_101 : decode cX12_order 101 = .ok (.ireturn, 1) := by decide +kernel
theorem dX12_order_102 : decode cX12_order 102 = .ok (.aload_n 0, 1) := by decide +kernel
theorem dX12_order_103 : decode cX12_order 103 = .ok (.bipush 54, 2) := by decide +kernel
theorem dX12_order_105 : decode cX12_order 105 = .ok (.bipush 54, 2) := by decide +kernel
theorem dX12_order_107 : decode cX12_order 107 = .ok (.bipush 54, 2) := by decide +kernel
theorem dX12_order_109 : decode cX12_order 109 = .ok (.invokevirtual 224, 3) := by decide +kernel
theorem dX12_order_112 : decode cX12_order 112 = .ok (.iconst 2, 1) := by decide +kernel
theorem dX12_order_113 : decode cX12_order 113 = .ok (.iload_n 3, 1) := by decide +kernel
theorem dX12_order_114 : decode cX12_order 114 = .ok (.imul, 1) := by decide +kernel
theorem dX12_order_115 : decode cX12_order 115 = .ok (.istore_n 3, 1) := by decide +kernel
theorem dX12_order_116 : decode cX12_order 116 = .ok (.goto (-31), 3) := by decide +kernel
theorem dX12_order_119 : decode cX12_order 119 = .ok (.iconst 0, 1) := by decide +kernel
theorem dX12_order_120 : decode cX12_order 120 = .ok (.ireturn, 1) := by decide +kernel
theorem dJ9_min_7cf53_0 : decode cJ9_min_7cf53 0 = .ok (.iload_n 0, 1) := by decide +kernel
theorem dJ9_min_7cf53_1 : decode cJ9_min_7cf53 1 = .ok (.iload_n 1, 1) := by decide +kernel
theorem dJ9_min_7cf53_2 : decode cJ9_min_7cf53 2 = .ok (.if_icmp .gt 7, 3) := by decide +kernel
theorem dJ9_min_7cf53_5 : decode cJ9_min_7cf53 5 = .ok (.iload_n 0, 1) := by decide +kernel
theorem dJ9_min_7cf53_6 : decode cJ9_min_7cf53 6 = .ok (.goto 4, 3) := by decide +kernel
theorem dJ9_min_7cf53_9 : decode cJ9_min_7cf53 9 = .ok (.iload_n 1, 1) := by decide +kernel
theorem dJ9_min_7cf53_10 : decode cJ9_min_7cf53 10 = .ok (.ireturn, 1) := by decide +kernel
theorem dJ0_length_8abf5_0 : decode cJ0_length_8abf5 0 = .ok (.aload_n 0, 1) := by decide +kernel
theorem dJ0_length_8abf5_1 : decode cJ0_length_8abf5 1 = .ok (.getfield 9, 3) := by decide +kernel
theorem dJ0_length_8abf5_4 : decode cJ0_length_8abf5 4 = .ok (.arraylength, 1) := by decide +kernel
theorem dJ0_length_8abf5_5 : decode cJ0_length_8abf5 5 = .ok (.aload_n 0, 1) := by decide +kernel
theorem dJ0_length_8abf5_6 : decode cJ0_length_8abf5 6 = .ok (.invokevirtual 335, 3) := by decide +kernel
theorem dJ0_length_8abf5_9 : decode cJ0_length_8abf5 9 = .ok (.ishr, 1) := by decide +kernel
theorem dJ0_length_8abf5_10 : decode cJ0_length_8abf5 10 = .ok (.ireturn, 1) := by decide +kernel
theorem dJ0_charAt_5068e_0 : decode cJ0_charAt_5068e 0 = .ok (.aload_n 0, 1) := by decide +kernel
theorem dJ0_charAt_5068e_1 : decode cJ0_charAt_5068e 1 = .ok (.invokevirtual 492, 3) := by decide +kernel
theorem dJ0_charAt_5068e_4 : decode cJ0_charAt_5068e 4 = .ok (.ifCond .eq 12, 3) := by decide +kernel
theorem dJ0_charAt_5068e_7 : decode cJ0_charAt_5068e 7 = .ok (.aload_n 0, 1) := by decide +kernel
theorem dJ0_charAt_5068e_8 : decode cJ0_charAt_5068e 8 = .ok (.getfield 9, 3) := by decide +kernel
theorem dJ0_charAt_5068e_11 : decode cJ0_charAt_5068e 11 = .ok (.iload_n 1, 1) := by decide +kernel
theorem dJ0_charAt_5068e_12 : decode cJ0_charAt_5068e 12 = .ok (.invokestatic 495, 3) := by decide +kernel
theorem dJ0_charAt_5068e_15 : decode cJ0_charAt_5068e 15 = .ok (.ireturn, 1) := by decide +kernel
theorem dJ0_charAt_5068e_16 : decode cJ0_charAt_5068e 16 = .ok (.aload_n 0, 1) := by decide +kernel
theorem dJ0_charAt_5068e_17 : decode cJ0_charAt_5068e 17 = .ok (.getfield 9, 3) := by decide +kernel
theorem dJ0_charAt_5068e_20 : decode cJ0_charAt_5068e 20 = .ok (.iload_n 1, 1) := by decide +kernel
theorem dJ0_charAt_5068e_21 : decode cJ0_charAt_5068e 21 = .ok (.invokestatic 498, 3) := by decide +kernel
theorem dJ0_charAt_5068e_24 : decode cJ0_charAt_5068e 24 = .ok (.ireturn, 1) := by decide +kernel
theorem dJ0_coder_7d493_0 : decode cJ0_coder_7d493 0 = .ok (.getstatic 38, 3) := by decide +kernel
theorem dJ0_coder_7d493_3 : decode cJ0_coder_7d493 3 = .ok (.ifCond .eq 10, 3) := by decide +kernel
theorem dJ0_coder_7d493_6 : decode cJ0_coder_7d493 6 = .ok (.aload_n 0, 1) := by decide +kernel
theorem dJ0_coder_7d493_7 : decode cJ0_coder_7d493 7 = .ok (.getfield 15, 3) := by decide +kernel
theorem dJ0_coder_7d493_10 : decode cJ0_coder_7d493 10 = .ok (.goto 4, 3) := by decide +kernel
theorem dJ0_coder_7d493_13 : decode cJ0_coder_7d493 13 = .ok (.iconst 1, 1) := by decide +kernel
theorem dJ0_coder_7d493_14 : decode cJ0_coder_7d493 14 = .ok (.ireturn, 1) := by decide +kernel
theorem dJ0_isLatin1_aae02_0 : decode cJ0_isLatin1_aae02 0 = .ok (.getstatic 38, 3) := by decide +kernel
theorem dJ0_isLatin1_aae02_3 : decode cJ0_isLatin1_aae02 3 = .ok (.ifCond .eq 14, 3) := by decide +kernel
theorem dJ0_isLatin1_aae02_6 : decode cJ0_isLatin1_aae02 6 = .ok (.aload_n 0, 1) := by decide +kernel
theorem dJ0_isLatin1_aae02_7 : decode cJ0_isLatin1_aae02 7 = .ok (.getfield 15, 3) := by decide +kernel
theorem dJ0_isLatin1_aae02_10 : decode cJ0_isLatin1_aae02 10 = .ok (.ifCond .ne 7, 3) := by decide +kernel
theorem dJ0_isLatin1_aae02_13 : decode cJ0_isLatin1_aae02 13 = .ok (.iconst 1, 1) := by decide +kernel
theorem dJ0_isLatin1_aae02_14 : decode cJ0_isLatin1_aae02 14 = .ok (.goto 4, 3) := by decide +kernel
theorem dJ0_isLatin1_aae02_17 : decode cJ0_isLatin1_aae02 17 = .ok (.iconst 0, 1) := by decide +kernel
theorem dJ0_isLatin1_aae02_18 : decode cJ0_isLatin1_aae02 18 = .ok (.ireturn, 1) := by decide +kernel
theorem dJ0_checkIndex_df160_0 : decode cJ0_checkIndex_df160 0 = .ok (.iload_n 0, 1) := by decide +kernel
theorem dJ0_checkIndex_df160_1 : decode cJ0_checkIndex_df160 1 = .ok (.iload_n 1, 1) := by decide +kernel
theorem dJ0_checkIndex_df160_2 : decode cJ0_checkIndex_df160 2 = .ok (.getstatic 1053, 3) := by decide +kernel
theorem dJ0_checkIndex_df160_5 : decode cJ0_checkIndex_df160 5 = .ok (.invokestatic 1059, 3) := by decide +kernel
theorem dJ0_checkIndex_df160_8 : decode cJ0_checkIndex_df160 8 = .ok (.pop, 1) := by decide +kernel
theorem dJ0_checkIndex_df160_9 : decode cJ0_checkIndex_df160 9 = .ok (.return_, 1) := by decide +kernel
theorem dJ1_charAt_3b067_0 : decode cJ1_charAt_3b067 0 = .ok (.iload_n 1, 1) := by decide +kernel
theorem dJ1_charAt_3b067_1 : decode cJ1_charAt_3b067 1 = .ok (.aload_n 0, 1) := by decide +kernel
theorem dJ1_charAt_3b067_2 : decode cJ1_charAt_3b067 2 = .ok (.arraylength, 1) := by decide +kernel
theorem dJ1_charAt_3b067_3 : decode cJ1_charAt_3b067 3 = .ok (.invokestatic 9, 3) := by decide +kernel
theorem dJ1_charAt_3b067_6 : decode cJ1_charAt_3b067 6 = .ok (.aload_n 0, 1) := by decide +kernel
theorem dJ1_charAt_3b067_7 : decode cJ1_charAt_3b067 7 = .ok (.iload_n 1, 1) := by decide +kernel
theorem dJ1_charAt_3b067_8 : decode cJ1_charAt_3b067 8 = .ok (.baload, 1) := by decide +kernel
theorem dJ1_charAt_3b067_9 : decode cJ1_charAt_3b067 9 = .ok (.sipush 255, 3) := by decide +kernel
theorem dJ1_charAt_3b067_12 : decode cJ1_charAt_3b067 12 = .ok (.iand, 1) := by decide +kernel
theorem dJ1_charAt_3b067_13 : decode cJ1_charAt_3b067 13 = .ok (.i2c, 1) := by decide +kernel
theorem dJ1_charAt_3b067_14 : decode cJ1_charAt_3b067 14 = .ok (.ireturn, 1) := by decide +kernel
theorem dJ2_getChar_3b067_0 : decode cJ2_getChar_3b067 0 = .ok (.getstatic 44, 3) := by decide +kernel
theorem dJ2_getChar_3b067_3 : decode cJ2_getChar_3b067 3 = .ok (.ifCond .ne 25, 3) := by decide +kernel
theorem dJ2_getChar_3b067_6 : decode cJ2_getChar_3b067 6 = .ok (.iload_n 1, 1) := by decide +kernel
theorem dJ2_getChar_3b067_7 : decode cJ2_getChar_3b067 7 = .ok (.ifCond .lt 11, 3) := by decide +kernel
theorem dJ2_getChar_3b067_10 : decode cJ2_getChar_3b067 10 = .ok (.iload_n 1, 1) := by decide +kernel
theorem dJ2_getChar_3b067_11 : decode cJ2_getChar_3b067 11 = .ok (.aload_n 0, 1) := by decide +kernel
theorem dJ2_getChar_3b067_12 : decode cJ2_getChar_3b067 12 = .ok (.invokestatic 48, 3) := by decide +kernel
theorem dJ2_getChar_3b067_15 : decode cJ2_getChar_3b067 15 = .ok (.if_icmp .lt 13, 3) := by decide +kernel
theorem dJ2_getChar_3b067_18 : decode cJ2_getChar_3b067 18 = .ok (.new 52, 3) := by decide +kernel
theorem dJ2_getChar_3b067_21 : decode cJ2_getChar_3b067 21 = .ok (.dup, 1) := by decide +kernel
theorem dJ2_getChar_3b067_22 : decode cJ2_getChar_3b067 22 = .ok (.ldc 54, 2) := by decide +kernel
theorem dJ2_getChar_3b067_24 : decode cJ2_getChar_3b067 24 = .ok (.invokespecial 56, 3) := by decide +kernel
theorem dJ2_getChar_3b067_27 : decode cJ2_getChar_3b067 27 = .ok (.athrow, 1) := by decide +kernel
theorem dJ2_getChar_3b067_28 : decode cJ2_getChar_3b067 28 = .ok (.iload_n 1, 1) := by decide +kernel
theorem dJ2_getChar_3b067_29 : decode cJ2_getChar_3b067 29 = .ok (.iconst 1, 1) := by decide +kernel
theorem dJ2_getChar_3b067_30 : decode cJ2_getChar_3b067 30 = .ok (.ishl, 1) := by decide +kernel
theorem dJ2_getChar_3b067_31 : decode cJ2_getChar_3b067 31 = .ok (.istore_n 1, 1) := by decide +kernel
theorem dJ2_getChar_3b067_32 : decode cJ2_getChar_3b067 32 = .ok (.aload_n 0, 1) := by decide +kernel
theorem dJ2_getChar_3b067_33 : decode cJ2_getChar_3b067 33 = .ok (.iload_n 1, 1) := by decide +kernel
theorem dJ2_getChar_3b067_34 : decode cJ2_getChar_3b067 34 = .ok (.iinc 1 1, 3) := by decide +kernel
theorem dJ2_getChar_3b067_37 : decode cJ2_getChar_3b067 37 = .ok (.baload, 1) := by decide +kernel
theorem dJ2_getChar_3b067_38 : decode cJ2_getChar_3b067 38 = .ok (.sipush 255, 3) := by decide +kernel
theorem dJ2_getChar_3b067_41 : decode cJ2_getChar_3b067 41 = .ok (.iand, 1) := by decide +kernel
theorem dJ2_getChar_3b067_42 : decode cJ2_getChar_3b067 42 = .ok (.getstatic 59, 3) := by decide +kernel
theorem dJ2_getChar_3b067_45 : decode cJ2_getChar_3b067 45 = .ok (.ishl, 1) := by decide +kernel
theorem dJ2_getChar_3b067_46 : decode cJ2_getChar_3b067 46 = .ok (.aload_n 0, 1) := by decide +kernel
theorem dJ2_getChar_3b067_47 : decode cJ2_getChar_3b067 47 = .ok (.iload_n 1, 1) := by decide +kernel
theorem dJ2_getChar_3b067_48 : decode cJ2_getChar_3b067 48 = .ok (.baload, 1) := by decide +kernel
theorem dJ2_getChar_3b067_49 : decode cJ2_getChar_3b067 49 = .ok (.sipush 255, 3) := by decide +kernel
theorem dJ2_getChar_3b067_52 : decode cJ2_getChar_3b067 52 = .ok (.iand, 1) := by decide +kernel
theorem dJ2_getChar_3b067_53 : decode cJ2_getChar_3b067 53 = .ok (.getstatic 63, 3) := by decide +kernel
theorem dJ2_getChar_3b067_56 : decode cJ2_getChar_3b067 56 = .ok (.ishl, 1) := by decide +kernel
theorem dJ2_getChar_3b067_57 : decode cJ2_getChar_3b067 57 = .ok (.ior, 1) := by decide +kernel
theorem dJ2_getChar_3b067_58 : decode cJ2_getChar_3b067 58 = .ok (.i2c, 1) := by decide +kernel
theorem dJ2_getChar_3b067_59 : decode cJ2_getChar_3b067 59 = .ok (.ireturn, 1) := by decide +kernel
theorem dJ2_length_9d52b_0 : decode cJ2_length_9d52b 0 = .ok (.aload_n 0, 1) := by decide +kernel
theorem dJ2_length_9d52b_1 : decode cJ2_length_9d52b 1 = .ok (.arraylength, 1) := by decide +kernel
theorem dJ2_length_9d52b_2 : decode cJ2_length_9d52b 2 = .ok (.iconst 1, 1) := by decide +kernel
theorem dJ2_length_9d52b_3 : decode cJ2_length_9d52b 3 = .ok (.ishr, 1) := by decide +kernel
theorem dJ2_length_9d52b_4 : decode cJ2_length_9d52b 4 = .ok (.ireturn, 1) := by decide +kernel
theorem dJ2_charAt_3b067_0 : decode cJ2_charAt_3b067 0 = .ok (.iload_n 1, 1) := by decide +kernel
theorem dJ2_charAt_3b067_1 : decode cJ2_charAt_3b067 1 = .ok (.aload_n 0, 1) := by decide +kernel
theorem dJ2_charAt_3b067_2 : decode cJ2_charAt_3b067 2 = .ok (.invokestatic 67, 3) := by decide +kernel
theorem dJ2_charAt_3b067_5 : decode cJ2_charAt_3b067 5 = .ok (.aload_n 0, 1) := by decide +kernel
theorem dJ2_charAt_3b067_6 : decode cJ2_charAt_3b067 6 = .ok (.iload_n 1, 1) := by decide +kernel
theorem dJ2_charAt_3b067_7 : decode cJ2_charAt_3b067 7 = .ok (.invokestatic 71, 3) := by decide +kernel
theorem dJ2_charAt_3b067_10 : decode cJ2_charAt_3b067 10 = .ok (.ireturn, 1) := by decide +kernel
theorem dJ2_checkIndex_2214a_0 : decode cJ2_checkIndex_2214a 0 = .ok (.iload_n 0, 1) := by decide +kernel
theorem dJ2_checkIndex_2214a_1 : decode cJ2_checkIndex_2214a 1 = .ok (.aload_n 1, 1) := by decide +kernel
theorem dJ2_checkIndex_2214a_2 : decode cJ2_checkIndex_2214a 2 = .ok (.invokestatic 48, 3) := by decide +kernel
theorem dJ2_checkIndex_2214a_5 : decode cJ2_checkIndex_2214a 5 = .ok (.invokestatic 414, 3) := by decide +kernel
theorem dJ2_checkIndex_2214a_8 : decode cJ2_checkIndex_2214a 8 = .ok (.return_, 1) := by decide +kernel
theorem dJ7_fill_d0a16_0 : decode cJ7_fill_d0a16 0 = .ok (.iconst 0, 1) := by decide +kernel
theorem dJ7_fill_d0a16_1 : decode cJ7_fill_d0a16 1 = .ok (.istore_n 3, 1) := by decide +kernel
theorem dJ7_fill_d0a16_2 : decode cJ7_fill_d0a16 2 = .ok (.aload_n 0, 1) := by decide +kernel
theorem dJ7_fill_d0a16_3 : decode cJ7_fill_d0a16 3 = .ok (.arraylength, 1) := by decide +kernel
theorem dJ7_fill_d0a16_4 : decode cJ7_fill_d0a16 4 = .ok (.istore 4, 2) := by decide +kernel
theorem dJ7_fill_d0a16_6 : decode cJ7_fill_d0a16 6 = .ok (.iload_n 3, 1) := by decide +kernel
theorem dJ7_fill_d0a16_7 : decode cJ7_fill_d0a16 7 = .ok (.iload 4, 2) := by decide +kernel
theorem dJ7_fill_d0a16_9 : decode cJ7_fill_d0a16 9 = .ok (.if_icmp .ge 13, 3) := by decide +kernel
theorem dJ7_fill_d0a16_12 : decode cJ7_fill_d0a16 12 = .ok (.aload_n 0, 1) := by decide +kernel
theorem dJ7_fill_d0a16_13 : decode cJ7_fill_d0a16 13 = .ok (.iload_n 3, 1) := by decide +kernel
theorem dJ7_fill_d0a16_14 : decode cJ7_fill_d0a16 14 = .ok (.lload_n 1, 1) := by decide +kernel
theorem dJ7_fill_d0a16_15 : decode cJ7_fill_d0a16 15 = .ok (.lastore, 1) := by decide +kernel
theorem dJ7_fill_d0a16_16 : decode cJ7_fill_d0a16 16 = .ok (.iinc 3 1, 3) := by decide +kernel
theorem dJ7_fill_d0a16_19 : decode cJ7_fill_d0a16 19 = .ok (.goto (-13), 3) := by decide +kernel
theorem dJ7_fill_d0a16_22 : decode cJ7_fill_d0a16 22 = .ok (.return_, 1) := by decide +kernel
theorem dJ3_checkIndex_8e157_0 : decode cJ3_checkIndex_8e157 0 = .ok (.iload_n 0, 1) := by decide +kernel
theorem dJ3_checkIndex_8e157_1 : decode cJ3_checkIndex_8e157 1 = .ok (.ifCond .lt 8, 3) := by decide +kernel
theorem dJ3_checkIndex_8e157_4 : decode cJ3_checkIndex_8e157 4 = .ok (.iload_n 0, 1) := by decide +kernel
theorem dJ3_checkIndex_8e157_5 : decode cJ3_checkIndex_8e157 5 = .ok (.iload_n 1, 1) := by decide +kernel
theorem dJ3_checkIndex_8e157_6 : decode cJ3_checkIndex_8e157 6 = .ok (.if_icmp .lt 10, 3) := by decide +kernel
theorem dJ3_checkIndex_8e157_9 : decode cJ3_checkIndex_8e157 9 = .ok (.aload_n 2, 1) := by decide +kernel
theorem dJ3_checkIndex_8e157_10 : decode cJ3_checkIndex_8e157 10 = .ok (.iload_n 0, 1) := by decide +kernel
theorem dJ3_checkIndex_8e157_11 : decode cJ3_checkIndex_8e157 11 = .ok (.iload_n 1, 1) := by decide +kernel
theorem dJ3_checkIndex_8e157_12 : decode cJ3_checkIndex_8e157 12 = .ok (.invokestatic 95, 3) := by decide +kernel
theorem dJ3_checkIndex_8e157_15 : decode cJ3_checkIndex_8e157 15 = .ok (.athrow, 1) := by decide +kernel
theorem dJ3_checkIndex_8e157_16 : decode cJ3_checkIndex_8e157 16 = .ok (.iload_n 0, 1) := by decide +kernel
theorem dJ3_checkIndex_8e157_17 : decode cJ3_checkIndex_8e157 17 = .ok (.ireturn, 1) := by decide +kernel
theorem dL_put_0 : decode cL_put 0 = .ok (.aload_n 0, 1) := by decide +kernel
theorem dL_put_1 : decode cL_put 1 = .ok (.iload_n 1, 1) := by decide +kernel
theorem dL_put_2 : decode cL_put 2 = .ok (.iload_n 2, 1) := by decide +kernel
theorem dL_put_3 : decode cL_put 3 = .ok (.lload_n 3, 1) := by decide +kernel
theorem dL_put_4 : decode cL_put 4 = .ok (.iload 5, 2) := by decide +kernel
theorem dL_put_6 : decode cL_put 6 = .ok (.invokevirtual 7, 3) := by decide +kernel
theorem dL_put_9 : decode cL_put 9 = .ok (.goto 11, 3) := by decide +kernel
theorem dL_put_12 : decode cL_put 12 = .ok (.astore 6, 2) := by decide +kernel
theorem dL_put_14 : decode cL_put 14 = .ok (.iconst 1, 1) := by decide +kernel
theorem dL_put_15 : decode cL_put 15 = .ok (.ireturn, 1) := by decide +kernel
theorem dL_put_16 : decode cL_put 16 = .ok (.astore 6, 2) := by decide +kernel
theorem dL_put_18 : decode cL_put 18 = .ok (.iconst 2, 1) := by decide +kernel
theorem dL_put_19 : decode cL_put 19 = .ok (.ireturn, 1) := by decide +kernel
theorem dL_put_20 : decode cL_put 20 = .ok (.iconst 0, 1) := by decide +kernel
theorem dL_put_21 : decode cL_put 21 = .ok (.ireturn, 1) := by decide +kernel
theorem dL_feed_0 : decode cL_feed 0 = .ok (.aload 5, 2) := by decide +kernel
theorem dL_feed_2 : decode cL_feed 2 = .ok (.iconst 0, 1) := by decide +kernel
theorem dL_feed_3 : decode cL_feed 3 = .ok (.aload_n 0, 1) := by decide +kernel
theorem dL_feed_4 : decode cL_feed 4 = .ok (.iload_n 1, 1) := by decide +kernel
theorem dL_feed_5 : decode cL_feed 5 = .ok (.lload_n 2, 1) := by decide +kernel
theorem dL_feed_6 : decode cL_feed 6 = .ok (.iload 4, 2) := by decide +kernel
theorem dL_feed_8 : decode cL_feed 8 = .ok (.invokevirtual 17, 3) := by decide +kernel
theorem dL_feed_11 : decode cL_feed 11 = .ok (.i2l, 1) := by decide +kernel
theorem dL_feed_12 : decode cL_feed 12 = .ok (.lastore, 1) := by decide +kernel
theorem dL_feed_13 : decode cL_feed 13 = .ok (.goto 11, 3) := by decide +kernel
theorem dL_feed_16 : decode cL_feed 16 = .ok (.astore 6, 2) := by decide +kernel
theorem dL_feed_18 : decode cL_feed 18 = .ok (.iconst 1, 1) := by decide +kernel
theorem dL_feed_19 : decode cL_feed 19 = .ok (.ireturn, 1) := by decide +kernel
theorem dL_feed_20 : decode cL_feed 20 = .ok (.astore 6, 2) := by decide +kernel
theorem dL_feed_22 : decode cL_feed 22 = .ok (.iconst 2, 1) := by decide +kernel
theorem dL_feed_23 : decode cL_feed 23 = .ok (.ireturn, 1) := by decide +kernel
theorem dL_feed_24 : decode cL_feed 24 = .ok (.iconst 0, 1) := by decide +kernel
theorem dL_feed_25 : decode cL_feed 25 = .ok (.ireturn, 1) := by decide +kernel
theorem dL_move_0 : decode cL_move 0 = .ok (.aload_n 2, 1) := by decide +kernel
theorem dL_move_1 : decode cL_move 1 = .ok (.iconst 0, 1) := by decide +kernel
theorem dL_move_2 : decode cL_move 2 = .ok (.aload_n 0, 1) := by decide +kernel
theorem dL_move_3 : decode cL_move 3 = .ok (.iload_n 1, 1) := by decide +kernel
theorem dL_move_4 : decode cL_move 4 = .ok (.invokevirtual 23, 3) := by decide +kernel
theorem dL_move_7 : decode cL_move 7 = .ok (.i2l, 1) := by decide +kernel
theorem dL_move_8 : decode cL_move 8 = .ok (.lastore, 1) := by decide +kernel
theorem dL_move_9 : decode cL_move 9 = .ok (.goto 6, 3) := by decide +kernel
theorem dL_move_12 : decode cL_move 12 = .ok (.astore_n 3, 1) := by decide +kernel
theorem dL_move_13 : decode cL_move 13 = .ok (.iconst 1, 1) := by decide +kernel
theorem dL_move_14 : decode cL_move 14 = .ok (.ireturn, 1) := by decide +kernel
theorem dL_move_15 : decode cL_move 15 = .ok (.iconst 0, 1) := by decide +kernel
theorem dL_move_16 : decode cL_move 16 = .ok (.ireturn, 1) := by decide +kernel
theorem dL_look_0 : decode cL_look 0 = .ok (.aload_n 3, 1) := by decide +kernel
theorem dL_look_1 : decode cL_look 1 = .ok (.iconst 0, 1) := by decide +kernel
theorem dL_look_2 : decode cL_look 2 = .ok (.aload_n 0, 1) := by decide +kernel
theorem dL_look_3 : decode cL_look 3 = .ok (.iload_n 1, 1) := by decide +kernel
theorem dL_look_4 : decode cL_look 4 = .ok (.iload_n 2, 1) := by decide +kernel
theorem dL_look_5 : decode cL_look 5 = .ok (.invokevirtual 27, 3) := by decide +kernel
theorem dL_look_8 : decode cL_look 8 = .ok (.i2l, 1) := by decide +kernel
theorem dL_look_9 : decode cL_look 9 = .ok (.lastore, 1) := by decide +kernel
theorem dL_look_10 : decode cL_look 10 = .ok (.goto 11, 3) := by decide +kernel
theorem dL_look_13 : decode cL_look 13 = .ok (.astore 4, 2) := by decide +kernel
theorem dL_look_15 : decode cL_look 15 = .ok (.iconst 1, 1) := by decide +kernel
theorem dL_look_16 : decode cL_look 16 = .ok (.ireturn, 1) := by decide +kernel
theorem dL_look_17 : decode cL_look 17 = .ok (.astore 4, 2) := by decide +kernel
theorem dL_look_19 : decode cL_look 19 = .ok (.iconst 2, 1) := by decide +kernel
theorem dL_look_20 : decode cL_look 20 = .ok (.ireturn, 1) := by decide +kernel
theorem dL_look_21 : decode cL_look 21 = .ok (.iconst 0, 1) := by decide +kernel
theorem dL_look_22 : decode cL_look 22 = .ok (.ireturn, 1) := by decide +kernel
theorem dL_hash_0 : decode cL_hash 0 = .ok (.aload_n 0, 1) := by decide +kernel
theorem dL_hash_1 : decode cL_hash 1 = .ok (.iload_n 1, 1) := by decide +kernel
theorem dL_hash_2 : decode cL_hash 2 = .ok (.iload_n 2, 1) := by decide +kernel
theorem dL_hash_3 : decode cL_hash 3 = .ok (.invokevirtual 31, 3) := by decide +kernel
theorem dL_hash_6 : decode cL_hash 6 = .ok (.goto 6, 3) := by decide +kernel
theorem dL_hash_9 : decode cL_hash 9 = .ok (.astore_n 3, 1) := by decide +kernel
theorem dL_hash_10 : decode cL_hash 10 = .ok (.iconst 1, 1) := by decide +kernel
theorem dL_hash_11 : decode cL_hash 11 = .ok (.ireturn, 1) := by decide +kernel
theorem dL_hash_12 : decode cL_hash 12 = .ok (.iconst 0, 1) := by decide +kernel
theorem dL_hash_13 : decode cL_hash 13 = .ok (.ireturn, 1) := by decide +kernel
theorem dL_agree_0 : decode cL_agree 0 = .ok (.aload_n 3, 1) := by decide +kernel
theorem dL_agree_1 : decode cL_agree 1 = .ok (.iconst 0, 1) := by decide +kernel
theorem dL_agree_2 : decode cL_agree 2 = .ok (.aload_n 0, 1) := by decide +kernel
theorem dL_agree_3 : decode cL_agree 3 = .ok (.iload_n 1, 1) := by decide +kernel
theorem dL_agree_4 : decode cL_agree 4 = .ok (.iload_n 2, 1) := by decide +kernel
theorem dL_agree_5 : decode cL_agree 5 = .ok (.invokevirtual 35, 3) := by decide +kernel
theorem dL_agree_8 : decode cL_agree 8 = .ok (.ifCond .eq 7, 3) := by decide +kernel
theorem dL_agree_11 : decode cL_agree 11 = .ok (.lconst 1, 1) := by decide +kernel
theorem dL_agree_12 : decode cL_agree 12 = .ok (.goto 4, 3) := by decide +kernel
theorem dL_agree_15 : decode cL_agree 15 = .ok (.lconst 0, 1) := by decide +kernel
theorem dL_agree_16 : decode cL_agree 16 = .ok (.lastore, 1) := by decide +kernel
theorem dL_agree_17 : decode cL_agree 17 = .ok (.goto 7, 3) := by decide +kernel
theorem dL_agree_20 : decode cL_agree 20 = .ok (.astore 4, 2) := by decide +kernel
theorem dL_agree_22 : decode cL_agree 22 = .ok (.iconst 1, 1) := by decide +kernel
theorem dL_agree_23 : decode cL_agree 23 = .ok (.ireturn, 1) := by decide +kernel
theorem dL_agree_24 : decode cL_agree 24 = .ok (.iconst 0, 1) := by decide +kernel
theorem dL_agree_25 : decode cL_agree 25 = .ok (.ireturn, 1) := by decide +kernel
theorem dL_derive_0 : decode cL_derive 0 = .ok (.aload_n 0, 1) := by decide +kernel
theorem dL_derive_1 : decode cL_derive 1 = .ok (.iload_n 1, 1) := by decide +kernel
theorem dL_derive_2 : decode cL_derive 2 = .ok (.invokevirtual 39, 3) := by decide +kernel
theorem dL_derive_5 : decode cL_derive 5 = .ok (.goto 6, 3) := by decide +kernel
theorem dL_derive_8 : decode cL_derive 8 = .ok (.astore_n 2, 1) := by decide +kernel
theorem dL_derive_9 : decode cL_derive 9 = .ok (.iconst 1, 1) := by decide +kernel
theorem dL_derive_10 : decode cL_derive 10 = .ok (.ireturn, 1) := by decide +kernel
theorem dL_derive_11 : decode cL_derive 11 = .ok (.iconst 0, 1) := by decide +kernel
theorem dL_derive_12 : decode cL_derive 12 = .ok (.ireturn, 1) := by decide +kernel
theorem dL_sign_0 : decode cL_sign 0 = .ok (.aload_n 0, 1) := by decide +kernel
theorem dL_sign_1 : decode cL_sign 1 = .ok (.iload_n 1, 1) := by decide +kernel
theorem dL_sign_2 : decode cL_sign 2 = .ok (.iload_n 2, 1) := by decide +kernel
theorem dL_sign_3 : decode cL_sign 3 = .ok (.invokevirtual 43, 3) := by decide +kernel
theorem dL_sign_6 : decode cL_sign 6 = .ok (.goto 6, 3) := by decide +kernel
theorem dL_sign_9 : decode cL_sign 9 = .ok (.astore_n 3, 1) := by decide +kernel
theorem dL_sign_10 : decode cL_sign 10 = .ok (.iconst 1, 1) := by decide +kernel
theorem dL_sign_11 : decode cL_sign 11 = .ok (.ireturn, 1) := by decide +kernel
theorem dL_sign_12 : decode cL_sign 12 = .ok (.iconst 0, 1) := by decide +kernel
theorem dL_sign_13 : decode cL_sign 13 = .ok (.ireturn, 1) := by decide +kernel
theorem dL_verify_0 : decode cL_verify 0 = .ok (.aload_n 3, 1) := by decide +kernel
theorem dL_verify_1 : decode cL_verify 1 = .ok (.iconst 0, 1) := by decide +kernel
theorem dL_verify_2 : decode cL_verify 2 = .ok (.aload_n 0, 1) := by decide +kernel
theorem dL_verify_3 : decode cL_verify 3 = .ok (.iload_n 1, 1) := by decide +kernel
theorem dL_verify_4 : decode cL_verify 4 = .ok (.iload_n 2, 1) := by decide +kernel
theorem dL_verify_5 : decode cL_verify 5 = .ok (.invokevirtual 47, 3) := by decide +kernel
theorem dL_verify_8 : decode cL_verify 8 = .ok (.ifCond .eq 7, 3) := by decide +kernel
theorem dL_verify_11 : decode cL_verify 11 = .ok (.lconst 1, 1) := by decide +kernel
theorem dL_verify_12 : decode cL_verify 12 = .ok (.goto 4, 3) := by decide +kernel
theorem dL_verify_15 : decode cL_verify 15 = .ok (.lconst 0, 1) := by decide +kernel
theorem dL_verify_16 : decode cL_verify 16 = .ok (.lastore, 1) := by decide +kernel
theorem dL_verify_17 : decode cL_verify 17 = .ok (.goto 7, 3) := by decide +kernel
theorem dL_verify_20 : decode cL_verify 20 = .ok (.astore 4, 2) := by decide +kernel
theorem dL_verify_22 : decode cL_verify 22 = .ok (.iconst 1, 1) := by decide +kernel
theorem dL_verify_23 : decode cL_verify 23 = .ok (.ireturn, 1) := by decide +kernel
theorem dL_verify_24 : decode cL_verify 24 = .ok (.iconst 0, 1) := by decide +kernel
theorem dL_verify_25 : decode cL_verify 25 = .ok (.ireturn, 1) := by decide +kernel
theorem dL_point_0 : decode cL_point 0 = .ok (.aload_n 3, 1) := by decide +kernel
theorem dL_point_1 : decode cL_point 1 = .ok (.iconst 0, 1) := by decide +kernel
theorem dL_point_2 : decode cL_point 2 = .ok (.aload_n 0, 1) := by decide +kernel
theorem dL_point_3 : decode cL_point 3 = .ok (.iload_n 1, 1) := by decide +kernel
theorem dL_point_4 : decode cL_point 4 = .ok (.iload_n 2, 1) := by decide +kernel
theorem dL_point_5 : decode cL_point 5 = .ok (.invokevirtual 50, 3) := by decide +kernel
theorem dL_point_8 : decode cL_point 8 = .ok (.ifCond .eq 7, 3) := by decide +kernel
theorem dL_point_11 : decode cL_point 11 = .ok (.lconst 1, 1) := by decide +kernel
theorem dL_point_12 : decode cL_point 12 = .ok (.goto 4, 3) := by decide +kernel
theorem dL_point_15 : decode cL_point 15 = .ok (.lconst 0, 1) := by decide +kernel
theorem dL_point_16 : decode cL_point 16 = .ok (.lastore, 1) := by decide +kernel
theorem dL_point_17 : decode cL_point 17 = .ok (.goto 7, 3) := by decide +kernel
theorem dL_point_20 : decode cL_point 20 = .ok (.astore 4, 2) := by decide +kernel
theorem dL_point_22 : decode cL_point 22 = .ok (.iconst 1, 1) := by decide +kernel
theorem dL_point_23 : decode cL_point 23 = .ok (.ireturn, 1) := by decide +kernel
theorem dL_point_24 : decode cL_point 24 = .ok (.iconst 0, 1) := by decide +kernel
theorem dL_point_25 : decode cL_point 25 = .ok (.ireturn, 1) := by decide +kernel
theorem dL_add_0 : decode cL_add 0 = .ok (.aload_n 0, 1) := by decide +kernel
theorem dL_add_1 : decode cL_add 1 = .ok (.iload_n 1, 1) := by decide +kernel
theorem dL_add_2 : decode cL_add 2 = .ok (.iload_n 2, 1) := by decide +kernel
theorem dL_add_3 : decode cL_add 3 = .ok (.iload_n 3, 1) := by decide +kernel
theorem dL_add_4 : decode cL_add 4 = .ok (.iload 4, 2) := by decide +kernel
theorem dL_add_6 : decode cL_add 6 = .ok (.invokevirtual 54, 3) := by decide +kernel
theorem dL_add_9 : decode cL_add 9 = .ok (.goto 11, 3) := by decide +kernel
theorem dL_add_12 : decode cL_add 12 = .ok (.astore 5, 2) := by decide +kernel
theorem dL_add_14 : decode cL_add 14 = .ok (.iconst 1, 1) := by decide +kernel
theorem dL_add_15 : decode cL_add 15 = .ok (.ireturn, 1) := by decide +kernel
theorem dL_add_16 : decode cL_add 16 = .ok (.astore 5, 2) := by decide +kernel
theorem dL_add_18 : decode cL_add 18 = .ok (.iconst 2, 1) := by decide +kernel
theorem dL_add_19 : decode cL_add 19 = .ok (.ireturn, 1) := by decide +kernel
theorem dL_add_20 : decode cL_add 20 = .ok (.iconst 0, 1) := by decide +kernel
theorem dL_add_21 : decode cL_add 21 = .ok (.ireturn, 1) := by decide +kernel
theorem dL_times_0 : decode cL_times 0 = .ok (.aload_n 0, 1) := by decide +kernel
theorem dL_times_1 : decode cL_times 1 = .ok (.iload_n 1, 1) := by decide +kernel
theorem dL_times_2 : decode cL_times 2 = .ok (.iload_n 2, 1) := by decide +kernel
theorem dL_times_3 : decode cL_times 3 = .ok (.invokevirtual 58, 3) := by decide +kernel
theorem dL_times_6 : decode cL_times 6 = .ok (.goto 6, 3) := by decide +kernel
theorem dL_times_9 : decode cL_times 9 = .ok (.astore_n 3, 1) := by decide +kernel
theorem dL_times_10 : decode cL_times 10 = .ok (.iconst 1, 1) := by decide +kernel
theorem dL_times_11 : decode cL_times 11 = .ok (.ireturn, 1) := by decide +kernel
theorem dL_times_12 : decode cL_times 12 = .ok (.iconst 0, 1) := by decide +kernel
theorem dL_times_13 : decode cL_times 13 = .ok (.ireturn, 1) := by decide +kernel
theorem dL_code_0 : decode cL_code 0 = .ok (.aload_n 0, 1) := by decide +kernel
theorem dL_code_1 : decode cL_code 1 = .ok (.iload_n 1, 1) := by decide +kernel
theorem dL_code_2 : decode cL_code 2 = .ok (.invokevirtual 62, 3) := by decide +kernel
theorem dL_code_5 : decode cL_code 5 = .ok (.goto 6, 3) := by decide +kernel
theorem dL_code_8 : decode cL_code 8 = .ok (.astore_n 2, 1) := by decide +kernel
theorem dL_code_9 : decode cL_code 9 = .ok (.iconst 1, 1) := by decide +kernel
theorem dL_code_10 : decode cL_code 10 = .ok (.ireturn, 1) := by decide +kernel
theorem dL_code_11 : decode cL_code 11 = .ok (.iconst 0, 1) := by decide +kernel
theorem dL_code_12 : decode cL_code 12 = .ok (.ireturn, 1) := by decide +kernel
theorem dL_same_0 : decode cL_same 0 = .ok (.aload_n 3, 1) := by decide +kernel
theorem dL_same_1 : decode cL_same 1 = .ok (.iconst 0, 1) := by decide +kernel
theorem dL_same_2 : decode cL_same 2 = .ok (.aload_n 0, 1) := by decide +kernel
theorem dL_same_3 : decode cL_same 3 = .ok (.iload_n 1, 1) := by decide +kernel
theorem dL_same_4 : decode cL_same 4 = .ok (.iload_n 2, 1) := by decide +kernel
theorem dL_same_5 : decode cL_same 5 = .ok (.invokevirtual 65, 3) := by decide +kernel
theorem dL_same_8 : decode cL_same 8 = .ok (.ifCond .eq 7, 3) := by decide +kernel
theorem dL_same_11 : decode cL_same 11 = .ok (.lconst 1, 1) := by decide +kernel
theorem dL_same_12 : decode cL_same 12 = .ok (.goto 4, 3) := by decide +kernel
theorem dL_same_15 : decode cL_same 15 = .ok (.lconst 0, 1) := by decide +kernel
theorem dL_same_16 : decode cL_same 16 = .ok (.lastore, 1) := by decide +kernel
theorem dL_same_17 : decode cL_same 17 = .ok (.goto 7, 3) := by decide +kernel
theorem dL_same_20 : decode cL_same 20 = .ok (.astore 4, 2) := by decide +kernel
theorem dL_same_22 : decode cL_same 22 = .ok (.iconst 1, 1) := by decide +kernel
theorem dL_same_23 : decode cL_same 23 = .ok (.ireturn, 1) := by decide +kernel
theorem dL_same_24 : decode cL_same 24 = .ok (.iconst 0, 1) := by decide +kernel
theorem dL_same_25 : decode cL_same 25 = .ok (.ireturn, 1) := by decide +kernel
theorem dL_order_0 : decode cL_order 0 = .ok (.aload_n 3, 1) := by decide +kernel
theorem dL_order_1 : decode cL_order 1 = .ok (.iconst 0, 1) := by decide +kernel
theorem dL_order_2 : decode cL_order 2 = .ok (.aload_n 0, 1) := by decide +kernel
theorem dL_order_3 : decode cL_order 3 = .ok (.iload_n 1, 1) := by decide +kernel
theorem dL_order_4 : decode cL_order 4 = .ok (.iload_n 2, 1) := by decide +kernel
theorem dL_order_5 : decode cL_order 5 = .ok (.invokevirtual 68, 3) := by decide +kernel
theorem dL_order_8 : decode cL_order 8 = .ok (.i2l, 1) := by decide +kernel
theorem dL_order_9 : decode cL_order 9 = .ok (.lastore, 1) := by decide +kernel
theorem dL_order_10 : decode cL_order 10 = .ok (.goto 7, 3) := by decide +kernel
theorem dL_order_13 : decode cL_order 13 = .ok (.astore 4, 2) := by decide +kernel
theorem dL_order_15 : decode cL_order 15 = .ok (.iconst 1, 1) := by decide +kernel
theorem dL_order_16 : decode cL_order 16 = .ok (.ireturn, 1) := by decide +kernel
theorem dL_order_17 : decode cL_order 17 = .ok (.iconst 0, 1) := by decide +kernel
theorem dL_order_18 : decode cL_order 18 = .ok (.ireturn, 1) := by decide +kernel
theorem dL_law_0 : decode cL_law 0 = .ok (.new 8, 3) := by decide +kernel
theorem dL_law_3 : decode cL_law 3 = .ok (.dup, 1) := by decide +kernel
theorem dL_law_4 : decode cL_law 4 = .ok (.invokespecial 71, 3) := by decide +kernel
theorem dL_law_7 : decode cL_law 7 = .ok (.astore_n 1, 1) := by decide +kernel
theorem dL_law_8 : decode cL_law 8 = .ok (.new 72, 3) := by decide +kernel
theorem dL_law_11 : decode cL_law 11 = .ok (.dup, 1) := by decide +kernel
theorem dL_law_12 : decode cL_law 12 = .ok (.invokespecial 74, 3) := by decide +kernel
theorem dL_law_15 : decode cL_law 15 = .ok (.astore_n 2, 1) := by decide +kernel
theorem dL_law_16 : decode cL_law 16 = .ok (.iconst 1, 1) := by decide +kernel
theorem dL_law_17 : decode cL_law 17 = .ok (.newarray .long, 2) := by decide +kernel
theorem dL_law_19 : decode cL_law 19 = .ok (.astore_n 3, 1) := by decide +kernel
theorem dL_law_20 : decode cL_law 20 = .ok (.iconst 0, 1) := by decide +kernel
theorem dL_law_21 : decode cL_law 21 = .ok (.istore 4, 2) := by decide +kernel
theorem dL_law_23 : decode cL_law 23 = .ok (.iload 4, 2) := by decide +kernel
theorem dL_law_25 : decode cL_law 25 = .ok (.aload_n 0, 1) := by decide +kernel
theorem dL_law_26 : decode cL_law 26 = .ok (.arraylength, 1) := by decide +kernel
theorem dL_law_27 : decode cL_law 27 = .ok (.bipush 6, 2) := by decide +kernel
theorem dL_law_29 : decode cL_law 29 = .ok (.isub, 1) := by decide +kernel
theorem dL_law_30 : decode cL_law 30 = .ok (.if_icmp .gt 1244, 3) := by decide +kernel
theorem dL_law_33 : decode cL_law 33 = .ok (.aload_n 0, 1) := by decide +kernel
theorem dL_law_34 : decode cL_law 34 = .ok (.iload 4, 2) := by decide +kernel
theorem dL_law_36 : decode cL_law 36 = .ok (.iaload, 1) := by decide +kernel
theorem dL_law_37 : decode cL_law 37 = .ok (.bipush 31, 2) := by decide +kernel
theorem dL_law_39 : decode cL_law 39 = .ok (.iand, 1) := by decide +kernel
theorem dL_law_40 : decode cL_law 40 = .ok (.tableswitch 1228 0 16 #[84, 188, 316, 355, 411, 479, 492, 556, 647, 683, 747, 838, 913, 1001, 1049, 1085, 1160], 84) := by decide +kernel
theorem dL_law_124 : decode cL_law 124 = .ok (.aload_n 1, 1) := by decide +kernel
theorem dL_law_125 : decode cL_law 125 = .ok (.aload_n 0, 1) := by decide +kernel
theorem dL_law_126 : decode cL_law 126 = .ok (.iload 4, 2) := by decide +kernel
theorem dL_law_128 : decode cL_law 128 = .ok (.iconst 1, 1) := by decide +kernel
theorem dL_law_129 : decode cL_law 129 = .ok (.iadd, 1) := by decide +kernel
theorem dL_law_130 : decode cL_law 130 = .ok (.iaload, 1) := by decide +kernel
theorem dL_law_131 : decode cL_law 131 = .ok (.aload_n 0, 1) := by decide +kernel
theorem dL_law_132 : decode cL_law 132 = .ok (.iload 4, 2) := by decide +kernel
theorem dL_law_134 : decode cL_law 134 = .ok (.iconst 2, 1) := by decide +kernel
theorem dL_law_135 : decode cL_law 135 = .ok (.iadd, 1) := by decide +kernel
theorem dL_law_136 : decode cL_law 136 = .ok (.iaload, 1) := by decide +kernel
theorem dL_law_137 : decode cL_law 137 = .ok (.aload_n 0, 1) := by decide +kernel
theorem dL_law_138 : decode cL_law 138 = .ok (.iload 4, 2) := by decide +kernel
theorem dL_law_140 : decode cL_law 140 = .ok (.iconst 3, 1) := by decide +kernel
theorem dL_law_141 : decode cL_law 141 = .ok (.iadd, 1) := by decide +kernel
theorem dL_law_142 : decode cL_law 142 = .ok (.iaload, 1) := by decide +kernel
theorem dL_law_143 : decode cL_law 143 = .ok (.i2l, 1) := by decide +kernel
theorem dL_law_144 : decode cL_law 144 = .ok (.bipush 32, 2) := by decide +kernel
theorem dL_law_146 : decode cL_law 146 = .ok (.lshl, 1) := by decide +kernel
theorem dL_law_147 : decode cL_law 147 = .ok (.aload_n 0, 1) := by decide +kernel
theorem dL_law_148 : decode cL_law 148 = .ok (.iload 4, 2) := by decide +kernel
theorem dL_law_150 : decode cL_law 150 = .ok (.iconst 4, 1) := by decide +kernel
theorem dL_law_151 : decode cL_law 151 = .ok (.iadd, 1) := by decide +kernel
theorem dL_law_152 : decode cL_law 152 = .ok (.iaload, 1) := by decide +kernel
theorem dL_law_153 : decode cL_law 153 = .ok (.i2l, 1) := by decide +kernel
theorem dL_law_154 : decode cL_law 154 = .ok (.ldc2_w 75, 3) := by decide +kernel
theorem dL_law_157 : decode cL_law 157 = .ok (.land, 1) := by decide +kernel
theorem dL_law_158 : decode cL_law 158 = .ok (.lor, 1) := by decide +kernel
theorem dL_law_159 : decode cL_law 159 = .ok (.aload_n 0, 1) := by decide +kernel
theorem dL_law_160 : decode cL_law 160 = .ok (.iload 4, 2) := by decide +kernel
theorem dL_law_162 : decode cL_law 162 = .ok (.iconst 5, 1) := by decide +kernel
theorem dL_law_163 : decode cL_law 163 = .ok (.iadd, 1) := by decide +kernel
theorem dL_law_164 : decode cL_law 164 = .ok (.iaload, 1) := by decide +kernel
theorem dL_law_165 : decode cL_law 165 = .ok (.invokestatic 77, 3) := by decide +kernel
theorem dL_law_168 : decode cL_law 168 = .ok (.istore 5, 2) := by decide +kernel
theorem dL_law_170 : decode cL_law 170 = .ok (.aload_n 2, 1) := by decide +kernel
theorem dL_law_171 : decode cL_law 171 = .ok (.aload_n 0, 1) := by decide +kernel
theorem dL_law_172 : decode cL_law 172 = .ok (.iload 4, 2) := by decide +kernel
theorem dL_law_174 : decode cL_law 174 = .ok (.iconst 1, 1) := by decide +kernel
theorem dL_law_175 : decode cL_law 175 = .ok (.iadd, 1) := by decide +kernel
theorem dL_law_176 : decode cL_law 176 = .ok (.iaload, 1) := by decide +kernel
theorem dL_law_177 : decode cL_law 177 = .ok (.aload_n 0, 1) := by decide +kernel
theorem dL_law_178 : decode cL_law 178 = .ok (.iload 4, 2) := by decide +kernel
theorem dL_law_180 : decode cL_law 180 = .ok (.iconst 2, 1) := by decide +kernel
theorem dL_law_181 : decode cL_law 181 = .ok (.iadd, 1) := by decide +kernel
theorem dL_law_182 : decode cL_law 182 = .ok (.iaload, 1) := by decide +kernel
theorem dL_law_183 : decode cL_law 183 = .ok (.aload_n 0, 1) := by decide +kernel
theorem dL_law_184 : decode cL_law 184 = .ok (.iload 4, 2) := by decide +kernel
theorem dL_law_186 : decode cL_law 186 = .ok (.iconst 3, 1) := by decide +kernel
theorem dL_law_187 : decode cL_law 187 = .ok (.iadd, 1) := by decide +kernel
theorem dL_law_188 : decode cL_law 188 = .ok (.iaload, 1) := by decide +kernel
theorem dL_law_189 : decode cL_law 189 = .ok (.i2l, 1) := by decide +kernel
theorem dL_law_190 : decode cL_law 190 = .ok (.bipush 32, 2) := by decide +kernel
theorem dL_law_192 : decode cL_law 192 = .ok (.lshl, 1) := by decide +kernel
theorem dL_law_193 : decode cL_law 193 = .ok (.aload_n 0, 1) := by decide +kernel
theorem dL_law_194 : decode cL_law 194 = .ok (.iload 4, 2) := by decide +kernel
theorem dL_law_196 : decode cL_law 196 = .ok (.iconst 4, 1) := by decide +kernel
theorem dL_law_197 : decode cL_law 197 = .ok (.iadd, 1) := by decide +kernel
theorem dL_law_198 : decode cL_law 198 = .ok (.iaload, 1) := by decide +kernel
theorem dL_law_199 : decode cL_law 199 = .ok (.i2l, 1) := by decide +kernel
theorem dL_law_200 : decode cL_law 200 = .ok (.ldc2_w 75, 3) := by decide +kernel
theorem dL_law_203 : decode cL_law 203 = .ok (.land, 1) := by decide +kernel
theorem dL_law_204 : decode cL_law 204 = .ok (.lor, 1) := by decide +kernel
theorem dL_law_205 : decode cL_law 205 = .ok (.aload_n 0, 1) := by decide +kernel
theorem dL_law_206 : decode cL_law 206 = .ok (.iload 4, 2) := by decide +kernel
theorem dL_law_208 : decode cL_law 208 = .ok (.iconst 5, 1) := by decide +kernel
theorem dL_law_209 : decode cL_law 209 = .ok (.iadd, 1) := by decide +kernel
theorem dL_law_210 : decode cL_law 210 = .ok (.iaload, 1) := by decide +kernel
theorem dL_law_211 : decode cL_law 211 = .ok (.invokevirtual 82, 3) := by decide +kernel
theorem dL_law_214 : decode cL_law 214 = .ok (.aload_n 2, 1) := by decide +kernel
theorem dL_law_215 : decode cL_law 215 = .ok (.invokevirtual 83, 3) := by decide +kernel
theorem dL_law_218 : decode cL_law 218 = .ok (.iload 5, 2) := by decide +kernel
theorem dL_law_220 : decode cL_law 220 = .ok (.if_icmp .eq 5, 3) := by decide +kernel
theorem dL_law_223 : decode cL_law 223 = .ok (.iconst 0, 1) := by decide +kernel
theorem dL_law_224 : decode cL_law 224 = .ok (.ireturn, 1) := by decide +kernel
theorem dL_law_225 : decode cL_law 225 = .ok (.goto 1043, 3) := by decide +kernel
theorem dL_law_228 : decode cL_law 228 = .ok (.aload_n 1, 1) := by decide +kernel
theorem dL_law_229 : decode cL_law 229 = .ok (.aload_n 0, 1) := by decide +kernel
theorem dL_law_230 : decode cL_law 230 = .ok (.iload 4, 2) := by decide +kernel
theorem dL_law_232 : decode cL_law 232 = .ok (.iconst 1, 1) := by decide +kernel
theorem dL_law_233 : decode cL_law 233 = .ok (.iadd, 1) := by decide +kernel
theorem dL_law_234 : decode cL_law 234 = .ok (.iaload, 1) := by decide +kernel
theorem dL_law_235 : decode cL_law 235 = .ok (.ifCond .eq 7, 3) := by decide +kernel
theorem dL_law_238 : decode cL_law 238 = .ok (.iconst 1, 1) := by decide +kernel
theorem dL_law_239 : decode cL_law 239 = .ok (.goto 4, 3) := by decide +kernel
theorem dL_law_242 : decode cL_law 242 = .ok (.iconst 0, 1) := by decide +kernel
theorem dL_law_243 : decode cL_law 243 = .ok (.aload_n 0, 1) := by decide +kernel
theorem dL_law_244 : decode cL_law 244 = .ok (.iload 4, 2) := by decide +kernel
theorem dL_law_246 : decode cL_law 246 = .ok (.iconst 2, 1) := by decide +kernel
theorem dL_law_247 : decode cL_law 247 = .ok (.iadd, 1) := by decide +kernel
theorem dL_law_248 : decode cL_law 248 = .ok (.iaload, 1) := by decide +kernel
theorem dL_law_249 : decode cL_law 249 = .ok (.i2l, 1) := by decide +kernel
theorem dL_law_250 : decode cL_law 250 = .ok (.bipush 32, 2) := by decide +kernel
theorem dL_law_252 : decode cL_law 252 = .ok (.lshl, 1) := by decide +kernel
theorem dL_law_253 : decode cL_law 253 = .ok (.aload_n 0, 1) := by decide +kernel
theorem dL_law_254 : decode cL_law 254 = .ok (.iload 4, 2) := by decide +kernel
theorem dL_law_256 : decode cL_law 256 = .ok (.iconst 3, 1) := by decide +kernel
theorem dL_law_257 : decode cL_law 257 = .ok (.iadd, 1) := by decide +kernel
theorem dL_law_258 : decode cL_law 258 = .ok (.iaload, 1) := by decide +kernel
theorem dL_law_259 : decode cL_law 259 = .ok (.i2l, 1) := by decide +kernel
theorem dL_law_260 : decode cL_law 260 = .ok (.ldc2_w 75, 3) := by decide +kernel
theorem dL_law_263 : decode cL_law 263 = .ok (.land, 1) := by decide +kernel
theorem dL_law_264 : decode cL_law 264 = .ok (.lor, 1) := by decide +kernel
theorem dL_law_265 : decode cL_law 265 = .ok (.aload_n 0, 1) := by decide +kernel
theorem dL_law_266 : decode cL_law 266 = .ok (.iload 4, 2) := by decide +kernel
theorem dL_law_268 : decode cL_law 268 = .ok (.iconst 4, 1) := by decide +kernel
theorem dL_law_269 : decode cL_law 269 = .ok (.iadd, 1) := by decide +kernel
theorem dL_law_270 : decode cL_law 270 = .ok (.iaload, 1) := by decide +kernel
theorem dL_law_271 : decode cL_law 271 = .ok (.aload_n 3, 1) := by decide +kernel
theorem dL_law_272 : decode cL_law 272 = .ok (.invokestatic 87, 3) := by decide +kernel
theorem dL_law_275 : decode cL_law 275 = .ok (.istore 5, 2) := by decide +kernel
theorem dL_law_277 : decode cL_law 277 = .ok (.aload_n 2, 1) := by decide +kernel
theorem dL_law_278 : decode cL_law 278 = .ok (.aload_n 0, 1) := by decide +kernel
theorem dL_law_279 : decode cL_law 279 = .ok (.iload 4, 2) := by decide +kernel
theorem dL_law_281 : decode cL_law 281 = .ok (.iconst 1, 1) := by decide +kernel
theorem dL_law_282 : decode cL_law 282 = .ok (.iadd, 1) := by decide +kernel
theorem dL_law_283 : decode cL_law 283 = .ok (.iaload, 1) := by decide +kernel
theorem dL_law_284 : decode cL_law 284 = .ok (.ifCond .eq 7, 3) := by decide +kernel
theorem dL_law_287 : decode cL_law 287 = .ok (.iconst 1, 1) := by decide +kernel
theorem dL_law_288 : decode cL_law 288 = .ok (.goto 4, 3) := by decide +kernel
theorem dL_law_291 : decode cL_law 291 = .ok (.iconst 0, 1) := by decide +kernel
theorem dL_law_292 : decode cL_law 292 = .ok (.aload_n 0, 1) := by decide +kernel
theorem dL_law_293 : decode cL_law 293 = .ok (.iload 4, 2) := by decide +kernel
theorem dL_law_295 : decode cL_law 295 = .ok (.iconst 2, 1) := by decide +kernel
theorem dL_law_296 : decode cL_law 296 = .ok (.iadd, 1) := by decide +kernel
theorem dL_law_297 : decode cL_law 297 = .ok (.iaload, 1) := by decide +kernel
theorem dL_law_298 : decode cL_law 298 = .ok (.i2l, 1) := by decide +kernel
theorem dL_law_299 : decode cL_law 299 = .ok (.bipush 32, 2) := by decide +kernel
theorem dL_law_301 : decode cL_law 301 = .ok (.lshl, 1) := by decide +kernel
theorem dL_law_302 : decode cL_law 302 = .ok (.aload_n 0, 1) := by decide +kernel
theorem dL_law_303 : decode cL_law 303 = .ok (.iload 4, 2) := by decide +kernel
theorem dL_law_305 : decode cL_law 305 = .ok (.iconst 3, 1) := by decide +kernel
theorem dL_law_306 : decode cL_law 306 = .ok (.iadd, 1) := by decide +kernel
theorem dL_law_307 : decode cL_law 307 = .ok (.iaload, 1) := by decide +kernel
theorem dL_law_308 : decode cL_law 308 = .ok (.i2l, 1) := by decide +kernel
theorem dL_law_309 : decode cL_law 309 = .ok (.ldc2_w 75, 3) := by decide +kernel
theorem dL_law_312 : decode cL_law 312 = .ok (.land, 1) := by decide +kernel
theorem dL_law_313 : decode cL_law 313 = .ok (.lor, 1) := by decide +kernel
theorem dL_law_314 : decode cL_law 314 = .ok (.aload_n 0, 1) := by decide +kernel
theorem dL_law_315 : decode cL_law 315 = .ok (.iload 4, 2) := by decide +kernel
theorem dL_law_317 : decode cL_law 317 = .ok (.iconst 4, 1) := by decide +kernel
theorem dL_law_318 : decode cL_law 318 = .ok (.iadd, 1) := by decide +kernel
theorem dL_law_319 : decode cL_law 319 = .ok (.iaload, 1) := by decide +kernel
theorem dL_law_320 : decode cL_law 320 = .ok (.invokevirtual 90, 3) := by decide +kernel
theorem dL_law_323 : decode cL_law 323 = .ok (.istore 6, 2) := by decide +kernel
theorem dL_law_325 : decode cL_law 325 = .ok (.aload_n 2, 1) := by decide +kernel
theorem dL_law_326 : decode cL_law 326 = .ok (.invokevirtual 83, 3) := by decide +kernel
theorem dL_law_329 : decode cL_law 329 = .ok (.iload 5, 2) := by decide +kernel
theorem dL_law_331 : decode cL_law 331 = .ok (.if_icmp .eq 5, 3) := by decide +kernel
theorem dL_law_334 : decode cL_law 334 = .ok (.iconst 0, 1) := by decide +kernel
theorem dL_law_335 : decode cL_law 335 = .ok (.ireturn, 1) := by decide +kernel
theorem dL_law_336 : decode cL_law 336 = .ok (.iload 5, 2) := by decide +kernel
theorem dL_law_338 : decode cL_law 338 = .ok (.ifCond .ne 15, 3) := by decide +kernel
theorem dL_law_341 : decode cL_law 341 = .ok (.aload_n 3, 1) := by decide +kernel
theorem dL_law_342 : decode cL_law 342 = .ok (.iconst 0, 1) := by decide +kernel
theorem dL_law_343 : decode cL_law 343 = .ok (.laload, 1) := by decide +kernel
theorem dL_law_344 : decode cL_law 344 = .ok (.iload 6, 2) := by decide +kernel
theorem dL_law_346 : decode cL_law 346 = .ok (.i2l, 1) := by decide +kernel
theorem dL_law_347 : decode cL_law 347 = .ok (.lcmp, 1) := by decide +kernel
theorem dL_law_348 : decode cL_law 348 = .ok (.ifCond .eq 5, 3) := by decide +kernel
theorem dL_law_351 : decode cL_law 351 = .ok (.iconst 0, 1) := by decide +kernel
theorem dL_law_352 : decode cL_law 352 = .ok (.ireturn, 1) := by decide +kernel
theorem dL_law_353 : decode cL_law 353 = .ok (.goto 915, 3) := by decide +kernel
theorem dL_law_356 : decode cL_law 356 = .ok (.aload_n 1, 1) := by decide +kernel
theorem dL_law_357 : decode cL_law 357 = .ok (.aload_n 0, 1) := by decide +kernel
theorem dL_law_358 : decode cL_law 358 = .ok (.iload 4, 2) := by decide +kernel
theorem dL_law_360 : decode cL_law 360 = .ok (.iconst 1, 1) := by decide +kernel
theorem dL_law_361 : decode cL_law 361 = .ok (.iadd, 1) := by decide +kernel
theorem dL_law_362 : decode cL_law 362 = .ok (.iaload, 1) := by decide +kernel
theorem dL_law_363 : decode cL_law 363 = .ok (.ifCond .eq 7, 3) := by decide +kernel
theorem dL_law_366 : decode cL_law 366 = .ok (.iconst 1, 1) := by decide +kernel
theorem dL_law_367 : decode cL_law 367 = .ok (.goto 4, 3) := by decide +kernel
theorem dL_law_370 : decode cL_law 370 = .ok (.iconst 0, 1) := by decide +kernel
theorem dL_law_371 : decode cL_law 371 = .ok (.invokevirtual 91, 3) := by decide +kernel
theorem dL_law_374 : decode cL_law 374 = .ok (.aload_n 2, 1) := by decide +kernel
theorem dL_law_375 : decode cL_law 375 = .ok (.aload_n 0, 1) := by decide +kernel
theorem dL_law_376 : decode cL_law 376 = .ok (.iload 4, 2) := by decide +kernel
theorem dL_law_378 : decode cL_law 378 = .ok (.iconst 1, 1) := by decide +kernel
theorem dL_law_379 : decode cL_law 379 = .ok (.iadd, 1) := by decide +kernel
theorem dL_law_380 : decode cL_law 380 = .ok (.iaload, 1) := by decide +kernel
theorem dL_law_381 : decode cL_law 381 = .ok (.ifCond .eq 7, 3) := by decide +kernel
theorem dL_law_384 : decode cL_law 384 = .ok (.iconst 1, 1) := by decide +kernel
theorem dL_law_385 : decode cL_law 385 = .ok (.goto 4, 3) := by decide +kernel
theorem dL_law_388 : decode cL_law 388 = .ok (.iconst 0, 1) := by decide +kernel
theorem dL_law_389 : decode cL_law 389 = .ok (.invokevirtual 95, 3) := by decide +kernel
theorem dL_law_392 : decode cL_law 392 = .ok (.goto 876, 3) := by decide +kernel
theorem dL_law_395 : decode cL_law 395 = .ok (.aload_n 1, 1) := by decide +kernel
theorem dL_law_396 : decode cL_law 396 = .ok (.aload_n 0, 1) := by decide +kernel
theorem dL_law_397 : decode cL_law 397 = .ok (.iload 4, 2) := by decide +kernel
theorem dL_law_399 : decode cL_law 399 = .ok (.iconst 1, 1) := by decide +kernel
theorem dL_law_400 : decode cL_law 400 = .ok (.iadd, 1) := by decide +kernel
theorem dL_law_401 : decode cL_law 401 = .ok (.iaload, 1) := by decide +kernel
theorem dL_law_402 : decode cL_law 402 = .ok (.aload_n 3, 1) := by decide +kernel
theorem dL_law_403 : decode cL_law 403 = .ok (.invokestatic 96, 3) := by decide +kernel
theorem dL_law_406 : decode cL_law 406 = .ok (.istore 5, 2) := by decide +kernel
theorem dL_law_408 : decode cL_law 408 = .ok (.aload_n 2, 1) := by decide +kernel
theorem dL_law_409 : decode cL_law 409 = .ok (.aload_n 0, 1) := by decide +kernel
theorem dL_law_410 : decode cL_law 410 = .ok (.iload 4, 2) := by decide +kernel
theorem dL_law_412 : decode cL_law 412 = .ok (.iconst 1, 1) := by decide +kernel
theorem dL_law_413 : decode cL_law 413 = .ok (.iadd, 1) := by decide +kernel
theorem dL_law_414 : decode cL_law 414 = .ok (.iaload, 1) := by decide +kernel
theorem dL_law_415 : decode cL_law 415 = .ok (.invokevirtual 99, 3) := by decide +kernel
theorem dL_law_418 : decode cL_law 418 = .ok (.istore 6, 2) := by decide +kernel
theorem dL_law_420 : decode cL_law 420 = .ok (.aload_n 2, 1) := by decide +kernel
theorem dL_law_421 : decode cL_law 421 = .ok (.invokevirtual 83, 3) := by decide +kernel
theorem dL_law_424 : decode cL_law 424 = .ok (.iload 5, 2) := by decide +kernel
theorem dL_law_426 : decode cL_law 426 = .ok (.if_icmp .eq 5, 3) := by decide +kernel
theorem dL_law_429 : decode cL_law 429 = .ok (.iconst 0, 1) := by decide +kernel
theorem dL_law_430 : decode cL_law 430 = .ok (.ireturn, 1) := by decide +kernel
theorem dL_law_431 : decode cL_law 431 = .ok (.iload 5, 2) := by decide +kernel
theorem dL_law_433 : decode cL_law 433 = .ok (.ifCond .ne 15, 3) := by decide +kernel
theorem dL_law_436 : decode cL_law 436 = .ok (.aload_n 3, 1) := by decide +kernel
theorem dL_law_437 : decode cL_law 437 = .ok (.iconst 0, 1) := by decide +kernel
theorem dL_law_438 : decode cL_law 438 = .ok (.laload, 1) := by decide +kernel
theorem dL_law_439 : decode cL_law 439 = .ok (.iload 6, 2) := by decide +kernel
theorem dL_law_441 : decode cL_law 441 = .ok (.i2l, 1) := by decide +kernel
theorem dL_law_442 : decode cL_law 442 = .ok (.lcmp, 1) := by decide +kernel
theorem dL_law_443 : decode cL_law 443 = .ok (.ifCond .eq 5, 3) := by decide +kernel
theorem dL_law_446 : decode cL_law 446 = .ok (.iconst 0, 1) := by decide +kernel
theorem dL_law_447 : decode cL_law 447 = .ok (.ireturn, 1) := by decide +kernel
theorem dL_law_448 : decode cL_law 448 = .ok (.goto 820, 3) := by decide +kernel
theorem dL_law_451 : decode cL_law 451 = .ok (.aload_n 1, 1) := by decide +kernel
theorem dL_law_452 : decode cL_law 452 = .ok (.aload_n 0, 1) := by decide +kernel
theorem dL_law_453 : decode cL_law 453 = .ok (.iload 4, 2) := by decide +kernel
theorem dL_law_455 : decode cL_law 455 = .ok (.iconst 1, 1) := by decide +kernel
theorem dL_law_456 : decode cL_law 456 = .ok (.iadd, 1) := by decide +kernel
theorem dL_law_457 : decode cL_law 457 = .ok (.iaload, 1) := by decide +kernel
theorem dL_law_458 : decode cL_law 458 = .ok (.aload_n 0, 1) := by decide +kernel
theorem dL_law_459 : decode cL_law 459 = .ok (.iload 4, 2) := by decide +kernel
theorem dL_law_461 : decode cL_law 461 = .ok (.iconst 2, 1) := by decide +kernel
theorem dL_law_462 : decode cL_law 462 = .ok (.iadd, 1) := by decide +kernel
theorem dL_law_463 : decode cL_law 463 = .ok (.iaload, 1) := by decide +kernel
theorem dL_law_464 : decode cL_law 464 = .ok (.aload_n 3, 1) := by decide +kernel
theorem dL_law_465 : decode cL_law 465 = .ok (.invokestatic 100, 3) := by decide +kernel
theorem dL_law_468 : decode cL_law 468 = .ok (.istore 5, 2) := by decide +kernel
theorem dL_law_470 : decode cL_law 470 = .ok (.aload_n 2, 1) := by decide +kernel
theorem dL_law_471 : decode cL_law 471 = .ok (.aload_n 0, 1) := by decide +kernel
theorem dL_law_472 : decode cL_law 472 = .ok (.iload 4, 2) := by decide +kernel
theorem dL_law_474 : decode cL_law 474 = .ok (.iconst 1, 1) := by decide +kernel
theorem dL_law_475 : decode cL_law 475 = .ok (.iadd, 1) := by decide +kernel
theorem dL_law_476 : decode cL_law 476 = .ok (.iaload, 1) := by decide +kernel
theorem dL_law_477 : decode cL_law 477 = .ok (.aload_n 0, 1) := by decide +kernel
theorem dL_law_478 : decode cL_law 478 = .ok (.iload 4, 2) := by decide +kernel
theorem dL_law_480 : decode cL_law 480 = .ok (.iconst 2, 1) := by decide +kernel
theorem dL_law_481 : decode cL_law 481 = .ok (.iadd, 1) := by decide +kernel
theorem dL_law_482 : decode cL_law 482 = .ok (.iaload, 1) := by decide +kernel
theorem dL_law_483 : decode cL_law 483 = .ok (.invokevirtual 103, 3) := by decide +kernel
theorem dL_law_486 : decode cL_law 486 = .ok (.istore 6, 2) := by decide +kernel
theorem dL_law_488 : decode cL_law 488 = .ok (.aload_n 2, 1) := by decide +kernel
theorem dL_law_489 : decode cL_law 489 = .ok (.invokevirtual 83, 3) := by decide +kernel
theorem dL_law_492 : decode cL_law 492 = .ok (.iload 5, 2) := by decide +kernel
theorem dL_law_494 : decode cL_law 494 = .ok (.if_icmp .eq 5, 3) := by decide +kernel
theorem dL_law_497 : decode cL_law 497 = .ok (.iconst 0, 1) := by decide +kernel
theorem dL_law_498 : decode cL_law 498 = .ok (.ireturn, 1) := by decide +kernel
theorem dL_law_499 : decode cL_law 499 = .ok (.iload 5, 2) := by decide +kernel
theorem dL_law_501 : decode cL_law 501 = .ok (.ifCond .ne 15, 3) := by decide +kernel
theorem dL_law_504 : decode cL_law 504 = .ok (.aload_n 3, 1) := by decide +kernel
theorem dL_law_505 : decode cL_law 505 = .ok (.iconst 0, 1) := by decide +kernel
theorem dL_law_506 : decode cL_law 506 = .ok (.laload, 1) := by decide +kernel
theorem dL_law_507 : decode cL_law 507 = .ok (.iload 6, 2) := by decide +kernel
theorem dL_law_509 : decode cL_law 509 = .ok (.i2l, 1) := by decide +kernel
theorem dL_law_510 : decode cL_law 510 = .ok (.lcmp, 1) := by decide +kernel
theorem dL_law_511 : decode cL_law 511 = .ok (.ifCond .eq 5, 3) := by decide +kernel
theorem dL_law_514 : decode cL_law 514 = .ok (.iconst 0, 1) := by decide +kernel
theorem dL_law_515 : decode cL_law 515 = .ok (.ireturn, 1) := by decide +kernel
theorem dL_law_516 : decode cL_law 516 = .ok (.goto 752, 3) := by decide +kernel
theorem dL_law_519 : decode cL_law 519 = .ok (.aload_n 1, 1) := by decide +kernel
theorem dL_law_520 : decode cL_law 520 = .ok (.invokevirtual 104, 3) := by decide +kernel
theorem dL_law_523 : decode cL_law 523 = .ok (.aload_n 2, 1) := by decide +kernel
theorem dL_law_524 : decode cL_law 524 = .ok (.invokevirtual 107, 3) := by decide +kernel
theorem dL_law_527 : decode cL_law 527 = .ok (.if_icmp .eq 741, 3) := by decide +kernel
theorem dL_law_530 : decode cL_law 530 = .ok (.iconst 0, 1) := by decide +kernel
theorem dL_law_531 : decode cL_law 531 = .ok (.ireturn, 1) := by decide +kernel
theorem dL_law_532 : decode cL_law 532 = .ok (.aload_n 1, 1) := by decide +kernel
theorem dL_law_533 : decode cL_law 533 = .ok (.aload_n 0, 1) := by decide +kernel
theorem dL_law_534 : decode cL_law 534 = .ok (.iload 4, 2) := by decide +kernel
theorem dL_law_536 : decode cL_law 536 = .ok (.iconst 1, 1) := by decide +kernel
theorem dL_law_537 : decode cL_law 537 = .ok (.iadd, 1) := by decide +kernel
theorem dL_law_538 : decode cL_law 538 = .ok (.iaload, 1) := by decide +kernel
theorem dL_law_539 : decode cL_law 539 = .ok (.ifCond .eq 7, 3) := by decide +kernel
theorem dL_law_542 : decode cL_law 542 = .ok (.iconst 1, 1) := by decide +kernel
theorem dL_law_543 : decode cL_law 543 = .ok (.goto 4, 3) := by decide +kernel
theorem dL_law_546 : decode cL_law 546 = .ok (.iconst 0, 1) := by decide +kernel
theorem dL_law_547 : decode cL_law 547 = .ok (.aload_n 0, 1) := by decide +kernel
theorem dL_law_548 : decode cL_law 548 = .ok (.iload 4, 2) := by decide +kernel
theorem dL_law_550 : decode cL_law 550 = .ok (.iconst 2, 1) := by decide +kernel
theorem dL_law_551 : decode cL_law 551 = .ok (.iadd, 1) := by decide +kernel
theorem dL_law_552 : decode cL_law 552 = .ok (.iaload, 1) := by decide +kernel
theorem dL_law_553 : decode cL_law 553 = .ok (.invokestatic 108, 3) := by decide +kernel
theorem dL_law_556 : decode cL_law 556 = .ok (.istore 5, 2) := by decide +kernel
theorem dL_law_558 : decode cL_law 558 = .ok (.aload_n 2, 1) := by decide +kernel
theorem dL_law_559 : decode cL_law 559 = .ok (.aload_n 0, 1) := by decide +kernel
theorem dL_law_560 : decode cL_law 560 = .ok (.iload 4, 2) := by decide +kernel
theorem dL_law_562 : decode cL_law 562 = .ok (.iconst 1, 1) := by decide +kernel
theorem dL_law_563 : decode cL_law 563 = .ok (.iadd, 1) := by decide +kernel
theorem dL_law_564 : decode cL_law 564 = .ok (.iaload, 1) := by decide +kernel
theorem dL_law_565 : decode cL_law 565 = .ok (.ifCond .eq 7, 3) := by decide +kernel
theorem dL_law_568 : decode cL_law 568 = .ok (.iconst 1, 1) := by decide +kernel
theorem dL_law_569 : decode cL_law 569 = .ok (.goto 4, 3) := by decide +kernel
theorem dL_law_572 : decode cL_law 572 = .ok (.iconst 0, 1) := by decide +kernel
theorem dL_law_573 : decode cL_law 573 = .ok (.aload_n 0, 1) := by decide +kernel
theorem dL_law_574 : decode cL_law 574 = .ok (.iload 4, 2) := by decide +kernel
theorem dL_law_576 : decode cL_law 576 = .ok (.iconst 2, 1) := by decide +kernel
theorem dL_law_577 : decode cL_law 577 = .ok (.iadd, 1) := by decide +kernel
theorem dL_law_578 : decode cL_law 578 = .ok (.iaload, 1) := by decide +kernel
theorem dL_law_579 : decode cL_law 579 = .ok (.invokevirtual 111, 3) := by decide +kernel
theorem dL_law_582 : decode cL_law 582 = .ok (.aload_n 2, 1) := by decide +kernel
theorem dL_law_583 : decode cL_law 583 = .ok (.invokevirtual 83, 3) := by decide +kernel
theorem dL_law_586 : decode cL_law 586 = .ok (.iload 5, 2) := by decide +kernel
theorem dL_law_588 : decode cL_law 588 = .ok (.if_icmp .eq 5, 3) := by decide +kernel
theorem dL_law_591 : decode cL_law 591 = .ok (.iconst 0, 1) := by decide +kernel
theorem dL_law_592 : decode cL_law 592 = .ok (.ireturn, 1) := by decide +kernel
theorem dL_law_593 : decode cL_law 593 = .ok (.goto 675, 3) := by decide +kernel
theorem dL_law_596 : decode cL_law 596 = .ok (.aload_n 1, 1) := by decide +kernel
theorem dL_law_597 : decode cL_law 597 = .ok (.aload_n 0, 1) := by decide +kernel
theorem dL_law_598 : decode cL_law 598 = .ok (.iload 4, 2) := by decide +kernel
theorem dL_law_600 : decode cL_law 600 = .ok (.iconst 1, 1) := by decide +kernel
theorem dL_law_601 : decode cL_law 601 = .ok (.iadd, 1) := by decide +kernel
theorem dL_law_602 : decode cL_law 602 = .ok (.iaload, 1) := by decide +kernel
theorem dL_law_603 : decode cL_law 603 = .ok (.aload_n 0, 1) := by decide +kernel
theorem dL_law_604 : decode cL_law 604 = .ok (.iload 4, 2) := by decide +kernel
theorem dL_law_606 : decode cL_law 606 = .ok (.iconst 2, 1) := by decide +kernel
theorem dL_law_607 : decode cL_law 607 = .ok (.iadd, 1) := by decide +kernel
theorem dL_law_608 : decode cL_law 608 = .ok (.iaload, 1) := by decide +kernel
theorem dL_law_609 : decode cL_law 609 = .ok (.ifCond .eq 7, 3) := by decide +kernel
theorem dL_law_612 : decode cL_law 612 = .ok (.iconst 1, 1) := by decide +kernel
theorem dL_law_613 : decode cL_law 613 = .ok (.goto 4, 3) := by decide +kernel
theorem dL_law_616 : decode cL_law 616 = .ok (.iconst 0, 1) := by decide +kernel
theorem dL_law_617 : decode cL_law 617 = .ok (.aload_n 3, 1) := by decide +kernel
theorem dL_law_618 : decode cL_law 618 = .ok (.invokestatic 112, 3) := by decide +kernel
theorem dL_law_621 : decode cL_law 621 = .ok (.istore 5, 2) := by decide +kernel
theorem dL_law_623 : decode cL_law 623 = .ok (.aload_n 2, 1) := by decide +kernel
theorem dL_law_624 : decode cL_law 624 = .ok (.aload_n 0, 1) := by decide +kernel
theorem dL_law_625 : decode cL_law 625 = .ok (.iload 4, 2) := by decide +kernel
theorem dL_law_627 : decode cL_law 627 = .ok (.iconst 1, 1) := by decide +kernel
theorem dL_law_628 : decode cL_law 628 = .ok (.iadd, 1) := by decide +kernel
theorem dL_law_629 : decode cL_law 629 = .ok (.iaload, 1) := by decide +kernel
theorem dL_law_630 : decode cL_law 630 = .ok (.aload_n 0, 1) := by decide +kernel
theorem dL_law_631 : decode cL_law 631 = .ok (.iload 4, 2) := by decide +kernel
theorem dL_law_633 : decode cL_law 633 = .ok (.iconst 2, 1) := by decide +kernel
theorem dL_law_634 : decode cL_law 634 = .ok (.iadd, 1) := by decide +kernel
theorem dL_law_635 : decode cL_law 635 = .ok (.iaload, 1) := by decide +kernel
theorem dL_law_636 : decode cL_law 636 = .ok (.ifCond .eq 7, 3) := by decide +kernel
theorem dL_law_639 : decode cL_law 639 = .ok (.iconst 1, 1) := by decide +kernel
theorem dL_law_640 : decode cL_law 640 = .ok (.goto 4, 3) := by decide +kernel
theorem dL_law_643 : decode cL_law 643 = .ok (.iconst 0, 1) := by decide +kernel
theorem dL_law_644 : decode cL_law 644 = .ok (.invokevirtual 115, 3) := by decide +kernel
theorem dL_law_647 : decode cL_law 647 = .ok (.istore 6, 2) := by decide +kernel
theorem dL_law_649 : decode cL_law 649 = .ok (.aload_n 2, 1) := by decide +kernel
theorem dL_law_650 : decode cL_law 650 = .ok (.invokevirtual 83, 3) := by decide +kernel
theorem dL_law_653 : decode cL_law 653 = .ok (.iload 5, 2) := by decide +kernel
theorem dL_law_655 : decode cL_law 655 = .ok (.if_icmp .eq 5, 3) := by decide +kernel
theorem dL_law_658 : decode cL_law 658 = .ok (.iconst 0, 1) := by decide +kernel
theorem dL_law_659 : decode cL_law 659 = .ok (.ireturn, 1) := by decide +kernel
theorem dL_law_660 : decode cL_law 660 = .ok (.iload 5, 2) := by decide +kernel
theorem dL_law_662 : decode cL_law 662 = .ok (.ifCond .ne 22, 3) := by decide +kernel
theorem dL_law_665 : decode cL_law 665 = .ok (.aload_n 3, 1) := by decide +kernel
theorem dL_law_666 : decode cL_law 666 = .ok (.iconst 0, 1) := by decide +kernel
theorem dL_law_667 : decode cL_law 667 = .ok (.laload, 1) := by decide +kernel
theorem dL_law_668 : decode cL_law 668 = .ok (.iload 6, 2) := by decide +kernel
theorem dL_law_670 : decode cL_law 670 = .ok (.ifCond .eq 7, 3) := by decide +kernel
theorem dL_law_673 : decode cL_law 673 = .ok (.lconst 1, 1) := by decide +kernel
theorem dL_law_674 : decode cL_law 674 = .ok (.goto 4, 3) := by decide +kernel
theorem dL_law_677 : decode cL_law 677 = .ok (.lconst 0, 1) := by decide +kernel
theorem dL_law_678 : decode cL_law 678 = .ok (.lcmp, 1) := by decide +kernel
theorem dL_law_679 : decode cL_law 679 = .ok (.ifCond .eq 5, 3) := by decide +kernel
theorem dL_law_682 : decode cL_law 682 = .ok (.iconst 0, 1) := by decide +kernel
theorem dL_law_683 : decode cL_law 683 = .ok (.ireturn, 1) := by decide +kernel
theorem dL_law_684 : decode cL_law 684 = .ok (.goto 584, 3) := by decide +kernel
theorem dL_law_687 : decode cL_law 687 = .ok (.aload_n 1, 1) := by decide +kernel
theorem dL_law_688 : decode cL_law 688 = .ok (.aload_n 0, 1) := by decide +kernel
theorem dL_law_689 : decode cL_law 689 = .ok (.iload 4, 2) := by decide +kernel
theorem dL_law_691 : decode cL_law 691 = .ok (.iconst 1, 1) := by decide +kernel
theorem dL_law_692 : decode cL_law 692 = .ok (.iadd, 1) := by decide +kernel
theorem dL_law_693 : decode cL_law 693 = .ok (.iaload, 1) := by decide +kernel
theorem dL_law_694 : decode cL_law 694 = .ok (.invokestatic 116, 3) := by decide +kernel
theorem dL_law_697 : decode cL_law 697 = .ok (.istore 5, 2) := by decide +kernel
theorem dL_law_699 : decode cL_law 699 = .ok (.aload_n 2, 1) := by decide +kernel
theorem dL_law_700 : decode cL_law 700 = .ok (.aload_n 0, 1) := by decide +kernel
theorem dL_law_701 : decode cL_law 701 = .ok (.iload 4, 2) := by decide +kernel
theorem dL_law_703 : decode cL_law 703 = .ok (.iconst 1, 1) := by decide +kernel
theorem dL_law_704 : decode cL_law 704 = .ok (.iadd, 1) := by decide +kernel
theorem dL_law_705 : decode cL_law 705 = .ok (.iaload, 1) := by decide +kernel
theorem dL_law_706 : decode cL_law 706 = .ok (.invokevirtual 119, 3) := by decide +kernel
theorem dL_law_709 : decode cL_law 709 = .ok (.aload_n 2, 1) := by decide +kernel
theorem dL_law_710 : decode cL_law 710 = .ok (.invokevirtual 83, 3) := by decide +kernel
theorem dL_law_713 : decode cL_law 713 = .ok (.iload 5, 2) := by decide +kernel
theorem dL_law_715 : decode cL_law 715 = .ok (.if_icmp .eq 5, 3) := by decide +kernel
theorem dL_law_718 : decode cL_law 718 = .ok (.iconst 0, 1) := by decide +kernel
theorem dL_law_719 : decode cL_law 719 = .ok (.ireturn, 1) := by decide +kernel
theorem dL_law_720 : decode cL_law 720 = .ok (.goto 548, 3) := by decide +kernel
theorem dL_law_723 : decode cL_law 723 = .ok (.aload_n 1, 1) := by decide +kernel
theorem dL_law_724 : decode cL_law 724 = .ok (.aload_n 0, 1) := by decide +kernel
theorem dL_law_725 : decode cL_law 725 = .ok (.iload 4, 2) := by decide +kernel
theorem dL_law_727 : decode cL_law 727 = .ok (.iconst 1, 1) := by decide +kernel
theorem dL_law_728 : decode cL_law 728 = .ok (.iadd, 1) := by decide +kernel
theorem dL_law_729 : decode cL_law 729 = .ok (.iaload, 1) := by decide +kernel
theorem dL_law_730 : decode cL_law 730 = .ok (.aload_n 0, 1) := by decide +kernel
theorem dL_law_731 : decode cL_law 731 = .ok (.iload 4, 2) := by decide +kernel
theorem dL_law_733 : decode cL_law 733 = .ok (.iconst 2, 1) := by decide +kernel
theorem dL_law_734 : decode cL_law 734 = .ok (.iadd, 1) := by decide +kernel
theorem dL_law_735 : decode cL_law 735 = .ok (.iaload, 1) := by decide +kernel
theorem dL_law_736 : decode cL_law 736 = .ok (.ifCond .eq 7, 3) := by decide +kernel
theorem dL_law_739 : decode cL_law 739 = .ok (.iconst 1, 1) := by decide +kernel
theorem dL_law_740 : decode cL_law 740 = .ok (.goto 4, 3) := by decide +kernel
theorem dL_law_743 : decode cL_law 743 = .ok (.iconst 0, 1) := by decide +kernel
theorem dL_law_744 : decode cL_law 744 = .ok (.invokestatic 120, 3) := by decide +kernel
theorem dL_law_747 : decode cL_law 747 = .ok (.istore 5, 2) := by decide +kernel
theorem dL_law_749 : decode cL_law 749 = .ok (.aload_n 2, 1) := by decide +kernel
theorem dL_law_750 : decode cL_law 750 = .ok (.aload_n 0, 1) := by decide +kernel
theorem dL_law_751 : decode cL_law 751 = .ok (.iload 4, 2) := by decide +kernel
theorem dL_law_753 : decode cL_law 753 = .ok (.iconst 1, 1) := by decide +kernel
theorem dL_law_754 : decode cL_law 754 = .ok (.iadd, 1) := by decide +kernel
theorem dL_law_755 : decode cL_law 755 = .ok (.iaload, 1) := by decide +kernel
theorem dL_law_756 : decode cL_law 756 = .ok (.aload_n 0, 1) := by decide +kernel
theorem dL_law_757 : decode cL_law 757 = .ok (.iload 4, 2) := by decide +kernel
theorem dL_law_759 : decode cL_law 759 = .ok (.iconst 2, 1) := by decide +kernel
theorem dL_law_760 : decode cL_law 760 = .ok (.iadd, 1) := by decide +kernel
theorem dL_law_761 : decode cL_law 761 = .ok (.iaload, 1) := by decide +kernel
theorem dL_law_762 : decode cL_law 762 = .ok (.ifCond .eq 7, 3) := by decide +kernel
theorem dL_law_765 : decode cL_law 765 = .ok (.iconst 1, 1) := by decide +kernel
theorem dL_law_766 : decode cL_law 766 = .ok (.goto 4, 3) := by decide +kernel
theorem dL_law_769 : decode cL_law 769 = .ok (.iconst 0, 1) := by decide +kernel
theorem dL_law_770 : decode cL_law 770 = .ok (.invokevirtual 123, 3) := by decide +kernel
theorem dL_law_773 : decode cL_law 773 = .ok (.aload_n 2, 1) := by decide +kernel
theorem dL_law_774 : decode cL_law 774 = .ok (.invokevirtual 83, 3) := by decide +kernel
theorem dL_law_777 : decode cL_law 777 = .ok (.iload 5, 2) := by decide +kernel
theorem dL_law_779 : decode cL_law 779 = .ok (.if_icmp .eq 5, 3) := by decide +kernel
theorem dL_law_782 : decode cL_law 782 = .ok (.iconst 0, 1) := by decide +kernel
theorem dL_law_783 : decode cL_law 783 = .ok (.ireturn, 1) := by decide +kernel
theorem dL_law_784 : decode cL_law 784 = .ok (.goto 484, 3) := by decide +kernel
theorem dL_law_787 : decode cL_law 787 = .ok (.aload_n 1, 1) := by decide +kernel
theorem dL_law_788 : decode cL_law 788 = .ok (.aload_n 0, 1) := by decide +kernel
theorem dL_law_789 : decode cL_law 789 = .ok (.iload 4, 2) := by decide +kernel
theorem dL_law_791 : decode cL_law 791 = .ok (.iconst 1, 1) := by decide +kernel
theorem dL_law_792 : decode cL_law 792 = .ok (.iadd, 1) := by decide +kernel
theorem dL_law_793 : decode cL_law 793 = .ok (.iaload, 1) := by decide +kernel
theorem dL_law_794 : decode cL_law 794 = .ok (.aload_n 0, 1) := by decide +kernel
theorem dL_law_795 : decode cL_law 795 = .ok (.iload 4, 2) := by decide +kernel
theorem dL_law_797 : decode cL_law 797 = .ok (.iconst 2, 1) := by decide +kernel
theorem dL_law_798 : decode cL_law 798 = .ok (.iadd, 1) := by decide +kernel
theorem dL_law_799 : decode cL_law 799 = .ok (.iaload, 1) := by decide +kernel
theorem dL_law_800 : decode cL_law 800 = .ok (.ifCond .eq 7, 3) := by decide +kernel
theorem dL_law_803 : decode cL_law 803 = .ok (.iconst 1, 1) := by decide +kernel
theorem dL_law_804 : decode cL_law 804 = .ok (.goto 4, 3) := by decide +kernel
theorem dL_law_807 : decode cL_law 807 = .ok (.iconst 0, 1) := by decide +kernel
theorem dL_law_808 : decode cL_law 808 = .ok (.aload_n 3, 1) := by decide +kernel
theorem dL_law_809 : decode cL_law 809 = .ok (.invokestatic 124, 3) := by decide +kernel
theorem dL_law_812 : decode cL_law 812 = .ok (.istore 5, 2) := by decide +kernel
theorem dL_law_814 : decode cL_law 814 = .ok (.aload_n 2, 1) := by decide +kernel
theorem dL_law_815 : decode cL_law 815 = .ok (.aload_n 0, 1) := by decide +kernel
theorem dL_law_816 : decode cL_law 816 = .ok (.iload 4, 2) := by decide +kernel
theorem dL_law_818 : decode cL_law 818 = .ok (.iconst 1, 1) := by decide +kernel
theorem dL_law_819 : decode cL_law 819 = .ok (.iadd, 1) := by decide +kernel
theorem dL_law_820 : decode cL_law 820 = .ok (.iaload, 1) := by decide +kernel
theorem dL_law_821 : decode cL_law 821 = .ok (.aload_n 0, 1) := by decide +kernel
theorem dL_law_822 : decode cL_law 822 = .ok (.iload 4, 2) := by decide +kernel
theorem dL_law_824 : decode cL_law 824 = .ok (.iconst 2, 1) := by decide +kernel
theorem dL_law_825 : decode cL_law 825 = .ok (.iadd, 1) := by decide +kernel
theorem dL_law_826 : decode cL_law 826 = .ok (.iaload, 1) := by decide +kernel
theorem dL_law_827 : decode cL_law 827 = .ok (.ifCond .eq 7, 3) := by decide +kernel
theorem dL_law_830 : decode cL_law 830 = .ok (.iconst 1, 1) := by decide +kernel
theorem dL_law_831 : decode cL_law 831 = .ok (.goto 4, 3) := by decide +kernel
theorem dL_law_834 : decode cL_law 834 = .ok (.iconst 0, 1) := by decide +kernel
theorem dL_law_835 : decode cL_law 835 = .ok (.invokevirtual 126, 3) := by decide +kernel
theorem dL_law_838 : decode cL_law 838 = .ok (.istore 6, 2) := by decide +kernel
theorem dL_law_840 : decode cL_law 840 = .ok (.aload_n 2, 1) := by decide +kernel
theorem dL_law_841 : decode cL_law 841 = .ok (.invokevirtual 83, 3) := by decide +kernel
theorem dL_law_844 : decode cL_law 844 = .ok (.iload 5, 2) := by decide +kernel
theorem dL_law_846 : decode cL_law 846 = .ok (.if_icmp .eq 5, 3) := by decide +kernel
theorem dL_law_849 : decode cL_law 849 = .ok (.iconst 0, 1) := by decide +kernel
theorem dL_law_850 : decode cL_law 850 = .ok (.ireturn, 1) := by decide +kernel
theorem dL_law_851 : decode cL_law 851 = .ok (.iload 5, 2) := by decide +kernel
theorem dL_law_853 : decode cL_law 853 = .ok (.ifCond .ne 22, 3) := by decide +kernel
theorem dL_law_856 : decode cL_law 856 = .ok (.aload_n 3, 1) := by decide +kernel
theorem dL_law_857 : decode cL_law 857 = .ok (.iconst 0, 1) := by decide +kernel
theorem dL_law_858 : decode cL_law 858 = .ok (.laload, 1) := by decide +kernel
theorem dL_law_859 : decode cL_law 859 = .ok (.iload 6, 2) := by decide +kernel
theorem dL_law_861 : decode cL_law 861 = .ok (.ifCond .eq 7, 3) := by decide +kernel
theorem dL_law_864 : decode cL_law 864 = .ok (.lconst 1, 1) := by decide +kernel
theorem dL_law_865 : decode cL_law 865 = .ok (.goto 4, 3) := by decide +kernel
theorem dL_law_868 : decode cL_law 868 = .ok (.lconst 0, 1) := by decide +kernel
theorem dL_law_869 : decode cL_law 869 = .ok (.lcmp, 1) := by decide +kernel
theorem dL_law_870 : decode cL_law 870 = .ok (.ifCond .eq 5, 3) := by decide +kernel
theorem dL_law_873 : decode cL_law 873 = .ok (.iconst 0, 1) := by decide +kernel
theorem dL_law_874 : decode cL_law 874 = .ok (.ireturn, 1) := by decide +kernel
theorem dL_law_875 : decode cL_law 875 = .ok (.goto 393, 3) := by decide +kernel
theorem dL_law_878 : decode cL_law 878 = .ok (.aload_n 1, 1) := by decide +kernel
theorem dL_law_879 : decode cL_law 879 = .ok (.aload_n 0, 1) := by decide +kernel
theorem dL_law_880 : decode cL_law 880 = .ok (.iload 4, 2) := by decide +kernel
theorem dL_law_882 : decode cL_law 882 = .ok (.iconst 1, 1) := by decide +kernel
theorem dL_law_883 : decode cL_law 883 = .ok (.iadd, 1) := by decide +kernel
theorem dL_law_884 : decode cL_law 884 = .ok (.iaload, 1) := by decide +kernel
theorem dL_law_885 : decode cL_law 885 = .ok (.aload_n 0, 1) := by decide +kernel
theorem dL_law_886 : decode cL_law 886 = .ok (.iload 4, 2) := by decide +kernel
theorem dL_law_888 : decode cL_law 888 = .ok (.iconst 2, 1) := by decide +kernel
theorem dL_law_889 : decode cL_law 889 = .ok (.iadd, 1) := by decide +kernel
theorem dL_law_890 : decode cL_law 890 = .ok (.iaload, 1) := by decide +kernel
theorem dL_law_891 : decode cL_law 891 = .ok (.aload_n 3, 1) := by decide +kernel
theorem dL_law_892 : decode cL_law 892 = .ok (.invokestatic 127, 3) := by decide +kernel
theorem dL_law_895 : decode cL_law 895 = .ok (.istore 5, 2) := by decide +kernel
theorem dL_law_897 : decode cL_law 897 = .ok (.aload_n 2, 1) := by decide +kernel
theorem dL_law_898 : decode cL_law 898 = .ok (.aload_n 0, 1) := by decide +kernel
theorem dL_law_899 : decode cL_law 899 = .ok (.iload 4, 2) := by decide +kernel
theorem dL_law_901 : decode cL_law 901 = .ok (.iconst 1, 1) := by decide +kernel
theorem dL_law_902 : decode cL_law 902 = .ok (.iadd, 1) := by decide +kernel
theorem dL_law_903 : decode cL_law 903 = .ok (.iaload, 1) := by decide +kernel
theorem dL_law_904 : decode cL_law 904 = .ok (.aload_n 0, 1) := by decide +kernel
theorem dL_law_905 : decode cL_law 905 = .ok (.iload 4, 2) := by decide +kernel
theorem dL_law_907 : decode cL_law 907 = .ok (.iconst 2, 1) := by decide +kernel
theorem dL_law_908 : decode cL_law 908 = .ok (.iadd, 1) := by decide +kernel
theorem dL_law_909 : decode cL_law 909 = .ok (.iaload, 1) := by decide +kernel
theorem dL_law_910 : decode cL_law 910 = .ok (.invokevirtual 129, 3) := by decide +kernel
theorem dL_law_913 : decode cL_law 913 = .ok (.istore 6, 2) := by decide +kernel
theorem dL_law_915 : decode cL_law 915 = .ok (.aload_n 2, 1) := by decide +kernel
theorem dL_law_916 : decode cL_law 916 = .ok (.invokevirtual 83, 3) := by decide +kernel
theorem dL_law_919 : decode cL_law 919 = .ok (.iload 5, 2) := by decide +kernel
theorem dL_law_921 : decode cL_law 921 = .ok (.if_icmp .eq 5, 3) := by decide +kernel
theorem dL_law_924 : decode cL_law 924 = .ok (.iconst 0, 1) := by decide +kernel
theorem dL_law_925 : decode cL_law 925 = .ok (.ireturn, 1) := by decide +kernel
theorem dL_law_926 : decode cL_law 926 = .ok (.iload 5, 2) := by decide +kernel
theorem dL_law_928 : decode cL_law 928 = .ok (.ifCond .ne 22, 3) := by decide +kernel
theorem dL_law_931 : decode cL_law 931 = .ok (.aload_n 3, 1) := by decide +kernel
theorem dL_law_932 : decode cL_law 932 = .ok (.iconst 0, 1) := by decide +kernel
theorem dL_law_933 : decode cL_law 933 = .ok (.laload, 1) := by decide +kernel
theorem dL_law_934 : decode cL_law 934 = .ok (.iload 6, 2) := by decide +kernel
theorem dL_law_936 : decode cL_law 936 = .ok (.ifCond .eq 7, 3) := by decide +kernel
theorem dL_law_939 : decode cL_law 939 = .ok (.lconst 1, 1) := by decide +kernel
theorem dL_law_940 : decode cL_law 940 = .ok (.goto 4, 3) := by decide +kernel
theorem dL_law_943 : decode cL_law 943 = .ok (.lconst 0, 1) := by decide +kernel
theorem dL_law_944 : decode cL_law 944 = .ok (.lcmp, 1) := by decide +kernel
theorem dL_law_945 : decode cL_law 945 = .ok (.ifCond .eq 5, 3) := by decide +kernel
theorem dL_law_948 : decode cL_law 948 = .ok (.iconst 0, 1) := by decide +kernel
theorem dL_law_949 : decode cL_law 949 = .ok (.ireturn, 1) := by decide +kernel
theorem dL_law_950 : decode cL_law 950 = .ok (.goto 318, 3) := by decide +kernel
theorem dL_law_953 : decode cL_law 953 = .ok (.aload_n 1, 1) := by decide +kernel
theorem dL_law_954 : decode cL_law 954 = .ok (.aload_n 0, 1) := by decide +kernel
theorem dL_law_955 : decode cL_law 955 = .ok (.iload 4, 2) := by decide +kernel
theorem dL_law_957 : decode cL_law 957 = .ok (.iconst 1, 1) := by decide +kernel
theorem dL_law_958 : decode cL_law 958 = .ok (.iadd, 1) := by decide +kernel
theorem dL_law_959 : decode cL_law 959 = .ok (.iaload, 1) := by decide +kernel
theorem dL_law_960 : decode cL_law 960 = .ok (.aload_n 0, 1) := by decide +kernel
theorem dL_law_961 : decode cL_law 961 = .ok (.iload 4, 2) := by decide +kernel
theorem dL_law_963 : decode cL_law 963 = .ok (.iconst 2, 1) := by decide +kernel
theorem dL_law_964 : decode cL_law 964 = .ok (.iadd, 1) := by decide +kernel
theorem dL_law_965 : decode cL_law 965 = .ok (.iaload, 1) := by decide +kernel
theorem dL_law_966 : decode cL_law 966 = .ok (.aload_n 0, 1) := by decide +kernel
theorem dL_law_967 : decode cL_law 967 = .ok (.iload 4, 2) := by decide +kernel
theorem dL_law_969 : decode cL_law 969 = .ok (.iconst 3, 1) := by decide +kernel
theorem dL_law_970 : decode cL_law 970 = .ok (.iadd, 1) := by decide +kernel
theorem dL_law_971 : decode cL_law 971 = .ok (.iaload, 1) := by decide +kernel
theorem dL_law_972 : decode cL_law 972 = .ok (.aload_n 0, 1) := by decide +kernel
theorem dL_law_973 : decode cL_law 973 = .ok (.iload 4, 2) := by decide +kernel
theorem dL_law_975 : decode cL_law 975 = .ok (.iconst 4, 1) := by decide +kernel
theorem dL_law_976 : decode cL_law 976 = .ok (.iadd, 1) := by decide +kernel
theorem dL_law_977 : decode cL_law 977 = .ok (.iaload, 1) := by decide +kernel
theorem dL_law_978 : decode cL_law 978 = .ok (.ifCond .eq 7, 3) := by decide +kernel
theorem dL_law_981 : decode cL_law 981 = .ok (.iconst 1, 1) := by decide +kernel
theorem dL_law_982 : decode cL_law 982 = .ok (.goto 4, 3) := by decide +kernel
theorem dL_law_985 : decode cL_law 985 = .ok (.iconst 0, 1) := by decide +kernel
theorem dL_law_986 : decode cL_law 986 = .ok (.invokestatic 130, 3) := by decide +kernel
theorem dL_law_989 : decode cL_law 989 = .ok (.istore 5, 2) := by decide +kernel
theorem dL_law_991 : decode cL_law 991 = .ok (.aload_n 2, 1) := by decide +kernel
theorem dL_law_992 : decode cL_law 992 = .ok (.aload_n 0, 1) := by decide +kernel
theorem dL_law_993 : decode cL_law 993 = .ok (.iload 4, 2) := by decide +kernel
theorem dL_law_995 : decode cL_law 995 = .ok (.iconst 1, 1) := by decide +kernel
theorem dL_law_996 : decode cL_law 996 = .ok (.iadd, 1) := by decide +kernel
theorem dL_law_997 : decode cL_law 997 = .ok (.iaload, 1) := by decide +kernel
theorem dL_law_998 : decode cL_law 998 = .ok (.aload_n 0, 1) := by decide +kernel
theorem dL_law_999 : decode cL_law 999 = .ok (.iload 4, 2) := by decide +kernel
theorem dL_law_1001 : decode cL_law 1001 = .ok (.iconst 2, 1) := by decide +kernel
theorem dL_law_1002 : decode cL_law 1002 = .ok (.iadd, 1) := by decide +kernel
theorem dL_law_1003 : decode cL_law 1003 = .ok (.iaload, 1) := by decide +kernel
theorem dL_law_1004 : decode cL_law 1004 = .ok (.aload_n 0, 1) := by decide +kernel
theorem dL_law_1005 : decode cL_law 1005 = .ok (.iload 4, 2) := by decide +kernel
theorem dL_law_1007 : decode cL_law 1007 = .ok (.iconst 3, 1) := by decide +kernel
theorem dL_law_1008 : decode cL_law 1008 = .ok (.iadd, 1) := by decide +kernel
theorem dL_law_1009 : decode cL_law 1009 = .ok (.iaload, 1) := by decide +kernel
theorem dL_law_1010 : decode cL_law 1010 = .ok (.aload_n 0, 1) := by decide +kernel
theorem dL_law_1011 : decode cL_law 1011 = .ok (.iload 4, 2) := by decide +kernel
theorem dL_law_1013 : decode cL_law 1013 = .ok (.iconst 4, 1) := by decide +kernel
theorem dL_law_1014 : decode cL_law 1014 = .ok (.iadd, 1) := by decide +kernel
theorem dL_law_1015 : decode cL_law 1015 = .ok (.iaload, 1) := by decide +kernel
theorem dL_law_1016 : decode cL_law 1016 = .ok (.ifCond .eq 7, 3) := by decide +kernel
theorem dL_law_1019 : decode cL_law 1019 = .ok (.iconst 1, 1) := by decide +kernel
theorem dL_law_1020 : decode cL_law 1020 = .ok (.goto 4, 3) := by decide +kernel
theorem dL_law_1023 : decode cL_law 1023 = .ok (.iconst 0, 1) := by decide +kernel
theorem dL_law_1024 : decode cL_law 1024 = .ok (.invokevirtual 133, 3) := by decide +kernel
theorem dL_law_1027 : decode cL_law 1027 = .ok (.aload_n 2, 1) := by decide +kernel
theorem dL_law_1028 : decode cL_law 1028 = .ok (.invokevirtual 83, 3) := by decide +kernel
theorem dL_law_1031 : decode cL_law 1031 = .ok (.iload 5, 2) := by decide +kernel
theorem dL_law_1033 : decode cL_law 1033 = .ok (.if_icmp .eq 5, 3) := by decide +kernel
theorem dL_law_1036 : decode cL_law 1036 = .ok (.iconst 0, 1) := by decide +kernel
theorem dL_law_1037 : decode cL_law 1037 = .ok (.ireturn, 1) := by decide +kernel
theorem dL_law_1038 : decode cL_law 1038 = .ok (.goto 230, 3) := by decide +kernel
theorem dL_law_1041 : decode cL_law 1041 = .ok (.aload_n 1, 1) := by decide +kernel
theorem dL_law_1042 : decode cL_law 1042 = .ok (.aload_n 0, 1) := by decide +kernel
theorem dL_law_1043 : decode cL_law 1043 = .ok (.iload 4, 2) := by decide +kernel
theorem dL_law_1045 : decode cL_law 1045 = .ok (.iconst 1, 1) := by decide +kernel
theorem dL_law_1046 : decode cL_law 1046 = .ok (.iadd, 1) := by decide +kernel
theorem dL_law_1047 : decode cL_law 1047 = .ok (.iaload, 1) := by decide +kernel
theorem dL_law_1048 : decode cL_law 1048 = .ok (.aload_n 0, 1) := by decide +kernel
theorem dL_law_1049 : decode cL_law 1049 = .ok (.iload 4, 2) := by decide +kernel
theorem dL_law_1051 : decode cL_law 1051 = .ok (.iconst 2, 1) := by decide +kernel
theorem dL_law_1052 : decode cL_law 1052 = .ok (.iadd, 1) := by decide +kernel
theorem dL_law_1053 : decode cL_law 1053 = .ok (.iaload, 1) := by decide +kernel
theorem dL_law_1054 : decode cL_law 1054 = .ok (.invokestatic 134, 3) := by decide +kernel
theorem dL_law_1057 : decode cL_law 1057 = .ok (.istore 5, 2) := by decide +kernel
theorem dL_law_1059 : decode cL_law 1059 = .ok (.aload_n 2, 1) := by decide +kernel
theorem dL_law_1060 : decode cL_law 1060 = .ok (.aload_n 0, 1) := by decide +kernel
theorem dL_law_1061 : decode cL_law 1061 = .ok (.iload 4, 2) := by decide +kernel
theorem dL_law_1063 : decode cL_law 1063 = .ok (.iconst 1, 1) := by decide +kernel
theorem dL_law_1064 : decode cL_law 1064 = .ok (.iadd, 1) := by decide +kernel
theorem dL_law_1065 : decode cL_law 1065 = .ok (.iaload, 1) := by decide +kernel
theorem dL_law_1066 : decode cL_law 1066 = .ok (.aload_n 0, 1) := by decide +kernel
theorem dL_law_1067 : decode cL_law 1067 = .ok (.iload 4, 2) := by decide +kernel
theorem dL_law_1069 : decode cL_law 1069 = .ok (.iconst 2, 1) := by decide +kernel
theorem dL_law_1070 : decode cL_law 1070 = .ok (.iadd, 1) := by decide +kernel
theorem dL_law_1071 : decode cL_law 1071 = .ok (.iaload, 1) := by decide +kernel
theorem dL_law_1072 : decode cL_law 1072 = .ok (.invokevirtual 137, 3) := by decide +kernel
theorem dL_law_1075 : decode cL_law 1075 = .ok (.aload_n 2, 1) := by decide +kernel
theorem dL_law_1076 : decode cL_law 1076 = .ok (.invokevirtual 83, 3) := by decide +kernel
theorem dL_law_1079 : decode cL_law 1079 = .ok (.iload 5, 2) := by decide +kernel
theorem dL_law_1081 : decode cL_law 1081 = .ok (.if_icmp .eq 5, 3) := by decide +kernel
theorem dL_law_1084 : decode cL_law 1084 = .ok (.iconst 0, 1) := by decide +kernel
theorem dL_law_1085 : decode cL_law 1085 = .ok (.ireturn, 1) := by decide +kernel
theorem dL_law_1086 : decode cL_law 1086 = .ok (.goto 182, 3) := by decide +kernel
theorem dL_law_1089 : decode cL_law 1089 = .ok (.aload_n 1, 1) := by decide +kernel
theorem dL_law_1090 : decode cL_law 1090 = .ok (.aload_n 0, 1) := by decide +kernel
theorem dL_law_1091 : decode cL_law 1091 = .ok (.iload 4, 2) := by decide +kernel
theorem dL_law_1093 : decode cL_law 1093 = .ok (.iconst 1, 1) := by decide +kernel
theorem dL_law_1094 : decode cL_law 1094 = .ok (.iadd, 1) := by decide +kernel
theorem dL_law_1095 : decode cL_law 1095 = .ok (.iaload, 1) := by decide +kernel
theorem dL_law_1096 : decode cL_law 1096 = .ok (.invokestatic 138, 3) := by decide +kernel
theorem dL_law_1099 : decode cL_law 1099 = .ok (.istore 5, 2) := by decide +kernel
theorem dL_law_1101 : decode cL_law 1101 = .ok (.aload_n 2, 1) := by decide +kernel
theorem dL_law_1102 : decode cL_law 1102 = .ok (.aload_n 0, 1) := by decide +kernel
theorem dL_law_1103 : decode cL_law 1103 = .ok (.iload 4, 2) := by decide +kernel
theorem dL_law_1105 : decode cL_law 1105 = .ok (.iconst 1, 1) := by decide +kernel
theorem dL_law_1106 : decode cL_law 1106 = .ok (.iadd, 1) := by decide +kernel
theorem dL_law_1107 : decode cL_law 1107 = .ok (.iaload, 1) := by decide +kernel
theorem dL_law_1108 : decode cL_law 1108 = .ok (.invokevirtual 140, 3) := by decide +kernel
theorem dL_law_1111 : decode cL_law 1111 = .ok (.aload_n 2, 1) := by decide +kernel
theorem dL_law_1112 : decode cL_law 1112 = .ok (.invokevirtual 83, 3) := by decide +kernel
theorem dL_law_1115 : decode cL_law 1115 = .ok (.iload 5, 2) := by decide +kernel
theorem dL_law_1117 : decode cL_law 1117 = .ok (.if_icmp .eq 5, 3) := by decide +kernel
theorem dL_law_1120 : decode cL_law 1120 = .ok (.iconst 0, 1) := by decide +kernel
theorem dL_law_1121 : decode cL_law 1121 = .ok (.ireturn, 1) := by decide +kernel
theorem dL_law_1122 : decode cL_law 1122 = .ok (.goto 146, 3) := by decide +kernel
theorem dL_law_1125 : decode cL_law 1125 = .ok (.aload_n 1, 1) := by decide +kernel
theorem dL_law_1126 : decode cL_law 1126 = .ok (.aload_n 0, 1) := by decide +kernel
theorem dL_law_1127 : decode cL_law 1127 = .ok (.iload 4, 2) := by decide +kernel
theorem dL_law_1129 : decode cL_law 1129 = .ok (.iconst 1, 1) := by decide +kernel
theorem dL_law_1130 : decode cL_law 1130 = .ok (.iadd, 1) := by decide +kernel
theorem dL_law_1131 : decode cL_law 1131 = .ok (.iaload, 1) := by decide +kernel
theorem dL_law_1132 : decode cL_law 1132 = .ok (.aload_n 0, 1) := by decide +kernel
theorem dL_law_1133 : decode cL_law 1133 = .ok (.iload 4, 2) := by decide +kernel
theorem dL_law_1135 : decode cL_law 1135 = .ok (.iconst 2, 1) := by decide +kernel
theorem dL_law_1136 : decode cL_law 1136 = .ok (.iadd, 1) := by decide +kernel
theorem dL_law_1137 : decode cL_law 1137 = .ok (.iaload, 1) := by decide +kernel
theorem dL_law_1138 : decode cL_law 1138 = .ok (.aload_n 3, 1) := by decide +kernel
theorem dL_law_1139 : decode cL_law 1139 = .ok (.invokestatic 141, 3) := by decide +kernel
theorem dL_law_1142 : decode cL_law 1142 = .ok (.istore 5, 2) := by decide +kernel
theorem dL_law_1144 : decode cL_law 1144 = .ok (.aload_n 2, 1) := by decide +kernel
theorem dL_law_1145 : decode cL_law 1145 = .ok (.aload_n 0, 1) := by decide +kernel
theorem dL_law_1146 : decode cL_law 1146 = .ok (.iload 4, 2) := by decide +kernel
theorem dL_law_1148 : decode cL_law 1148 = .ok (.iconst 1, 1) := by decide +kernel
theorem dL_law_1149 : decode cL_law 1149 = .ok (.iadd, 1) := by decide +kernel
theorem dL_law_1150 : decode cL_law 1150 = .ok (.iaload, 1) := by decide +kernel
theorem dL_law_1151 : decode cL_law 1151 = .ok (.aload_n 0, 1) := by decide +kernel
theorem dL_law_1152 : decode cL_law 1152 = .ok (.iload 4, 2) := by decide +kernel
theorem dL_law_1154 : decode cL_law 1154 = .ok (.iconst 2, 1) := by decide +kernel
theorem dL_law_1155 : decode cL_law 1155 = .ok (.iadd, 1) := by decide +kernel
theorem dL_law_1156 : decode cL_law 1156 = .ok (.iaload, 1) := by decide +kernel
theorem dL_law_1157 : decode cL_law 1157 = .ok (.invokevirtual 143, 3) := by decide +kernel
theorem dL_law_1160 : decode cL_law 1160 = .ok (.istore 6, 2) := by decide +kernel
theorem dL_law_1162 : decode cL_law 1162 = .ok (.aload_n 2, 1) := by decide +kernel
theorem dL_law_1163 : decode cL_law 1163 = .ok (.invokevirtual 83, 3) := by decide +kernel
theorem dL_law_1166 : decode cL_law 1166 = .ok (.iload 5, 2) := by decide +kernel
theorem dL_law_1168 : decode cL_law 1168 = .ok (.if_icmp .eq 5, 3) := by decide +kernel
theorem dL_law_1171 : decode cL_law 1171 = .ok (.iconst 0, 1) := by decide +kernel
theorem dL_law_1172 : decode cL_law 1172 = .ok (.ireturn, 1) := by decide +kernel
theorem dL_law_1173 : decode cL_law 1173 = .ok (.iload 5, 2) := by decide +kernel
theorem dL_law_1175 : decode cL_law 1175 = .ok (.ifCond .ne 22, 3) := by decide +kernel
theorem dL_law_1178 : decode cL_law 1178 = .ok (.aload_n 3, 1) := by decide +kernel
theorem dL_law_1179 : decode cL_law 1179 = .ok (.iconst 0, 1) := by decide +kernel
theorem dL_law_1180 : decode cL_law 1180 = .ok (.laload, 1) := by decide +kernel
theorem dL_law_1181 : decode cL_law 1181 = .ok (.iload 6, 2) := by decide +kernel
theorem dL_law_1183 : decode cL_law 1183 = .ok (.ifCond .eq 7, 3) := by decide +kernel
theorem dL_law_1186 : decode cL_law 1186 = .ok (.lconst 1, 1) := by decide +kernel
theorem dL_law_1187 : decode cL_law 1187 = .ok (.goto 4, 3) := by decide +kernel
theorem dL_law_1190 : decode cL_law 1190 = .ok (.lconst 0, 1) := by decide +kernel
theorem dL_law_1191 : decode cL_law 1191 = .ok (.lcmp, 1) := by decide +kernel
theorem dL_law_1192 : decode cL_law 1192 = .ok (.ifCond .eq 5, 3) := by decide +kernel
theorem dL_law_1195 : decode cL_law 1195 = .ok (.iconst 0, 1) := by decide +kernel
theorem dL_law_1196 : decode cL_law 1196 = .ok (.ireturn, 1) := by decide +kernel
theorem dL_law_1197 : decode cL_law 1197 = .ok (.goto 71, 3) := by decide +kernel
theorem dL_law_1200 : decode cL_law 1200 = .ok (.aload_n 1, 1) := by decide +kernel
theorem dL_law_1201 : decode cL_law 1201 = .ok (.aload_n 0, 1) := by decide +kernel
theorem dL_law_1202 : decode cL_law 1202 = .ok (.iload 4, 2) := by decide +kernel
theorem dL_law_1204 : decode cL_law 1204 = .ok (.iconst 1, 1) := by decide +kernel
theorem dL_law_1205 : decode cL_law 1205 = .ok (.iadd, 1) := by decide +kernel
theorem dL_law_1206 : decode cL_law 1206 = .ok (.iaload, 1) := by decide +kernel
theorem dL_law_1207 : decode cL_law 1207 = .ok (.aload_n 0, 1) := by decide +kernel
theorem dL_law_1208 : decode cL_law 1208 = .ok (.iload 4, 2) := by decide +kernel
theorem dL_law_1210 : decode cL_law 1210 = .ok (.iconst 2, 1) := by decide +kernel
theorem dL_law_1211 : decode cL_law 1211 = .ok (.iadd, 1) := by decide +kernel
theorem dL_law_1212 : decode cL_law 1212 = .ok (.iaload, 1) := by decide +kernel
theorem dL_law_1213 : decode cL_law 1213 = .ok (.aload_n 3, 1) := by decide +kernel
theorem dL_law_1214 : decode cL_law 1214 = .ok (.invokestatic 144, 3) := by decide +kernel
theorem dL_law_1217 : decode cL_law 1217 = .ok (.istore 5, 2) := by decide +kernel
theorem dL_law_1219 : decode cL_law 1219 = .ok (.aload_n 2, 1) := by decide +kernel
theorem dL_law_1220 : decode cL_law 1220 = .ok (.aload_n 0, 1) := by decide +kernel
theorem dL_law_1221 : decode cL_law 1221 = .ok (.iload 4, 2) := by decide +kernel
theorem dL_law_1223 : decode cL_law 1223 = .ok (.iconst 1, 1) := by decide +kernel
theorem dL_law_1224 : decode cL_law 1224 = .ok (.iadd, 1) := by decide +kernel
theorem dL_law_1225 : decode cL_law 1225 = .ok (.iaload, 1) := by decide +kernel
theorem dL_law_1226 : decode cL_law 1226 = .ok (.aload_n 0, 1) := by decide +kernel
theorem dL_law_1227 : decode cL_law 1227 = .ok (.iload 4, 2) := by decide +kernel
theorem dL_law_1229 : decode cL_law 1229 = .ok (.iconst 2, 1) := by decide +kernel
theorem dL_law_1230 : decode cL_law 1230 = .ok (.iadd, 1) := by decide +kernel
theorem dL_law_1231 : decode cL_law 1231 = .ok (.iaload, 1) := by decide +kernel
theorem dL_law_1232 : decode cL_law 1232 = .ok (.invokevirtual 146, 3) := by decide +kernel
theorem dL_law_1235 : decode cL_law 1235 = .ok (.istore 6, 2) := by decide +kernel
theorem dL_law_1237 : decode cL_law 1237 = .ok (.aload_n 2, 1) := by decide +kernel
theorem dL_law_1238 : decode cL_law 1238 = .ok (.invokevirtual 83, 3) := by decide +kernel
theorem dL_law_1241 : decode cL_law 1241 = .ok (.iload 5, 2) := by decide +kernel
theorem dL_law_1243 : decode cL_law 1243 = .ok (.if_icmp .eq 5, 3) := by decide +kernel
theorem dL_law_1246 : decode cL_law 1246 = .ok (.iconst 0, 1) := by decide +kernel
theorem dL_law_1247 : decode cL_law 1247 = .ok (.ireturn, 1) := by decide +kernel
theorem dL_law_1248 : decode cL_law 1248 = .ok (.iload 5, 2) := by decide +kernel
theorem dL_law_1250 : decode cL_law 1250 = .ok (.ifCond .ne 15, 3) := by decide +kernel
theorem dL_law_1253 : decode cL_law 1253 = .ok (.aload_n 3, 1) := by decide +kernel
theorem dL_law_1254 : decode cL_law 1254 = .ok (.iconst 0, 1) := by decide +kernel
theorem dL_law_1255 : decode cL_law 1255 = .ok (.laload, 1) := by decide +kernel
theorem dL_law_1256 : decode cL_law 1256 = .ok (.iload 6, 2) := by decide +kernel
theorem dL_law_1258 : decode cL_law 1258 = .ok (.i2l, 1) := by decide +kernel
theorem dL_law_1259 : decode cL_law 1259 = .ok (.lcmp, 1) := by decide +kernel
theorem dL_law_1260 : decode cL_law 1260 = .ok (.ifCond .eq 5, 3) := by decide +kernel
theorem dL_law_1263 : decode cL_law 1263 = .ok (.iconst 0, 1) := by decide +kernel
theorem dL_law_1264 : decode cL_law 1264 = .ok (.ireturn, 1) := by decide +kernel
theorem dL_law_1265 : decode cL_law 1265 = .ok (.goto 3, 3) := by decide +kernel
theorem dL_law_1268 : decode cL_law 1268 = .ok (.iinc 4 6, 3) := by decide +kernel
theorem dL_law_1271 : decode cL_law 1271 = .ok (.goto (-1248), 3) := by decide +kernel
theorem dL_law_1274 : decode cL_law 1274 = .ok (.iconst 1, 1) := by decide +kernel
theorem dL_law_1275 : decode cL_law 1275 = .ok (.ireturn, 1) := by decide +kernel
