theorem dX0_init_0 : decode cX0_init 0 = .ok (.aload_n 0, 1) := by decide +kernel
theorem dX0_init_1 : decode cX0_init 1 = .ok (.invokespecial 3, 3) := by decide +kernel
theorem dX0_init_4 : decode cX0_init 4 = .ok (.aload_n 0, 1) := by decide +kernel
theorem dX0_init_5 : decode cX0_init 5 = .ok (.bipush 8, 2) := by decide +kernel
theorem dX0_init_7 : decode cX0_init 7 = .ok (.newarray .int, 2) := by decide +kernel
theorem dX0_init_9 : decode cX0_init 9 = .ok (.putfield 9, 3) := by decide +kernel
theorem dX0_init_12 : decode cX0_init 12 = .ok (.aload_n 0, 1) := by decide +kernel
theorem dX0_init_13 : decode cX0_init 13 = .ok (.bipush 8, 2) := by decide +kernel
theorem dX0_init_15 : decode cX0_init 15 = .ok (.newarray .int, 2) := by decide +kernel
theorem dX0_init_17 : decode cX0_init 17 = .ok (.putfield 15, 3) := by decide +kernel
theorem dX0_init_20 : decode cX0_init 20 = .ok (.aload_n 0, 1) := by decide +kernel
theorem dX0_init_21 : decode cX0_init 21 = .ok (.getstatic 18, 3) := by decide +kernel
theorem dX0_init_24 : decode cX0_init 24 = .ok (.arraylength, 1) := by decide +kernel
theorem dX0_init_25 : decode cX0_init 25 = .ok (.bipush 8, 2) := by decide +kernel
theorem dX0_init_27 : decode cX0_init 27 = .ok (.multianewarray 21 2, 4) := by decide +kernel
theorem dX0_init_31 : decode cX0_init 31 = .ok (.putfield 23, 3) := by decide +kernel
theorem dX0_init_34 : decode cX0_init 34 = .ok (.iconst 0, 1) := by decide +kernel
theorem dX0_init_35 : decode cX0_init 35 = .ok (.istore_n 1, 1) := by decide +kernel
theorem dX0_init_36 : decode cX0_init 36 = .ok (.iload_n 1, 1) := by decide +kernel
theorem dX0_init_37 : decode cX0_init 37 = .ok (.getstatic 18, 3) := by decide +kernel
theorem dX0_init_40 : decode cX0_init 40 = .ok (.arraylength, 1) := by decide +kernel
theorem dX0_init_41 : decode cX0_init 41 = .ok (.if_icmp .ge 36, 3) := by decide +kernel
theorem dX0_init_44 : decode cX0_init 44 = .ok (.iconst 0, 1) := by decide +kernel
theorem dX0_init_45 : decode cX0_init 45 = .ok (.istore_n 2, 1) := by decide +kernel
theorem dX0_init_46 : decode cX0_init 46 = .ok (.iload_n 2, 1) := by decide +kernel
theorem dX0_init_47 : decode cX0_init 47 = .ok (.bipush 8, 2) := by decide +kernel
theorem dX0_init_49 : decode cX0_init 49 = .ok (.if_icmp .ge 22, 3) := by decide +kernel
theorem dX0_init_52 : decode cX0_init 52 = .ok (.aload_n 0, 1) := by decide +kernel
theorem dX0_init_53 : decode cX0_init 53 = .ok (.getfield 23, 3) := by decide +kernel
theorem dX0_init_56 : decode cX0_init 56 = .ok (.iload_n 1, 1) := by decide +kernel
theorem dX0_init_57 : decode cX0_init 57 = .ok (.aaload, 1) := by decide +kernel
theorem dX0_init_58 : decode cX0_init 58 = .ok (.iload_n 2, 1) := by decide +kernel
theorem dX0_init_59 : decode cX0_init 59 = .ok (.getstatic 18, 3) := by decide +kernel
theorem dX0_init_62 : decode cX0_init 62 = .ok (.iload_n 1, 1) := by decide +kernel
theorem dX0_init_63 : decode cX0_init 63 = .ok (.iaload, 1) := by decide +kernel
theorem dX0_init_64 : decode cX0_init 64 = .ok (.iastore, 1) := by decide +kernel
theorem dX0_init_65 : decode cX0_init 65 = .ok (.iinc 2 1, 3) := by decide +kernel
theorem dX0_init_68 : decode cX0_init 68 = .ok (.goto (-22), 3) := by decide +kernel
theorem dX0_init_71 : decode cX0_init 71 = .ok (.iinc 1 1, 3) := by decide +kernel
theorem dX0_init_74 : decode cX0_init 74 = .ok (.goto (-38), 3) := by decide +kernel
theorem dX0_init_77 : decode cX0_init 77 = .ok (.return_, 1) := by decide +kernel
theorem dX0_lotsTogether_0 : decode cX0_lotsTogether 0 = .ok (.iconst 0, 1) := by decide +kernel
theorem dX0_lotsTogether_1 : decode cX0_lotsTogether 1 = .ok (.istore_n 1, 1) := by decide +kernel
theorem dX0_lotsTogether_2 : decode cX0_lotsTogether 2 = .ok (.iconst 0, 1) := by decide +kernel
theorem dX0_lotsTogether_3 : decode cX0_lotsTogether 3 = .ok (.istore_n 2, 1) := by decide +kernel
theorem dX0_lotsTogether_4 : decode cX0_lotsTogether 4 = .ok (.iload_n 2, 1) := by decide +kernel
theorem dX0_lotsTogether_5 : decode cX0_lotsTogether 5 = .ok (.bipush 8, 2) := by decide +kernel
theorem dX0_lotsTogether_7 : decode cX0_lotsTogether 7 = .ok (.if_icmp .ge 20, 3) := by decide +kernel
theorem dX0_lotsTogether_10 : decode cX0_lotsTogether 10 = .ok (.iload_n 1, 1) := by decide +kernel
theorem dX0_lotsTogether_11 : decode cX0_lotsTogether 11 = .ok (.aload_n 0, 1) := by decide +kernel
theorem dX0_lotsTogether_12 : decode cX0_lotsTogether 12 = .ok (.getfield 23, 3) := by decide +kernel
theorem dX0_lotsTogether_15 : decode cX0_lotsTogether 15 = .ok (.iconst 3, 1) := by decide +kernel
theorem dX0_lotsTogether_16 : decode cX0_lotsTogether 16 = .ok (.aaload, 1) := by decide +kernel
theorem dX0_lotsTogether_17 : decode cX0_lotsTogether 17 = .ok (.iload_n 2, 1) := by decide +kernel
theorem dX0_lotsTogether_18 : decode cX0_lotsTogether 18 = .ok (.iaload, 1) := by decide +kernel
theorem dX0_lotsTogether_19 : decode cX0_lotsTogether 19 = .ok (.iadd, 1) := by decide +kernel
theorem dX0_lotsTogether_20 : decode cX0_lotsTogether 20 = .ok (.istore_n 1, 1) := by decide +kernel
theorem dX0_lotsTogether_21 : decode cX0_lotsTogether 21 = .ok (.iinc 2 1, 3) := by decide +kernel
theorem dX0_lotsTogether_24 : decode cX0_lotsTogether 24 = .ok (.goto (-20), 3) := by decide +kernel
theorem dX0_lotsTogether_27 : decode cX0_lotsTogether 27 = .ok (.iload_n 1, 1) := by decide +kernel
theorem dX0_lotsTogether_28 : decode cX0_lotsTogether 28 = .ok (.ireturn, 1) := by decide +kernel
theorem dX1_init_0 : decode cX1_init 0 = .ok (.aload_n 0, 1) := by decide +kernel
theorem dX1_init_1 : decode cX1_init 1 = .ok (.invokespecial 3, 3) := by decide +kernel
theorem dX1_init_4 : decode cX1_init 4 = .ok (.aload_n 0, 1) := by decide +kernel
theorem dX1_init_5 : decode cX1_init 5 = .ok (.getstatic 9, 3) := by decide +kernel
theorem dX1_init_8 : decode cX1_init 8 = .ok (.arraylength, 1) := by decide +kernel
theorem dX1_init_9 : decode cX1_init 9 = .ok (.newarray .int, 2) := by decide +kernel
theorem dX1_init_11 : decode cX1_init 11 = .ok (.putfield 13, 3) := by decide +kernel
theorem dX1_init_14 : decode cX1_init 14 = .ok (.aload_n 0, 1) := by decide +kernel
theorem dX1_init_15 : decode cX1_init 15 = .ok (.bipush 8, 2) := by decide +kernel
theorem dX1_init_17 : decode cX1_init 17 = .ok (.newarray .int, 2) := by decide +kernel
theorem dX1_init_19 : decode cX1_init 19 = .ok (.putfield 18, 3) := by decide +kernel
theorem dX1_init_22 : decode cX1_init 22 = .ok (.aload_n 0, 1) := by decide +kernel
theorem dX1_init_23 : decode cX1_init 23 = .ok (.bipush 8, 2) := by decide +kernel
theorem dX1_init_25 : decode cX1_init 25 = .ok (.newarray .int, 2) := by decide +kernel
theorem dX1_init_27 : decode cX1_init 27 = .ok (.putfield 21, 3) := by decide +kernel
theorem dX1_init_30 : decode cX1_init 30 = .ok (.aload_n 0, 1) := by decide +kernel
theorem dX1_init_31 : decode cX1_init 31 = .ok (.bipush 8, 2) := by decide +kernel
theorem dX1_init_33 : decode cX1_init 33 = .ok (.newarray .int, 2) := by decide +kernel
theorem dX1_init_35 : decode cX1_init 35 = .ok (.putfield 24, 3) := by decide +kernel
theorem dX1_init_38 : decode cX1_init 38 = .ok (.aload_n 0, 1) := by decide +kernel
theorem dX1_init_39 : decode cX1_init 39 = .ok (.bipush 8, 2) := by decide +kernel
theorem dX1_init_41 : decode cX1_init 41 = .ok (.newarray .int, 2) := by decide +kernel
theorem dX1_init_43 : decode cX1_init 43 = .ok (.putfield 27, 3) := by decide +kernel
theorem dX1_init_46 : decode cX1_init 46 = .ok (.aload_n 0, 1) := by decide +kernel
theorem dX1_init_47 : decode cX1_init 47 = .ok (.bipush 8, 2) := by decide +kernel
theorem dX1_init_49 : decode cX1_init 49 = .ok (.newarray .int, 2) := by decide +kernel
theorem dX1_init_51 : decode cX1_init 51 = .ok (.putfield 30, 3) := by decide +kernel
theorem dX1_init_54 : decode cX1_init 54 = .ok (.aload_n 0, 1) := by decide +kernel
theorem dX1_init_55 : decode cX1_init 55 = .ok (.bipush 8, 2) := by decide +kernel
theorem dX1_init_57 : decode cX1_init 57 = .ok (.newarray .int, 2) := by decide +kernel
theorem dX1_init_59 : decode cX1_init 59 = .ok (.putfield 33, 3) := by decide +kernel
theorem dX1_init_62 : decode cX1_init 62 = .ok (.aload_n 0, 1) := by decide +kernel
theorem dX1_init_63 : decode cX1_init 63 = .ok (.bipush 8, 2) := by decide +kernel
theorem dX1_init_65 : decode cX1_init 65 = .ok (.newarray .int, 2) := by decide +kernel
theorem dX1_init_67 : decode cX1_init 67 = .ok (.putfield 36, 3) := by decide +kernel
theorem dX1_init_70 : decode cX1_init 70 = .ok (.aload_n 0, 1) := by decide +kernel
theorem dX1_init_71 : decode cX1_init 71 = .ok (.aload_n 1, 1) := by decide +kernel
theorem dX1_init_72 : decode cX1_init 72 = .ok (.putfield 39, 3) := by decide +kernel
theorem dX1_init_75 : decode cX1_init 75 = .ok (.aload_n 0, 1) := by decide +kernel
theorem dX1_init_76 : decode cX1_init 76 = .ok (.aload_n 2, 1) := by decide +kernel
theorem dX1_init_77 : decode cX1_init 77 = .ok (.putfield 43, 3) := by decide +kernel
theorem dX1_init_80 : decode cX1_init 80 = .ok (.iconst 0, 1) := by decide +kernel
theorem dX1_init_81 : decode cX1_init 81 = .ok (.istore_n 3, 1) := by decide +kernel
theorem dX1_init_82 : decode cX1_init 82 = .ok (.iload_n 3, 1) := by decide +kernel
theorem dX1_init_83 : decode cX1_init 83 = .ok (.bipush 8, 2) := by decide +kernel
theorem dX1_init_85 : decode cX1_init 85 = .ok (.if_icmp .ge 24, 3) := by decide +kernel
theorem dX1_init_88 : decode cX1_init 88 = .ok (.aload_n 0, 1) := by decide +kernel
theorem dX1_init_89 : decode cX1_init 89 = .ok (.getfield 18, 3) := by decide +kernel
theorem dX1_init_92 : decode cX1_init 92 = .ok (.iload_n 3, 1) := by decide +kernel
theorem dX1_init_93 : decode cX1_init 93 = .ok (.iconst (-1), 1) := by decide +kernel
theorem dX1_init_94 : decode cX1_init 94 = .ok (.iastore, 1) := by decide +kernel
theorem dX1_init_95 : decode cX1_init 95 = .ok (.aload_n 0, 1) := by decide +kernel
theorem dX1_init_96 : decode cX1_init 96 = .ok (.getfield 24, 3) := by decide +kernel
theorem dX1_init_99 : decode cX1_init 99 = .ok (.iload_n 3, 1) := by decide +kernel
theorem dX1_init_100 : decode cX1_init 100 = .ok (.bipush 60, 2) := by decide +kernel
theorem dX1_init_102 : decode cX1_init 102 = .ok (.iastore, 1) := by decide +kernel
theorem dX1_init_103 : decode cX1_init 103 = .ok (.iinc 3 1, 3) := by decide +kernel
theorem dX1_init_106 : decode cX1_init 106 = .ok (.goto (-24), 3) := by decide +kernel
theorem dX1_init_109 : decode cX1_init 109 = .ok (.return_, 1) := by decide +kernel
theorem dX1_becomes_0 : decode cX1_becomes 0 = .ok (.aload_n 1, 1) := by decide +kernel
theorem dX1_becomes_1 : decode cX1_becomes 1 = .ok (.getfield 13, 3) := by decide +kernel
theorem dX1_becomes_4 : decode cX1_becomes 4 = .ok (.iconst 0, 1) := by decide +kernel
theorem dX1_becomes_5 : decode cX1_becomes 5 = .ok (.aload_n 0, 1) := by decide +kernel
theorem dX1_becomes_6 : decode cX1_becomes 6 = .ok (.getfield 13, 3) := by decide +kernel
theorem dX1_becomes_9 : decode cX1_becomes 9 = .ok (.iconst 0, 1) := by decide +kernel
theorem dX1_becomes_10 : decode cX1_becomes 10 = .ok (.getstatic 9, 3) := by decide +kernel
theorem dX1_becomes_13 : decode cX1_becomes 13 = .ok (.arraylength, 1) := by decide +kernel
theorem dX1_becomes_14 : decode cX1_becomes 14 = .ok (.invokestatic 47, 3) := by decide +kernel
theorem dX1_becomes_17 : decode cX1_becomes 17 = .ok (.aload_n 1, 1) := by decide +kernel
theorem dX1_becomes_18 : decode cX1_becomes 18 = .ok (.getfield 18, 3) := by decide +kernel
theorem dX1_becomes_21 : decode cX1_becomes 21 = .ok (.iconst 0, 1) := by decide +kernel
theorem dX1_becomes_22 : decode cX1_becomes 22 = .ok (.aload_n 0, 1) := by decide +kernel
theorem dX1_becomes_23 : decode cX1_becomes 23 = .ok (.getfield 18, 3) := by decide +kernel
theorem dX1_becomes_26 : decode cX1_becomes 26 = .ok (.iconst 0, 1) := by decide +kernel
theorem dX1_becomes_27 : decode cX1_becomes 27 = .ok (.bipush 8, 2) := by decide +kernel
theorem dX1_becomes_29 : decode cX1_becomes 29 = .ok (.invokestatic 47, 3) := by decide +kernel
theorem dX1_becomes_32 : decode cX1_becomes 32 = .ok (.aload_n 1, 1) := by decide +kernel
theorem dX1_becomes_33 : decode cX1_becomes 33 = .ok (.getfield 21, 3) := by decide +kernel
theorem dX1_becomes_36 : decode cX1_becomes 36 = .ok (.iconst 0, 1) := by decide +kernel
theorem dX1_becomes_37 : decode cX1_becomes 37 = .ok (.aload_n 0, 1) := by decide +kernel
theorem dX1_becomes_38 : decode cX1_becomes 38 = .ok (.getfield 21, 3) := by decide +kernel
theorem dX1_becomes_41 : decode cX1_becomes 41 = .ok (.iconst 0, 1) := by decide +kernel
theorem dX1_becomes_42 : decode cX1_becomes 42 = .ok (.bipush 8, 2) := by decide +kernel
theorem dX1_becomes_44 : decode cX1_becomes 44 = .ok (.invokestatic 47, 3) := by decide +kernel
theorem dX1_becomes_47 : decode cX1_becomes 47 = .ok (.aload_n 0, 1) := by decide +kernel
theorem dX1_becomes_48 : decode cX1_becomes 48 = .ok (.iconst 0, 1) := by decide +kernel
theorem dX1_becomes_49 : decode cX1_becomes 49 = .ok (.putfield 53, 3) := by decide +kernel
theorem dX1_becomes_52 : decode cX1_becomes 52 = .ok (.aload_n 0, 1) := by decide +kernel
theorem dX1_becomes_53 : decode cX1_becomes 53 = .ok (.iconst 0, 1) := by decide +kernel
theorem dX1_becomes_54 : decode cX1_becomes 54 = .ok (.putfield 57, 3) := by decide +kernel
theorem dX1_becomes_57 : decode cX1_becomes 57 = .ok (.return_, 1) := by decide +kernel
theorem dX1_makePunctual_0 : decode cX1_makePunctual 0 = .ok (.iconst 0, 1) := by decide +kernel
theorem dX1_makePunctual_1 : decode cX1_makePunctual 1 = .ok (.istore_n 2, 1) := by decide +kernel
theorem dX1_makePunctual_2 : decode cX1_makePunctual 2 = .ok (.iload_n 2, 1) := by decide +kernel
theorem dX1_makePunctual_3 : decode cX1_makePunctual 3 = .ok (.bipush 8, 2) := by decide +kernel
theorem dX1_makePunctual_5 : decode cX1_makePunctual 5 = .ok (.if_icmp .ge 24, 3) := by decide +kernel
theorem dX1_makePunctual_8 : decode cX1_makePunctual 8 = .ok (.iload_n 1, 1) := by decide +kernel
theorem dX1_makePunctual_9 : decode cX1_makePunctual 9 = .ok (.iload_n 2, 1) := by decide +kernel
theorem dX1_makePunctual_10 : decode cX1_makePunctual 10 = .ok (.ishr, 1) := by decide +kernel
theorem dX1_makePunctual_11 : decode cX1_makePunctual 11 = .ok (.iconst 1, 1) := by decide +kernel
theorem dX1_makePunctual_12 : decode cX1_makePunctual 12 = .ok (.iand, 1) := by decide +kernel
theorem dX1_makePunctual_13 : decode cX1_makePunctual 13 = .ok (.ifCond .eq 10, 3) := by decide +kernel
theorem dX1_makePunctual_16 : decode cX1_makePunctual 16 = .ok (.aload_n 0, 1) := by decide +kernel
theorem dX1_makePunctual_17 : decode cX1_makePunctual 17 = .ok (.getfield 18, 3) := by decide +kernel
theorem dX1_makePunctual_20 : decode cX1_makePunctual 20 = .ok (.iload_n 2, 1) := by decide +kernel
theorem dX1_makePunctual_21 : decode cX1_makePunctual 21 = .ok (.iconst 1, 1) := by decide +kernel
theorem dX1_makePunctual_22 : decode cX1_makePunctual 22 = .ok (.iastore, 1) := by decide +kernel
theorem dX1_makePunctual_23 : decode cX1_makePunctual 23 = .ok (.iinc 2 1, 3) := by decide +kernel
theorem dX1_makePunctual_26 : decode cX1_makePunctual 26 = .ok (.goto (-24), 3) := by decide +kernel
theorem dX1_makePunctual_29 : decode cX1_makePunctual 29 = .ok (.return_, 1) := by decide +kernel
theorem dX1_plainBits_0 : decode cX1_plainBits 0 = .ok (.iconst 0, 1) := by decide +kernel
theorem dX1_plainBits_1 : decode cX1_plainBits 1 = .ok (.istore_n 1, 1) := by decide +kernel
theorem dX1_plainBits_2 : decode cX1_plainBits 2 = .ok (.iconst 0, 1) := by decide +kernel
theorem dX1_plainBits_3 : decode cX1_plainBits 3 = .ok (.istore_n 2, 1) := by decide +kernel
theorem dX1_plainBits_4 : decode cX1_plainBits 4 = .ok (.iload_n 2, 1) := by decide +kernel
theorem dX1_plainBits_5 : decode cX1_plainBits 5 = .ok (.bipush 8, 2) := by decide +kernel
theorem dX1_plainBits_7 : decode cX1_plainBits 7 = .ok (.if_icmp .ge 24, 3) := by decide +kernel
theorem dX1_plainBits_10 : decode cX1_plainBits 10 = .ok (.aload_n 0, 1) := by decide +kernel
theorem dX1_plainBits_11 : decode cX1_plainBits 11 = .ok (.getfield 18, 3) := by decide +kernel
theorem dX1_plainBits_14 : decode cX1_plainBits 14 = .ok (.iload_n 2, 1) := by decide +kernel
theorem dX1_plainBits_15 : decode cX1_plainBits 15 = .ok (.iaload, 1) := by decide +kernel
theorem dX1_plainBits_16 : decode cX1_plainBits 16 = .ok (.ifCond .ne 9, 3) := by decide +kernel
theorem dX1_plainBits_19 : decode cX1_plainBits 19 = .ok (.iload_n 1, 1) := by decide +kernel
theorem dX1_plainBits_20 : decode cX1_plainBits 20 = .ok (.iconst 1, 1) := by decide +kernel
theorem dX1_plainBits_21 : decode cX1_plainBits 21 = .ok (.iload_n 2, 1) := by decide +kernel
theorem dX1_plainBits_22 : decode cX1_plainBits 22 = .ok (.ishl, 1) := by decide +kernel
theorem dX1_plainBits_23 : decode cX1_plainBits 23 = .ok (.ior, 1) := by decide +kernel
theorem dX1_plainBits_24 : decode cX1_plainBits 24 = .ok (.istore_n 1, 1) := by decide +kernel
theorem dX1_plainBits_25 : decode cX1_plainBits 25 = .ok (.iinc 2 1, 3) := by decide +kernel
theorem dX1_plainBits_28 : decode cX1_plainBits 28 = .ok (.goto (-24), 3) := by decide +kernel
theorem dX1_plainBits_31 : decode cX1_plainBits 31 = .ok (.iload_n 1, 1) := by decide +kernel
theorem dX1_plainBits_32 : decode cX1_plainBits 32 = .ok (.ireturn, 1) := by decide +kernel
theorem dX1_aimsTogether_0 : decode cX1_aimsTogether 0 = .ok (.iconst 0, 1) := by decide +kernel
theorem dX1_aimsTogether_1 : decode cX1_aimsTogether 1 = .ok (.istore_n 1, 1) := by decide +kernel
theorem dX1_aimsTogether_2 : decode cX1_aimsTogether 2 = .ok (.iconst 0, 1) := by decide +kernel
theorem dX1_aimsTogether_3 : decode cX1_aimsTogether 3 = .ok (.istore_n 2, 1) := by decide +kernel
theorem dX1_aimsTogether_4 : decode cX1_aimsTogether 4 = .ok (.iload_n 2, 1) := by decide +kernel
theorem dX1_aimsTogether_5 : decode cX1_aimsTogether 5 = .ok (.bipush 8, 2) := by decide +kernel
theorem dX1_aimsTogether_7 : decode cX1_aimsTogether 7 = .ok (.if_icmp .ge 27, 3) := by decide +kernel
theorem dX1_aimsTogether_10 : decode cX1_aimsTogether 10 = .ok (.aload_n 0, 1) := by decide +kernel
theorem dX1_aimsTogether_11 : decode cX1_aimsTogether 11 = .ok (.getfield 18, 3) := by decide +kernel
theorem dX1_aimsTogether_14 : decode cX1_aimsTogether 14 = .ok (.iload_n 2, 1) := by decide +kernel
theorem dX1_aimsTogether_15 : decode cX1_aimsTogether 15 = .ok (.iaload, 1) := by decide +kernel
theorem dX1_aimsTogether_16 : decode cX1_aimsTogether 16 = .ok (.ifCond .ne 12, 3) := by decide +kernel
theorem dX1_aimsTogether_19 : decode cX1_aimsTogether 19 = .ok (.iload_n 1, 1) := by decide +kernel
theorem dX1_aimsTogether_20 : decode cX1_aimsTogether 20 = .ok (.aload_n 0, 1) := by decide +kernel
theorem dX1_aimsTogether_21 : decode cX1_aimsTogether 21 = .ok (.getfield 21, 3) := by decide +kernel
theorem dX1_aimsTogether_24 : decode cX1_aimsTogether 24 = .ok (.iload_n 2, 1) := by decide +kernel
theorem dX1_aimsTogether_25 : decode cX1_aimsTogether 25 = .ok (.iaload, 1) := by decide +kernel
theorem dX1_aimsTogether_26 : decode cX1_aimsTogether 26 = .ok (.iadd, 1) := by decide +kernel
theorem dX1_aimsTogether_27 : decode cX1_aimsTogether 27 = .ok (.istore_n 1, 1) := by decide +kernel
theorem dX1_aimsTogether_28 : decode cX1_aimsTogether 28 = .ok (.iinc 2 1, 3) := by decide +kernel
theorem dX1_aimsTogether_31 : decode cX1_aimsTogether 31 = .ok (.goto (-27), 3) := by decide +kernel
theorem dX1_aimsTogether_34 : decode cX1_aimsTogether 34 = .ok (.iload_n 1, 1) := by decide +kernel
theorem dX1_aimsTogether_35 : decode cX1_aimsTogether 35 = .ok (.ireturn, 1) := by decide +kernel
theorem dX1_comingAt_0 : decode cX1_comingAt 0 = .ok (.iconst 0, 1) := by decide +kernel
theorem dX1_comingAt_1 : decode cX1_comingAt 1 = .ok (.istore_n 2, 1) := by decide +kernel
theorem dX1_comingAt_2 : decode cX1_comingAt 2 = .ok (.iconst 0, 1) := by decide +kernel
theorem dX1_comingAt_3 : decode cX1_comingAt 3 = .ok (.istore_n 3, 1) := by decide +kernel
theorem dX1_comingAt_4 : decode cX1_comingAt 4 = .ok (.iload_n 3, 1) := by decide +kernel
theorem dX1_comingAt_5 : decode cX1_comingAt 5 = .ok (.bipush 8, 2) := by decide +kernel
theorem dX1_comingAt_7 : decode cX1_comingAt 7 = .ok (.if_icmp .ge 25, 3) := by decide +kernel
theorem dX1_comingAt_10 : decode cX1_comingAt 10 = .ok (.aload_n 0, 1) := by decide +kernel
theorem dX1_comingAt_11 : decode cX1_comingAt 11 = .ok (.getfield 24, 3) := by decide +kernel
theorem dX1_comingAt_14 : decode cX1_comingAt 14 = .ok (.iload_n 3, 1) := by decide +kernel
theorem dX1_comingAt_15 : decode cX1_comingAt 15 = .ok (.iaload, 1) := by decide +kernel
theorem dX1_comingAt_16 : decode cX1_comingAt 16 = .ok (.iload_n 1, 1) := by decide +kernel
theorem dX1_comingAt_17 : decode cX1_comingAt 17 = .ok (.if_icmp .ne 9, 3) := by decide +kernel
theorem dX1_comingAt_20 : decode cX1_comingAt 20 = .ok (.iload_n 2, 1) := by decide +kernel
theorem dX1_comingAt_21 : decode cX1_comingAt 21 = .ok (.iconst 1, 1) := by decide +kernel
theorem dX1_comingAt_22 : decode cX1_comingAt 22 = .ok (.iload_n 3, 1) := by decide +kernel
theorem dX1_comingAt_23 : decode cX1_comingAt 23 = .ok (.ishl, 1) := by decide +kernel
theorem dX1_comingAt_24 : decode cX1_comingAt 24 = .ok (.ior, 1) := by decide +kernel
theorem dX1_comingAt_25 : decode cX1_comingAt 25 = .ok (.istore_n 2, 1) := by decide +kernel
theorem dX1_comingAt_26 : decode cX1_comingAt 26 = .ok (.iinc 3 1, 3) := by decide +kernel
theorem dX1_comingAt_29 : decode cX1_comingAt 29 = .ok (.goto (-25), 3) := by decide +kernel
theorem dX1_comingAt_32 : decode cX1_comingAt 32 = .ok (.iload_n 2, 1) := by decide +kernel
theorem dX1_comingAt_33 : decode cX1_comingAt 33 = .ok (.ireturn, 1) := by decide +kernel
theorem dX1_reckon_0 : decode cX1_reckon 0 = .ok (.aload_n 0, 1) := by decide +kernel
theorem dX1_reckon_1 : decode cX1_reckon 1 = .ok (.iconst (-1), 1) := by decide +kernel
theorem dX1_reckon_2 : decode cX1_reckon 2 = .ok (.invokevirtual 60, 3) := by decide +kernel
theorem dX1_reckon_5 : decode cX1_reckon 5 = .ok (.aload_n 0, 1) := by decide +kernel
theorem dX1_reckon_6 : decode cX1_reckon 6 = .ok (.iconst (-1), 1) := by decide +kernel
theorem dX1_reckon_7 : decode cX1_reckon 7 = .ok (.bipush 60, 2) := by decide +kernel
theorem dX1_reckon_9 : decode cX1_reckon 9 = .ok (.invokevirtual 64, 3) := by decide +kernel
theorem dX1_reckon_12 : decode cX1_reckon 12 = .ok (.ireturn, 1) := by decide +kernel
theorem dX1_together_0 : decode cX1_together 0 = .ok (.aload_n 0, 1) := by decide +kernel
theorem dX1_together_1 : decode cX1_together 1 = .ok (.invokevirtual 68, 3) := by decide +kernel
theorem dX1_together_4 : decode cX1_together 4 = .ok (.istore_n 1, 1) := by decide +kernel
theorem dX1_together_5 : decode cX1_together 5 = .ok (.iconst 0, 1) := by decide +kernel
theorem dX1_together_6 : decode cX1_together 6 = .ok (.istore_n 2, 1) := by decide +kernel
theorem dX1_together_7 : decode cX1_together 7 = .ok (.iconst 0, 1) := by decide +kernel
theorem dX1_together_8 : decode cX1_together 8 = .ok (.istore_n 3, 1) := by decide +kernel
theorem dX1_together_9 : decode cX1_together 9 = .ok (.iload_n 3, 1) := by decide +kernel
theorem dX1_together_10 : decode cX1_together 10 = .ok (.bipush 8, 2) := by decide +kernel
theorem dX1_together_12 : decode cX1_together 12 = .ok (.if_icmp .ge 34, 3) := by decide +kernel
theorem dX1_together_15 : decode cX1_together 15 = .ok (.aload_n 0, 1) := by decide +kernel
theorem dX1_together_16 : decode cX1_together 16 = .ok (.getfield 18, 3) := by decide +kernel
theorem dX1_together_19 : decode cX1_together 19 = .ok (.iload_n 3, 1) := by decide +kernel
theorem dX1_together_20 : decode cX1_together 20 = .ok (.iaload, 1) := by decide +kernel
theorem dX1_together_21 : decode cX1_together 21 = .ok (.iconst (-1), 1) := by decide +kernel
theorem dX1_together_22 : decode cX1_together 22 = .ok (.if_icmp .eq 18, 3) := by decide +kernel
theorem dX1_together_25 : decode cX1_together 25 = .ok (.iload_n 2, 1) := by decide +kernel
theorem dX1_together_26 : decode cX1_together 26 = .ok (.aload_n 0, 1) := by decide +kernel
theorem dX1_together_27 : decode cX1_together 27 = .ok (.iload_n 3, 1) := by decide +kernel
theorem dX1_together_28 : decode cX1_together 28 = .ok (.aload_n 0, 1) := by decide +kernel
theorem dX1_together_29 : decode cX1_together 29 = .ok (.getfield 24, 3) := by decide +kernel
theorem dX1_together_32 : decode cX1_together 32 = .ok (.iload_n 3, 1) := by decide +kernel
theorem dX1_together_33 : decode cX1_together 33 = .ok (.iaload, 1) := by decide +kernel
theorem dX1_together_34 : decode cX1_together 34 = .ok (.iload_n 1, 1) := by decide +kernel
theorem dX1_together_35 : decode cX1_together 35 = .ok (.invokevirtual 72, 3) := by decide +kernel
theorem dX1_together_38 : decode cX1_together 38 = .ok (.iadd, 1) := by decide +kernel
theorem dX1_together_39 : decode cX1_together 39 = .ok (.istore_n 2, 1) := by decide +kernel
theorem dX1_together_40 : decode cX1_together 40 = .ok (.iinc 3 1, 3) := by decide +kernel
theorem dX1_together_43 : decode cX1_together 43 = .ok (.goto (-34), 3) := by decide +kernel
theorem dX1_together_46 : decode cX1_together 46 = .ok (.iload_n 2, 1) := by decide +kernel
theorem dX1_together_47 : decode cX1_together 47 = .ok (.ireturn, 1) := by decide +kernel
theorem dX1_gather_0 : decode cX1_gather 0 = .ok (.aload_n 0, 1) := by decide +kernel
theorem dX1_gather_1 : decode cX1_gather 1 = .ok (.iconst 0, 1) := by decide +kernel
theorem dX1_gather_2 : decode cX1_gather 2 = .ok (.putfield 76, 3) := by decide +kernel
theorem dX1_gather_5 : decode cX1_gather 5 = .ok (.aload_n 0, 1) := by decide +kernel
theorem dX1_gather_6 : decode cX1_gather 6 = .ok (.iconst 0, 1) := by decide +kernel
theorem dX1_gather_7 : decode cX1_gather 7 = .ok (.putfield 79, 3) := by decide +kernel
theorem dX1_gather_10 : decode cX1_gather 10 = .ok (.iconst 0, 1) := by decide +kernel
theorem dX1_gather_11 : decode cX1_gather 11 = .ok (.istore_n 2, 1) := by decide +kernel
theorem dX1_gather_12 : decode cX1_gather 12 = .ok (.iload_n 2, 1) := by decide +kernel
theorem dX1_gather_13 : decode cX1_gather 13 = .ok (.bipush 8, 2) := by decide +kernel
theorem dX1_gather_15 : decode cX1_gather 15 = .ok (.if_icmp .ge 100, 3) := by decide +kernel
theorem dX1_gather_18 : decode cX1_gather 18 = .ok (.aload_n 0, 1) := by decide +kernel
theorem dX1_gather_19 : decode cX1_gather 19 = .ok (.getfield 24, 3) := by decide +kernel
theorem dX1_gather_22 : decode cX1_gather 22 = .ok (.iload_n 2, 1) := by decide +kernel
theorem dX1_gather_23 : decode cX1_gather 23 = .ok (.bipush 60, 2) := by decide +kernel
theorem dX1_gather_25 : decode cX1_gather 25 = .ok (.iastore, 1) := by decide +kernel
theorem dX1_gather_26 : decode cX1_gather 26 = .ok (.iload_n 2, 1) := by decide +kernel
theorem dX1_gather_27 : decode cX1_gather 27 = .ok (.iload_n 1, 1) := by decide +kernel
theorem dX1_gather_28 : decode cX1_gather 28 = .ok (.if_icmp .eq 81, 3) := by decide +kernel
theorem dX1_gather_31 : decode cX1_gather 31 = .ok (.aload_n 0, 1) := by decide +kernel
theorem dX1_gather_32 : decode cX1_gather 32 = .ok (.getfield 18, 3) := by decide +kernel
theorem dX1_gather_35 : decode cX1_gather 35 = .ok (.iload_n 2, 1) := by decide +kernel
theorem dX1_gather_36 : decode cX1_gather 36 = .ok (.iaload, 1) := by decide +kernel
theorem dX1_gather_37 : decode cX1_gather 37 = .ok (.iconst (-1), 1) := by decide +kernel
theorem dX1_gather_38 : decode cX1_gather 38 = .ok (.if_icmp .eq 71, 3) := by decide +kernel
theorem dX1_gather_41 : decode cX1_gather 41 = .ok (.aload_n 0, 1) := by decide +kernel
theorem dX1_gather_42 : decode cX1_gather 42 = .ok (.getfield 57, 3) := by decide +kernel
theorem dX1_gather_45 : decode cX1_gather 45 = .ok (.iload_n 2, 1) := by decide +kernel
theorem dX1_gather_46 : decode cX1_gather 46 = .ok (.ishr, 1) := by decide +kernel
theorem dX1_gather_47 : decode cX1_gather 47 = .ok (.iconst 1, 1) := by decide +kernel
theorem dX1_gather_48 : decode cX1_gather 48 = .ok (.iand, 1) := by decide +kernel
theorem dX1_gather_49 : decode cX1_gather 49 = .ok (.ifCond .eq 6, 3) := by decide +kernel
theorem dX1_gather_52 : decode cX1_gather 52 = .ok (.goto 57, 3) := by decide +kernel
theorem dX1_gather_55 : decode cX1_gather 55 = .ok (.aload_n 0, 1) := by decide +kernel
theorem dX1_gather_56 : decode cX1_gather 56 = .ok (.getfield 18, 3) := by decide +kernel
theorem dX1_gather_59 : decode cX1_gather 59 = .ok (.iload_n 2, 1) := by decide +kernel
theorem dX1_gather_60 : decode cX1_gather 60 = .ok (.iaload, 1) := by decide +kernel
theorem dX1_gather_61 : decode cX1_gather 61 = .ok (.iconst 2, 1) := by decide +kernel
theorem dX1_gather_62 : decode cX1_gather 62 = .ok (.if_icmp .ne 26, 3) := by decide +kernel
theorem dX1_gather_65 : decode cX1_gather 65 = .ok (.aload_n 0, 1) := by decide +kernel
theorem dX1_gather_66 : decode cX1_gather 66 = .ok (.getfield 33, 3) := by decide +kernel
theorem dX1_gather_69 : decode cX1_gather 69 = .ok (.aload_n 0, 1) := by decide +kernel
theorem dX1_gather_70 : decode cX1_gather 70 = .ok (.getfield 79, 3) := by decide +kernel
theorem dX1_gather_73 : decode cX1_gather 73 = .ok (.iload_n 2, 1) := by decide +kernel
theorem dX1_gather_74 : decode cX1_gather 74 = .ok (.iastore, 1) := by decide +kernel
theorem dX1_gather_75 : decode cX1_gather 75 = .ok (.aload_n 0, 1) := by decide +kernel
theorem dX1_gather_76 : decode cX1_gather 76 = .ok (.dup, 1) := by decide +kernel
theorem dX1_gather_77 : decode cX1_gather 77 = .ok (.getfield 79, 3) := by decide +kernel
theorem dX1_gather_80 : decode cX1_gather 80 = .ok (.iconst 1, 1) := by decide +kernel
theorem dX1_gather_81 : decode cX1_gather 81 = .ok (.iadd, 1) := by decide +kernel
theorem dX1_gather_82 : decode cX1_gather 82 = .ok (.putfield 79, 3) := by decide +kernel
theorem dX1_gather_85 : decode cX1_gather 85 = .ok (.goto 24, 3) := by decide +kernel
theorem dX1_gather_88 : decode cX1_gather 88 = .ok (.aload_n 0, 1) := by decide +kernel
theorem dX1_gather_89 : decode cX1_gather 89 = .ok (.getfield 24, 3) := by decide +kernel
theorem dX1_gather_92 : decode cX1_gather 92 = .ok (.iload_n 2, 1) := by decide +kernel
theorem dX1_gather_93 : decode cX1_gather 93 = .ok (.aload_n 0, 1) := by decide +kernel
theorem dX1_gather_94 : decode cX1_gather 94 = .ok (.iload_n 2, 1) := by decide +kernel
theorem dX1_gather_95 : decode cX1_gather 95 = .ok (.invokevirtual 82, 3) := by decide +kernel
theorem dX1_gather_98 : decode cX1_gather 98 = .ok (.iastore, 1) := by decide +kernel
theorem dX1_gather_99 : decode cX1_gather 99 = .ok (.aload_n 0, 1) := by decide +kernel
theorem dX1_gather_100 : decode cX1_gather 100 = .ok (.aload_n 0, 1) := by decide +kernel
theorem dX1_gather_101 : decode cX1_gather 101 = .ok (.getfield 24, 3) := by decide +kernel
theorem dX1_gather_104 : decode cX1_gather 104 = .ok (.iload_n 2, 1) := by decide +kernel
theorem dX1_gather_105 : decode cX1_gather 105 = .ok (.iaload, 1) := by decide +kernel
theorem dX1_gather_106 : decode cX1_gather 106 = .ok (.invokevirtual 86, 3) := by decide +kernel
theorem dX1_gather_109 : decode cX1_gather 109 = .ok (.iinc 2 1, 3) := by decide +kernel
theorem dX1_gather_112 : decode cX1_gather 112 = .ok (.goto (-100), 3) := by decide +kernel
theorem dX1_gather_115 : decode cX1_gather 115 = .ok (.aload_n 0, 1) := by decide +kernel
theorem dX1_gather_116 : decode cX1_gather 116 = .ok (.getfield 27, 3) := by decide +kernel
theorem dX1_gather_119 : decode cX1_gather 119 = .ok (.iconst 0, 1) := by decide +kernel
theorem dX1_gather_120 : decode cX1_gather 120 = .ok (.aload_n 0, 1) := by decide +kernel
theorem dX1_gather_121 : decode cX1_gather 121 = .ok (.getfield 30, 3) := by decide +kernel
theorem dX1_gather_124 : decode cX1_gather 124 = .ok (.iconst 0, 1) := by decide +kernel
theorem dX1_gather_125 : decode cX1_gather 125 = .ok (.bipush 8, 2) := by decide +kernel
theorem dX1_gather_127 : decode cX1_gather 127 = .ok (.invokestatic 47, 3) := by decide +kernel
theorem dX1_gather_130 : decode cX1_gather 130 = .ok (.aload_n 0, 1) := by decide +kernel
theorem dX1_gather_131 : decode cX1_gather 131 = .ok (.aload_n 0, 1) := by decide +kernel
theorem dX1_gather_132 : decode cX1_gather 132 = .ok (.getfield 76, 3) := by decide +kernel
theorem dX1_gather_135 : decode cX1_gather 135 = .ok (.putfield 89, 3) := by decide +kernel
theorem dX1_gather_138 : decode cX1_gather 138 = .ok (.return_, 1) := by decide +kernel
theorem dX1_firmMinute_0 : decode cX1_firmMinute 0 = .ok (.aload_n 0, 1) := by decide +kernel
theorem dX1_firmMinute_1 : decode cX1_firmMinute 1 = .ok (.getfield 18, 3) := by decide +kernel
theorem dX1_firmMinute_4 : decode cX1_firmMinute 4 = .ok (.iload_n 1, 1) := by decide +kernel
theorem dX1_firmMinute_5 : decode cX1_firmMinute 5 = .ok (.iaload, 1) := by decide +kernel
theorem dX1_firmMinute_6 : decode cX1_firmMinute 6 = .ok (.ifCond .ne 12, 3) := by decide +kernel
theorem dX1_firmMinute_9 : decode cX1_firmMinute 9 = .ok (.aload_n 0, 1) := by decide +kernel
theorem dX1_firmMinute_10 : decode cX1_firmMinute 10 = .ok (.getfield 21, 3) := by decide +kernel
theorem dX1_firmMinute_13 : decode cX1_firmMinute 13 = .ok (.iload_n 1, 1) := by decide +kernel
theorem dX1_firmMinute_14 : decode cX1_firmMinute 14 = .ok (.iaload, 1) := by decide +kernel
theorem dX1_firmMinute_15 : decode cX1_firmMinute 15 = .ok (.goto 9, 3) := by decide +kernel
theorem dX1_firmMinute_18 : decode cX1_firmMinute 18 = .ok (.aload_n 0, 1) := by decide +kernel
theorem dX1_firmMinute_19 : decode cX1_firmMinute 19 = .ok (.getfield 13, 3) := by decide +kernel
theorem dX1_firmMinute_22 : decode cX1_firmMinute 22 = .ok (.iconst 0, 1) := by decide +kernel
theorem dX1_firmMinute_23 : decode cX1_firmMinute 23 = .ok (.iaload, 1) := by decide +kernel
theorem dX1_firmMinute_24 : decode cX1_firmMinute 24 = .ok (.istore_n 2, 1) := by decide +kernel
theorem dX1_firmMinute_25 : decode cX1_firmMinute 25 = .ok (.aload_n 0, 1) := by decide +kernel
theorem dX1_firmMinute_26 : decode cX1_firmMinute 26 = .ok (.getfield 53, 3) := by decide +kernel
theorem dX1_firmMinute_29 : decode cX1_firmMinute 29 = .ok (.iload_n 1, 1) := by decide +kernel
theorem dX1_firmMinute_30 : decode cX1_firmMinute 30 = .ok (.ishr, 1) := by decide +kernel
theorem dX1_firmMinute_31 : decode cX1_firmMinute 31 = .ok (.iconst 1, 1) := by decide +kernel
theorem dX1_firmMinute_32 : decode cX1_firmMinute 32 = .ok (.iand, 1) := by decide +kernel
theorem dX1_firmMinute_33 : decode cX1_firmMinute 33 = .ok (.ifCond .eq 17, 3) := by decide +kernel
theorem dX1_firmMinute_36 : decode cX1_firmMinute 36 = .ok (.iload_n 2, 1) := by decide +kernel
theorem dX1_firmMinute_37 : decode cX1_firmMinute 37 = .ok (.aload_n 0, 1) := by decide +kernel
theorem dX1_firmMinute_38 : decode cX1_firmMinute 38 = .ok (.getfield 39, 3) := by decide +kernel
theorem dX1_firmMinute_41 : decode cX1_firmMinute 41 = .ok (.getfield 92, 3) := by decide +kernel
theorem dX1_firmMinute_44 : decode cX1_firmMinute 44 = .ok (.iconst 4, 1) := by decide +kernel
theorem dX1_firmMinute_45 : decode cX1_firmMinute 45 = .ok (.aaload, 1) := by decide +kernel
theorem dX1_firmMinute_46 : decode cX1_firmMinute 46 = .ok (.iload_n 1, 1) := by decide +kernel
theorem dX1_firmMinute_47 : decode cX1_firmMinute 47 = .ok (.iaload, 1) := by decide +kernel
theorem dX1_firmMinute_48 : decode cX1_firmMinute 48 = .ok (.iadd, 1) := by decide +kernel
theorem dX1_firmMinute_49 : decode cX1_firmMinute 49 = .ok (.istore_n 2, 1) := by decide +kernel
theorem dX1_firmMinute_50 : decode cX1_firmMinute 50 = .ok (.iload_n 2, 1) := by decide +kernel
theorem dX1_firmMinute_51 : decode cX1_firmMinute 51 = .ok (.bipush 60, 2) := by decide +kernel
theorem dX1_firmMinute_53 : decode cX1_firmMinute 53 = .ok (.if_icmp .ge 7, 3) := by decide +kernel
theorem dX1_firmMinute_56 : decode cX1_firmMinute 56 = .ok (.iload_n 2, 1) := by decide +kernel
theorem dX1_firmMinute_57 : decode cX1_firmMinute 57 = .ok (.goto 5, 3) := by decide +kernel
theorem dX1_firmMinute_60 : decode cX1_firmMinute 60 = .ok (.bipush 60, 2) := by decide +kernel
theorem dX1_firmMinute_62 : decode cX1_firmMinute 62 = .ok (.ireturn, 1) := by decide +kernel
theorem dX1_enter_0 : decode cX1_enter 0 = .ok (.iload_n 1, 1) := by decide +kernel
theorem dX1_enter_1 : decode cX1_enter 1 = .ok (.bipush 60, 2) := by decide +kernel
theorem dX1_enter_3 : decode cX1_enter 3 = .ok (.if_icmp .ge 19, 3) := by decide +kernel
theorem dX1_enter_6 : decode cX1_enter 6 = .ok (.aload_n 0, 1) := by decide +kernel
theorem dX1_enter_7 : decode cX1_enter 7 = .ok (.getfield 76, 3) := by decide +kernel
theorem dX1_enter_10 : decode cX1_enter 10 = .ok (.ifCond .lt 12, 3) := by decide +kernel
theorem dX1_enter_13 : decode cX1_enter 13 = .ok (.aload_n 0, 1) := by decide +kernel
theorem dX1_enter_14 : decode cX1_enter 14 = .ok (.getfield 76, 3) := by decide +kernel
theorem dX1_enter_17 : decode cX1_enter 17 = .ok (.bipush 8, 2) := by decide +kernel
theorem dX1_enter_19 : decode cX1_enter 19 = .ok (.if_icmp .lt 4, 3) := by decide +kernel
theorem dX1_enter_22 : decode cX1_enter 22 = .ok (.return_, 1) := by decide +kernel
theorem dX1_enter_23 : decode cX1_enter 23 = .ok (.aload_n 0, 1) := by decide +kernel
theorem dX1_enter_24 : decode cX1_enter 24 = .ok (.getfield 76, 3) := by decide +kernel
theorem dX1_enter_27 : decode cX1_enter 27 = .ok (.istore_n 2, 1) := by decide +kernel
theorem dX1_enter_28 : decode cX1_enter 28 = .ok (.iload_n 2, 1) := by decide +kernel
theorem dX1_enter_29 : decode cX1_enter 29 = .ok (.ifCond .le 35, 3) := by decide +kernel
theorem dX1_enter_32 : decode cX1_enter 32 = .ok (.aload_n 0, 1) := by decide +kernel
theorem dX1_enter_33 : decode cX1_enter 33 = .ok (.getfield 27, 3) := by decide +kernel
theorem dX1_enter_36 : decode cX1_enter 36 = .ok (.iload_n 2, 1) := by decide +kernel
theorem dX1_enter_37 : decode cX1_enter 37 = .ok (.iconst 1, 1) := by decide +kernel
theorem dX1_enter_38 : decode cX1_enter 38 = .ok (.isub, 1) := by decide +kernel
theorem dX1_enter_39 : decode cX1_enter 39 = .ok (.iaload, 1) := by decide +kernel
theorem dX1_enter_40 : decode cX1_enter 40 = .ok (.iload_n 1, 1) := by decide +kernel
theorem dX1_enter_41 : decode cX1_enter 41 = .ok (.if_icmp .le 23, 3) := by decide +kernel
theorem dX1_enter_44 : decode cX1_enter 44 = .ok (.aload_n 0, 1) := by decide +kernel
theorem dX1_enter_45 : decode cX1_enter 45 = .ok (.getfield 27, 3) := by decide +kernel
theorem dX1_enter_48 : decode cX1_enter 48 = .ok (.iload_n 2, 1) := by decide +kernel
theorem dX1_enter_49 : decode cX1_enter 49 = .ok (.aload_n 0, 1) := by decide +kernel
theorem dX1_enter_50 : decode cX1_enter 50 = .ok (.getfield 27, 3) := by decide +kernel
theorem dX1_enter_53 : decode cX1_enter 53 = .ok (.iload_n 2, 1) := by decide +kernel
theorem dX1_enter_54 : decode cX1_enter 54 = .ok (.iconst 1, 1) := by decide +kernel
theorem dX1_enter_55 : decode cX1_enter 55 = .ok (.isub, 1) := by decide +kernel
theorem dX1_enter_56 : decode cX1_enter 56 = .ok (.iaload, 1) := by decide +kernel
theorem dX1_enter_57 : decode cX1_enter 57 = .ok (.iastore, 1) := by decide +kernel
theorem dX1_enter_58 : decode cX1_enter 58 = .ok (.iinc 2 (-1), 3) := by decide +kernel
theorem dX1_enter_61 : decode cX1_enter 61 = .ok (.goto (-33), 3) := by decide +kernel
theorem dX1_enter_64 : decode cX1_enter 64 = .ok (.aload_n 0, 1) := by decide +kernel
theorem dX1_enter_65 : decode cX1_enter 65 = .ok (.getfield 27, 3) := by decide +kernel
theorem dX1_enter_68 : decode cX1_enter 68 = .ok (.iload_n 2, 1) := by decide +kernel
theorem dX1_enter_69 : decode cX1_enter 69 = .ok (.iload_n 1, 1) := by decide +kernel
theorem dX1_enter_70 : decode cX1_enter 70 = .ok (.iastore, 1) := by decide +kernel
theorem dX1_enter_71 : decode cX1_enter 71 = .ok (.aload_n 0, 1) := by decide +kernel
theorem dX1_enter_72 : decode cX1_enter 72 = .ok (.dup, 1) := by decide +kernel
theorem dX1_enter_73 : decode cX1_enter 73 = .ok (.getfield 76, 3) := by decide +kernel
theorem dX1_enter_76 : decode cX1_enter 76 = .ok (.iconst 1, 1) := by decide +kernel
theorem dX1_enter_77 : decode cX1_enter 77 = .ok (.iadd, 1) := by decide +kernel
theorem dX1_enter_78 : decode cX1_enter 78 = .ok (.putfield 76, 3) := by decide +kernel
theorem dX1_enter_81 : decode cX1_enter 81 = .ok (.return_, 1) := by decide +kernel
theorem dX1_settle_0 : decode cX1_settle 0 = .ok (.aload_n 0, 1) := by decide +kernel
theorem dX1_settle_1 : decode cX1_settle 1 = .ok (.getfield 30, 3) := by decide +kernel
theorem dX1_settle_4 : decode cX1_settle 4 = .ok (.iconst 0, 1) := by decide +kernel
theorem dX1_settle_5 : decode cX1_settle 5 = .ok (.aload_n 0, 1) := by decide +kernel
theorem dX1_settle_6 : decode cX1_settle 6 = .ok (.getfield 27, 3) := by decide +kernel
theorem dX1_settle_9 : decode cX1_settle 9 = .ok (.iconst 0, 1) := by decide +kernel
theorem dX1_settle_10 : decode cX1_settle 10 = .ok (.bipush 8, 2) := by decide +kernel
theorem dX1_settle_12 : decode cX1_settle 12 = .ok (.invokestatic 47, 3) := by decide +kernel
theorem dX1_settle_15 : decode cX1_settle 15 = .ok (.aload_n 0, 1) := by decide +kernel
theorem dX1_settle_16 : decode cX1_settle 16 = .ok (.aload_n 0, 1) := by decide +kernel
theorem dX1_settle_17 : decode cX1_settle 17 = .ok (.getfield 89, 3) := by decide +kernel
theorem dX1_settle_20 : decode cX1_settle 20 = .ok (.putfield 76, 3) := by decide +kernel
theorem dX1_settle_23 : decode cX1_settle 23 = .ok (.iload_n 1, 1) := by decide +kernel
theorem dX1_settle_24 : decode cX1_settle 24 = .ok (.ifCond .lt 21, 3) := by decide +kernel
theorem dX1_settle_27 : decode cX1_settle 27 = .ok (.iload_n 1, 1) := by decide +kernel
theorem dX1_settle_28 : decode cX1_settle 28 = .ok (.bipush 8, 2) := by decide +kernel
theorem dX1_settle_30 : decode cX1_settle 30 = .ok (.if_icmp .ge 15, 3) := by decide +kernel
theorem dX1_settle_33 : decode cX1_settle 33 = .ok (.aload_n 0, 1) := by decide +kernel
theorem dX1_settle_34 : decode cX1_settle 34 = .ok (.getfield 24, 3) := by decide +kernel
theorem dX1_settle_37 : decode cX1_settle 37 = .ok (.iload_n 1, 1) := by decide +kernel
theorem dX1_settle_38 : decode cX1_settle 38 = .ok (.iload_n 2, 1) := by decide +kernel
theorem dX1_settle_39 : decode cX1_settle 39 = .ok (.iastore, 1) := by decide +kernel
theorem dX1_settle_40 : decode cX1_settle 40 = .ok (.aload_n 0, 1) := by decide +kernel
theorem dX1_settle_41 : decode cX1_settle 41 = .ok (.iload_n 2, 1) := by decide +kernel
theorem dX1_settle_42 : decode cX1_settle 42 = .ok (.invokevirtual 86, 3) := by decide +kernel
theorem dX1_settle_45 : decode cX1_settle 45 = .ok (.aload_n 0, 1) := by decide +kernel
theorem dX1_settle_46 : decode cX1_settle 46 = .ok (.getfield 79, 3) := by decide +kernel
theorem dX1_settle_49 : decode cX1_settle 49 = .ok (.ifCond .le 7, 3) := by decide +kernel
theorem dX1_settle_52 : decode cX1_settle 52 = .ok (.aload_n 0, 1) := by decide +kernel
theorem dX1_settle_53 : decode cX1_settle 53 = .ok (.invokevirtual 98, 3) := by decide +kernel
theorem dX1_settle_56 : decode cX1_settle 56 = .ok (.aload_n 0, 1) := by decide +kernel
theorem dX1_settle_57 : decode cX1_settle 57 = .ok (.getfield 43, 3) := by decide +kernel
theorem dX1_settle_60 : decode cX1_settle 60 = .ok (.aload_n 0, 1) := by decide +kernel
theorem dX1_settle_61 : decode cX1_settle 61 = .ok (.getfield 13, 3) := by decide +kernel
theorem dX1_settle_64 : decode cX1_settle 64 = .ok (.iconst 0, 1) := by decide +kernel
theorem dX1_settle_65 : decode cX1_settle 65 = .ok (.iaload, 1) := by decide +kernel
theorem dX1_settle_66 : decode cX1_settle 66 = .ok (.aload_n 0, 1) := by decide +kernel
theorem dX1_settle_67 : decode cX1_settle 67 = .ok (.getfield 27, 3) := by decide +kernel
theorem dX1_settle_70 : decode cX1_settle 70 = .ok (.aload_n 0, 1) := by decide +kernel
theorem dX1_settle_71 : decode cX1_settle 71 = .ok (.getfield 76, 3) := by decide +kernel
theorem dX1_settle_74 : decode cX1_settle 74 = .ok (.aload_n 0, 1) := by decide +kernel
theorem dX1_settle_75 : decode cX1_settle 75 = .ok (.getfield 24, 3) := by decide +kernel
theorem dX1_settle_78 : decode cX1_settle 78 = .ok (.invokevirtual 101, 3) := by decide +kernel
theorem dX1_settle_81 : decode cX1_settle 81 = .ok (.ireturn, 1) := by decide +kernel
theorem dX1_callLookers_0 : decode cX1_callLookers 0 = .ok (.iconst 0, 1) := by decide +kernel
theorem dX1_callLookers_1 : decode cX1_callLookers 1 = .ok (.istore_n 1, 1) := by decide +kernel
theorem dX1_callLookers_2 : decode cX1_callLookers 2 = .ok (.iload_n 1, 1) := by decide +kernel
theorem dX1_callLookers_3 : decode cX1_callLookers 3 = .ok (.aload_n 0, 1) := by decide +kernel
theorem dX1_callLookers_4 : decode cX1_callLookers 4 = .ok (.getfield 79, 3) := by decide +kernel
theorem dX1_callLookers_7 : decode cX1_callLookers 7 = .ok (.if_icmp .ge 28, 3) := by decide +kernel
theorem dX1_callLookers_10 : decode cX1_callLookers 10 = .ok (.iload_n 1, 1) := by decide +kernel
theorem dX1_callLookers_11 : decode cX1_callLookers 11 = .ok (.bipush 8, 2) := by decide +kernel
theorem dX1_callLookers_13 : decode cX1_callLookers 13 = .ok (.if_icmp .ge 22, 3) := by decide +kernel
theorem dX1_callLookers_16 : decode cX1_callLookers 16 = .ok (.aload_n 0, 1) := by decide +kernel
theorem dX1_callLookers_17 : decode cX1_callLookers 17 = .ok (.getfield 24, 3) := by decide +kernel
theorem dX1_callLookers_20 : decode cX1_callLookers 20 = .ok (.aload_n 0, 1) := by decide +kernel
theorem dX1_callLookers_21 : decode cX1_callLookers 21 = .ok (.getfield 33, 3) := by decide +kernel
theorem dX1_callLookers_24 : decode cX1_callLookers 24 = .ok (.iload_n 1, 1) := by decide +kernel
theorem dX1_callLookers_25 : decode cX1_callLookers 25 = .ok (.iaload, 1) := by decide +kernel
theorem dX1_callLookers_26 : decode cX1_callLookers 26 = .ok (.bipush 60, 2) := by decide +kernel
theorem dX1_callLookers_28 : decode cX1_callLookers 28 = .ok (.iastore, 1) := by decide +kernel
theorem dX1_callLookers_29 : decode cX1_callLookers 29 = .ok (.iinc 1 1, 3) := by decide +kernel
theorem dX1_callLookers_32 : decode cX1_callLookers 32 = .ok (.goto (-30), 3) := by decide +kernel
theorem dX1_callLookers_35 : decode cX1_callLookers 35 = .ok (.iconst 0, 1) := by decide +kernel
theorem dX1_callLookers_36 : decode cX1_callLookers 36 = .ok (.istore_n 1, 1) := by decide +kernel
theorem dX1_callLookers_37 : decode cX1_callLookers 37 = .ok (.iload_n 1, 1) := by decide +kernel
theorem dX1_callLookers_38 : decode cX1_callLookers 38 = .ok (.aload_n 0, 1) := by decide +kernel
theorem dX1_callLookers_39 : decode cX1_callLookers 39 = .ok (.getfield 76, 3) := by decide +kernel
theorem dX1_callLookers_42 : decode cX1_callLookers 42 = .ok (.if_icmp .ge 98, 3) := by decide +kernel
theorem dX1_callLookers_45 : decode cX1_callLookers 45 = .ok (.iload_n 1, 1) := by decide +kernel
theorem dX1_callLookers_46 : decode cX1_callLookers 46 = .ok (.bipush 8, 2) := by decide +kernel
theorem dX1_callLookers_48 : decode cX1_callLookers 48 = .ok (.if_icmp .ge 92, 3) := by decide +kernel
theorem dX1_callLookers_51 : decode cX1_callLookers 51 = .ok (.iconst 0, 1) := by decide +kernel
theorem dX1_callLookers_52 : decode cX1_callLookers 52 = .ok (.istore_n 2, 1) := by decide +kernel
theorem dX1_callLookers_53 : decode cX1_callLookers 53 = .ok (.iload_n 2, 1) := by decide +kernel
theorem dX1_callLookers_54 : decode cX1_callLookers 54 = .ok (.aload_n 0, 1) := by decide +kernel
theorem dX1_callLookers_55 : decode cX1_callLookers 55 = .ok (.getfield 79, 3) := by decide +kernel
theorem dX1_callLookers_58 : decode cX1_callLookers 58 = .ok (.if_icmp .ge 76, 3) := by decide +kernel
theorem dX1_callLookers_61 : decode cX1_callLookers 61 = .ok (.iload_n 2, 1) := by decide +kernel
theorem dX1_callLookers_62 : decode cX1_callLookers 62 = .ok (.bipush 8, 2) := by decide +kernel
theorem dX1_callLookers_64 : decode cX1_callLookers 64 = .ok (.if_icmp .ge 70, 3) := by decide +kernel
theorem dX1_callLookers_67 : decode cX1_callLookers 67 = .ok (.aload_n 0, 1) := by decide +kernel
theorem dX1_callLookers_68 : decode cX1_callLookers 68 = .ok (.getfield 33, 3) := by decide +kernel
theorem dX1_callLookers_71 : decode cX1_callLookers 71 = .ok (.iload_n 2, 1) := by decide +kernel
theorem dX1_callLookers_72 : decode cX1_callLookers 72 = .ok (.iaload, 1) := by decide +kernel
theorem dX1_callLookers_73 : decode cX1_callLookers 73 = .ok (.istore_n 3, 1) := by decide +kernel
theorem dX1_callLookers_74 : decode cX1_callLookers 74 = .ok (.aload_n 0, 1) := by decide +kernel
theorem dX1_callLookers_75 : decode cX1_callLookers 75 = .ok (.getfield 27, 3) := by decide +kernel
theorem dX1_callLookers_78 : decode cX1_callLookers 78 = .ok (.iload_n 1, 1) := by decide +kernel
theorem dX1_callLookers_79 : decode cX1_callLookers 79 = .ok (.iaload, 1) := by decide +kernel
theorem dX1_callLookers_80 : decode cX1_callLookers 80 = .ok (.aload_n 0, 1) := by decide +kernel
theorem dX1_callLookers_81 : decode cX1_callLookers 81 = .ok (.getfield 39, 3) := by decide +kernel
theorem dX1_callLookers_84 : decode cX1_callLookers 84 = .ok (.getfield 107, 3) := by decide +kernel
theorem dX1_callLookers_87 : decode cX1_callLookers 87 = .ok (.iload_n 3, 1) := by decide +kernel
theorem dX1_callLookers_88 : decode cX1_callLookers 88 = .ok (.iaload, 1) := by decide +kernel
theorem dX1_callLookers_89 : decode cX1_callLookers 89 = .ok (.iadd, 1) := by decide +kernel
theorem dX1_callLookers_90 : decode cX1_callLookers 90 = .ok (.istore 4, 2) := by decide +kernel
theorem dX1_callLookers_92 : decode cX1_callLookers 92 = .ok (.aload_n 0, 1) := by decide +kernel
theorem dX1_callLookers_93 : decode cX1_callLookers 93 = .ok (.getfield 39, 3) := by decide +kernel
theorem dX1_callLookers_96 : decode cX1_callLookers 96 = .ok (.getfield 110, 3) := by decide +kernel
theorem dX1_callLookers_99 : decode cX1_callLookers 99 = .ok (.iload_n 3, 1) := by decide +kernel
theorem dX1_callLookers_100 : decode cX1_callLookers 100 = .ok (.iaload, 1) := by decide +kernel
theorem dX1_callLookers_101 : decode cX1_callLookers 101 = .ok (.iload_n 1, 1) := by decide +kernel
theorem dX1_callLookers_102 : decode cX1_callLookers 102 = .ok (.iconst 1, 1) := by decide +kernel
theorem dX1_callLookers_103 : decode cX1_callLookers 103 = .ok (.iadd, 1) := by decide +kernel
theorem dX1_callLookers_104 : decode cX1_callLookers 104 = .ok (.if_icmp .ne 24, 3) := by decide +kernel
theorem dX1_callLookers_107 : decode cX1_callLookers 107 = .ok (.iload 4, 2) := by decide +kernel
theorem dX1_callLookers_109 : decode cX1_callLookers 109 = .ok (.bipush 60, 2) := by decide +kernel
theorem dX1_callLookers_111 : decode cX1_callLookers 111 = .ok (.if_icmp .ge 17, 3) := by decide +kernel
theorem dX1_callLookers_114 : decode cX1_callLookers 114 = .ok (.aload_n 0, 1) := by decide +kernel
theorem dX1_callLookers_115 : decode cX1_callLookers 115 = .ok (.getfield 24, 3) := by decide +kernel
theorem dX1_callLookers_118 : decode cX1_callLookers 118 = .ok (.iload_n 3, 1) := by decide +kernel
theorem dX1_callLookers_119 : decode cX1_callLookers 119 = .ok (.iload 4, 2) := by decide +kernel
theorem dX1_callLookers_121 : decode cX1_callLookers 121 = .ok (.iastore, 1) := by decide +kernel
theorem dX1_callLookers_122 : decode cX1_callLookers 122 = .ok (.aload_n 0, 1) := by decide +kernel
theorem dX1_callLookers_123 : decode cX1_callLookers 123 = .ok (.iload 4, 2) := by decide +kernel
theorem dX1_callLookers_125 : decode cX1_callLookers 125 = .ok (.invokevirtual 86, 3) := by decide +kernel
theorem dX1_callLookers_128 : decode cX1_callLookers 128 = .ok (.iinc 2 1, 3) := by decide +kernel
theorem dX1_callLookers_131 : decode cX1_callLookers 131 = .ok (.goto (-78), 3) := by decide +kernel
theorem dX1_callLookers_134 : decode cX1_callLookers 134 = .ok (.iinc 1 1, 3) := by decide +kernel
theorem dX1_callLookers_137 : decode cX1_callLookers 137 = .ok (.goto (-100), 3) := by decide +kernel
theorem dX1_callLookers_140 : decode cX1_callLookers 140 = .ok (.return_, 1) := by decide +kernel
theorem dX1_price_0 : decode cX1_price 0 = .ok (.iload_n 2, 1) := by decide +kernel
theorem dX1_price_1 : decode cX1_price 1 = .ok (.bipush 60, 2) := by decide +kernel
theorem dX1_price_3 : decode cX1_price 3 = .ok (.if_icmp .lt 15, 3) := by decide +kernel
theorem dX1_price_6 : decode cX1_price 6 = .ok (.aload_n 0, 1) := by decide +kernel
theorem dX1_price_7 : decode cX1_price 7 = .ok (.getfield 39, 3) := by decide +kernel
theorem dX1_price_10 : decode cX1_price 10 = .ok (.getfield 92, 3) := by decide +kernel
theorem dX1_price_13 : decode cX1_price 13 = .ok (.iconst 2, 1) := by decide +kernel
theorem dX1_price_14 : decode cX1_price 14 = .ok (.aaload, 1) := by decide +kernel
theorem dX1_price_15 : decode cX1_price 15 = .ok (.iload_n 1, 1) := by decide +kernel
theorem dX1_price_16 : decode cX1_price 16 = .ok (.iaload, 1) := by decide +kernel
theorem dX1_price_17 : decode cX1_price 17 = .ok (.ireturn, 1) := by decide +kernel
theorem dX1_price_18 : decode cX1_price 18 = .ok (.iload_n 2, 1) := by decide +kernel
theorem dX1_price_19 : decode cX1_price 19 = .ok (.iload_n 3, 1) := by decide +kernel
theorem dX1_price_20 : decode cX1_price 20 = .ok (.if_icmp .le 23, 3) := by decide +kernel
theorem dX1_price_23 : decode cX1_price 23 = .ok (.aload_n 0, 1) := by decide +kernel
theorem dX1_price_24 : decode cX1_price 24 = .ok (.getfield 39, 3) := by decide +kernel
theorem dX1_price_27 : decode cX1_price 27 = .ok (.getfield 92, 3) := by decide +kernel
theorem dX1_price_30 : decode cX1_price 30 = .ok (.iconst 1, 1) := by decide +kernel
theorem dX1_price_31 : decode cX1_price 31 = .ok (.aaload, 1) := by decide +kernel
theorem dX1_price_32 : decode cX1_price 32 = .ok (.iload_n 1, 1) := by decide +kernel
theorem dX1_price_33 : decode cX1_price 33 = .ok (.iaload, 1) := by decide +kernel
theorem dX1_price_34 : decode cX1_price 34 = .ok (.iload_n 2, 1) := by decide +kernel
theorem dX1_price_35 : decode cX1_price 35 = .ok (.iload_n 3, 1) := by decide +kernel
theorem dX1_price_36 : decode cX1_price 36 = .ok (.isub, 1) := by decide +kernel
theorem dX1_price_37 : decode cX1_price 37 = .ok (.imul, 1) := by decide +kernel
theorem dX1_price_38 : decode cX1_price 38 = .ok (.istore 4, 2) := by decide +kernel
theorem dX1_price_40 : decode cX1_price 40 = .ok (.goto 37, 3) := by decide +kernel
theorem dX1_price_43 : decode cX1_price 43 = .ok (.aload_n 0, 1) := by decide +kernel
theorem dX1_price_44 : decode cX1_price 44 = .ok (.getfield 39, 3) := by decide +kernel
theorem dX1_price_47 : decode cX1_price 47 = .ok (.getfield 92, 3) := by decide +kernel
theorem dX1_price_50 : decode cX1_price 50 = .ok (.iconst 0, 1) := by decide +kernel
theorem dX1_price_51 : decode cX1_price 51 = .ok (.aaload, 1) := by decide +kernel
theorem dX1_price_52 : decode cX1_price 52 = .ok (.iload_n 1, 1) := by decide +kernel
theorem dX1_price_53 : decode cX1_price 53 = .ok (.iaload, 1) := by decide +kernel
theorem dX1_price_54 : decode cX1_price 54 = .ok (.iload_n 3, 1) := by decide +kernel
theorem dX1_price_55 : decode cX1_price 55 = .ok (.iload_n 2, 1) := by decide +kernel
theorem dX1_price_56 : decode cX1_price 56 = .ok (.isub, 1) := by decide +kernel
theorem dX1_price_57 : decode cX1_price 57 = .ok (.imul, 1) := by decide +kernel
theorem dX1_price_58 : decode cX1_price 58 = .ok (.iload_n 3, 1) := by decide +kernel
theorem dX1_price_59 : decode cX1_price 59 = .ok (.bipush 60, 2) := by decide +kernel
theorem dX1_price_61 : decode cX1_price 61 = .ok (.if_icmp .ge 12, 3) := by decide +kernel
theorem dX1_price_64 : decode cX1_price 64 = .ok (.aload_n 0, 1) := by decide +kernel
theorem dX1_price_65 : decode cX1_price 65 = .ok (.getfield 13, 3) := by decide +kernel
theorem dX1_price_68 : decode cX1_price 68 = .ok (.iconst 2, 1) := by decide +kernel
theorem dX1_price_69 : decode cX1_price 69 = .ok (.iaload, 1) := by decide +kernel
theorem dX1_price_70 : decode cX1_price 70 = .ok (.goto 4, 3) := by decide +kernel
theorem dX1_price_73 : decode cX1_price 73 = .ok (.iconst 0, 1) := by decide +kernel
theorem dX1_price_74 : decode cX1_price 74 = .ok (.isub, 1) := by decide +kernel
theorem dX1_price_75 : decode cX1_price 75 = .ok (.istore 4, 2) := by decide +kernel
theorem dX1_price_77 : decode cX1_price 77 = .ok (.iload_n 2, 1) := by decide +kernel
theorem dX1_price_78 : decode cX1_price 78 = .ok (.aload_n 0, 1) := by decide +kernel
theorem dX1_price_79 : decode cX1_price 79 = .ok (.getfield 13, 3) := by decide +kernel
theorem dX1_price_82 : decode cX1_price 82 = .ok (.iconst 0, 1) := by decide +kernel
theorem dX1_price_83 : decode cX1_price 83 = .ok (.iaload, 1) := by decide +kernel
theorem dX1_price_84 : decode cX1_price 84 = .ok (.if_icmp .le 15, 3) := by decide +kernel
theorem dX1_price_87 : decode cX1_price 87 = .ok (.iload 4, 2) := by decide +kernel
theorem dX1_price_89 : decode cX1_price 89 = .ok (.aload_n 0, 1) := by decide +kernel
theorem dX1_price_90 : decode cX1_price 90 = .ok (.getfield 13, 3) := by decide +kernel
theorem dX1_price_93 : decode cX1_price 93 = .ok (.iconst 1, 1) := by decide +kernel
theorem dX1_price_94 : decode cX1_price 94 = .ok (.iaload, 1) := by decide +kernel
theorem dX1_price_95 : decode cX1_price 95 = .ok (.iadd, 1) := by decide +kernel
theorem dX1_price_96 : decode cX1_price 96 = .ok (.goto 5, 3) := by decide +kernel
theorem dX1_price_99 : decode cX1_price 99 = .ok (.iload 4, 2) := by decide +kernel
theorem dX1_price_101 : decode cX1_price 101 = .ok (.ireturn, 1) := by decide +kernel
theorem dX1_bestOf_0 : decode cX1_bestOf 0 = .ok (.aload_n 0, 1) := by decide +kernel
theorem dX1_bestOf_1 : decode cX1_bestOf 1 = .ok (.iload_n 1, 1) := by decide +kernel
theorem dX1_bestOf_2 : decode cX1_bestOf 2 = .ok (.invokevirtual 60, 3) := by decide +kernel
theorem dX1_bestOf_5 : decode cX1_bestOf 5 = .ok (.aload_n 0, 1) := by decide +kernel
theorem dX1_bestOf_6 : decode cX1_bestOf 6 = .ok (.iload_n 1, 1) := by decide +kernel
theorem dX1_bestOf_7 : decode cX1_bestOf 7 = .ok (.bipush 60, 2) := by decide +kernel
theorem dX1_bestOf_9 : decode cX1_bestOf 9 = .ok (.invokevirtual 64, 3) := by decide +kernel
theorem dX1_bestOf_12 : decode cX1_bestOf 12 = .ok (.istore_n 3, 1) := by decide +kernel
theorem dX1_bestOf_13 : decode cX1_bestOf 13 = .ok (.iconst 0, 1) := by decide +kernel
theorem dX1_bestOf_14 : decode cX1_bestOf 14 = .ok (.istore 4, 2) := by decide +kernel
theorem dX1_bestOf_16 : decode cX1_bestOf 16 = .ok (.ldc 113, 2) := by decide +kernel
theorem dX1_bestOf_18 : decode cX1_bestOf 18 = .ok (.istore 5, 2) := by decide +kernel
theorem dX1_bestOf_20 : decode cX1_bestOf 20 = .ok (.iconst 0, 1) := by decide +kernel
theorem dX1_bestOf_21 : decode cX1_bestOf 21 = .ok (.istore 6, 2) := by decide +kernel
theorem dX1_bestOf_23 : decode cX1_bestOf 23 = .ok (.iload 6, 2) := by decide +kernel
theorem dX1_bestOf_25 : decode cX1_bestOf 25 = .ok (.bipush 60, 2) := by decide +kernel
theorem dX1_bestOf_27 : decode cX1_bestOf 27 = .ok (.if_icmp .gt 65, 3) := by decide +kernel
theorem dX1_bestOf_30 : decode cX1_bestOf 30 = .ok (.iload 6, 2) := by decide +kernel
theorem dX1_bestOf_32 : decode cX1_bestOf 32 = .ok (.iload_n 3, 1) := by decide +kernel
theorem dX1_bestOf_33 : decode cX1_bestOf 33 = .ok (.if_icmp .le 7, 3) := by decide +kernel
theorem dX1_bestOf_36 : decode cX1_bestOf 36 = .ok (.iload_n 3, 1) := by decide +kernel
theorem dX1_bestOf_37 : decode cX1_bestOf 37 = .ok (.goto 10, 3) := by decide +kernel
theorem dX1_bestOf_40 : decode cX1_bestOf 40 = .ok (.aload_n 0, 1) := by decide +kernel
theorem dX1_bestOf_41 : decode cX1_bestOf 41 = .ok (.iload_n 1, 1) := by decide +kernel
theorem dX1_bestOf_42 : decode cX1_bestOf 42 = .ok (.iload 6, 2) := by decide +kernel
theorem dX1_bestOf_44 : decode cX1_bestOf 44 = .ok (.invokevirtual 64, 3) := by decide +kernel
theorem dX1_bestOf_47 : decode cX1_bestOf 47 = .ok (.istore 7, 2) := by decide +kernel
theorem dX1_bestOf_49 : decode cX1_bestOf 49 = .ok (.aload_n 0, 1) := by decide +kernel
theorem dX1_bestOf_50 : decode cX1_bestOf 50 = .ok (.iload_n 1, 1) := by decide +kernel
theorem dX1_bestOf_51 : decode cX1_bestOf 51 = .ok (.iload 6, 2) := by decide +kernel
theorem dX1_bestOf_53 : decode cX1_bestOf 53 = .ok (.iload 7, 2) := by decide +kernel
theorem dX1_bestOf_55 : decode cX1_bestOf 55 = .ok (.invokevirtual 72, 3) := by decide +kernel
theorem dX1_bestOf_58 : decode cX1_bestOf 58 = .ok (.istore 8, 2) := by decide +kernel
theorem dX1_bestOf_60 : decode cX1_bestOf 60 = .ok (.iload 8, 2) := by decide +kernel
theorem dX1_bestOf_62 : decode cX1_bestOf 62 = .ok (.iload 5, 2) := by decide +kernel
theorem dX1_bestOf_64 : decode cX1_bestOf 64 = .ok (.if_icmp .lt 14, 3) := by decide +kernel
theorem dX1_bestOf_67 : decode cX1_bestOf 67 = .ok (.iload_n 2, 1) := by decide +kernel
theorem dX1_bestOf_68 : decode cX1_bestOf 68 = .ok (.ifCond .eq 18, 3) := by decide +kernel
theorem dX1_bestOf_71 : decode cX1_bestOf 71 = .ok (.iload 8, 2) := by decide +kernel
theorem dX1_bestOf_73 : decode cX1_bestOf 73 = .ok (.iload 5, 2) := by decide +kernel
theorem dX1_bestOf_75 : decode cX1_bestOf 75 = .ok (.if_icmp .ne 11, 3) := by decide +kernel
theorem dX1_bestOf_78 : decode cX1_bestOf 78 = .ok (.iload 8, 2) := by decide +kernel
theorem dX1_bestOf_80 : decode cX1_bestOf 80 = .ok (.istore 5, 2) := by decide +kernel
theorem dX1_bestOf_82 : decode cX1_bestOf 82 = .ok (.iload 6, 2) := by decide +kernel
theorem dX1_bestOf_84 : decode cX1_bestOf 84 = .ok (.istore 4, 2) := by decide +kernel
theorem dX1_bestOf_86 : decode cX1_bestOf 86 = .ok (.iinc 6 1, 3) := by decide +kernel
theorem dX1_bestOf_89 : decode cX1_bestOf 89 = .ok (.goto (-66), 3) := by decide +kernel
theorem dX1_bestOf_92 : decode cX1_bestOf 92 = .ok (.iload 4, 2) := by decide +kernel
theorem dX1_bestOf_94 : decode cX1_bestOf 94 = .ok (.ireturn, 1) := by decide +kernel
theorem dX1_openPrice_0 : decode cX1_openPrice 0 = .ok (.aload_n 0, 1) := by decide +kernel
theorem dX1_openPrice_1 : decode cX1_openPrice 1 = .ok (.iload_n 1, 1) := by decide +kernel
theorem dX1_openPrice_2 : decode cX1_openPrice 2 = .ok (.iload_n 2, 1) := by decide +kernel
theorem dX1_openPrice_3 : decode cX1_openPrice 3 = .ok (.aload_n 0, 1) := by decide +kernel
theorem dX1_openPrice_4 : decode cX1_openPrice 4 = .ok (.iload_n 1, 1) := by decide +kernel
theorem dX1_openPrice_5 : decode cX1_openPrice 5 = .ok (.iload_n 2, 1) := by decide +kernel
theorem dX1_openPrice_6 : decode cX1_openPrice 6 = .ok (.invokevirtual 64, 3) := by decide +kernel
theorem dX1_openPrice_9 : decode cX1_openPrice 9 = .ok (.invokevirtual 72, 3) := by decide +kernel
theorem dX1_openPrice_12 : decode cX1_openPrice 12 = .ok (.ireturn, 1) := by decide +kernel
theorem dX1_firstRestless_0 : decode cX1_firstRestless 0 = .ok (.iconst 0, 1) := by decide +kernel
theorem dX1_firstRestless_1 : decode cX1_firstRestless 1 = .ok (.istore_n 1, 1) := by decide +kernel
theorem dX1_firstRestless_2 : decode cX1_firstRestless 2 = .ok (.iload_n 1, 1) := by decide +kernel
theorem dX1_firstRestless_3 : decode cX1_firstRestless 3 = .ok (.bipush 8, 2) := by decide +kernel
theorem dX1_firstRestless_5 : decode cX1_firstRestless 5 = .ok (.if_icmp .ge 50, 3) := by decide +kernel
theorem dX1_firstRestless_8 : decode cX1_firstRestless 8 = .ok (.aload_n 0, 1) := by decide +kernel
theorem dX1_firstRestless_9 : decode cX1_firstRestless 9 = .ok (.getfield 18, 3) := by decide +kernel
theorem dX1_firstRestless_12 : decode cX1_firstRestless 12 = .ok (.iload_n 1, 1) := by decide +kernel
theorem dX1_firstRestless_13 : decode cX1_firstRestless 13 = .ok (.iaload, 1) := by decide +kernel
theorem dX1_firstRestless_14 : decode cX1_firstRestless 14 = .ok (.ifCond .eq 6, 3) := by decide +kernel
theorem dX1_firstRestless_17 : decode cX1_firstRestless 17 = .ok (.goto 32, 3) := by decide +kernel
theorem dX1_firstRestless_20 : decode cX1_firstRestless 20 = .ok (.aload_n 0, 1) := by decide +kernel
theorem dX1_firstRestless_21 : decode cX1_firstRestless 21 = .ok (.iload_n 1, 1) := by decide +kernel
theorem dX1_firstRestless_22 : decode cX1_firstRestless 22 = .ok (.iconst 0, 1) := by decide +kernel
theorem dX1_firstRestless_23 : decode cX1_firstRestless 23 = .ok (.invokevirtual 114, 3) := by decide +kernel
theorem dX1_firstRestless_26 : decode cX1_firstRestless 26 = .ok (.istore_n 2, 1) := by decide +kernel
theorem dX1_firstRestless_27 : decode cX1_firstRestless 27 = .ok (.aload_n 0, 1) := by decide +kernel
theorem dX1_firstRestless_28 : decode cX1_firstRestless 28 = .ok (.iload_n 1, 1) := by decide +kernel
theorem dX1_firstRestless_29 : decode cX1_firstRestless 29 = .ok (.iload_n 2, 1) := by decide +kernel
theorem dX1_firstRestless_30 : decode cX1_firstRestless 30 = .ok (.invokevirtual 118, 3) := by decide +kernel
theorem dX1_firstRestless_33 : decode cX1_firstRestless 33 = .ok (.aload_n 0, 1) := by decide +kernel
theorem dX1_firstRestless_34 : decode cX1_firstRestless 34 = .ok (.iload_n 1, 1) := by decide +kernel
theorem dX1_firstRestless_35 : decode cX1_firstRestless 35 = .ok (.aload_n 0, 1) := by decide +kernel
theorem dX1_firstRestless_36 : decode cX1_firstRestless 36 = .ok (.getfield 21, 3) := by decide +kernel
theorem dX1_firstRestless_39 : decode cX1_firstRestless 39 = .ok (.iload_n 1, 1) := by decide +kernel
theorem dX1_firstRestless_40 : decode cX1_firstRestless 40 = .ok (.iaload, 1) := by decide +kernel
theorem dX1_firstRestless_41 : decode cX1_firstRestless 41 = .ok (.invokevirtual 118, 3) := by decide +kernel
theorem dX1_firstRestless_44 : decode cX1_firstRestless 44 = .ok (.if_icmp .ge 5, 3) := by decide +kernel
theorem dX1_firstRestless_47 : decode cX1_firstRestless 47 = .ok (.iload_n 1, 1) := by decide +kernel
theorem dX1_firstRestless_48 : decode cX1_firstRestless 48 = .ok (.ireturn, 1) := by decide +kernel
theorem dX1_firstRestless_49 : decode cX1_firstRestless 49 = .ok (.iinc 1 1, 3) := by decide +kernel
theorem dX1_firstRestless_52 : decode cX1_firstRestless 52 = .ok (.goto (-50), 3) := by decide +kernel
theorem dX1_firstRestless_55 : decode cX1_firstRestless 55 = .ok (.iconst (-1), 1) := by decide +kernel
theorem dX1_firstRestless_56 : decode cX1_firstRestless 56 = .ok (.ireturn, 1) := by decide +kernel
theorem dX1_restsAmong_0 : decode cX1_restsAmong 0 = .ok (.iconst 0, 1) := by decide +kernel
theorem dX1_restsAmong_1 : decode cX1_restsAmong 1 = .ok (.istore_n 3, 1) := by decide +kernel
theorem dX1_restsAmong_2 : decode cX1_restsAmong 2 = .ok (.iload_n 3, 1) := by decide +kernel
theorem dX1_restsAmong_3 : decode cX1_restsAmong 3 = .ok (.bipush 8, 2) := by decide +kernel
theorem dX1_restsAmong_5 : decode cX1_restsAmong 5 = .ok (.if_icmp .ge 77, 3) := by decide +kernel
theorem dX1_restsAmong_8 : decode cX1_restsAmong 8 = .ok (.aload_n 0, 1) := by decide +kernel
theorem dX1_restsAmong_9 : decode cX1_restsAmong 9 = .ok (.getfield 18, 3) := by decide +kernel
theorem dX1_restsAmong_12 : decode cX1_restsAmong 12 = .ok (.iload_n 3, 1) := by decide +kernel
theorem dX1_restsAmong_13 : decode cX1_restsAmong 13 = .ok (.iaload, 1) := by decide +kernel
theorem dX1_restsAmong_14 : decode cX1_restsAmong 14 = .ok (.ifCond .eq 6, 3) := by decide +kernel
theorem dX1_restsAmong_17 : decode cX1_restsAmong 17 = .ok (.goto 59, 3) := by decide +kernel
theorem dX1_restsAmong_20 : decode cX1_restsAmong 20 = .ok (.aload_n 0, 1) := by decide +kernel
theorem dX1_restsAmong_21 : decode cX1_restsAmong 21 = .ok (.iload_n 3, 1) := by decide +kernel
theorem dX1_restsAmong_22 : decode cX1_restsAmong 22 = .ok (.invokevirtual 60, 3) := by decide +kernel
theorem dX1_restsAmong_25 : decode cX1_restsAmong 25 = .ok (.aload_n 0, 1) := by decide +kernel
theorem dX1_restsAmong_26 : decode cX1_restsAmong 26 = .ok (.iload_n 3, 1) := by decide +kernel
theorem dX1_restsAmong_27 : decode cX1_restsAmong 27 = .ok (.aload_n 0, 1) := by decide +kernel
theorem dX1_restsAmong_28 : decode cX1_restsAmong 28 = .ok (.getfield 21, 3) := by decide +kernel
theorem dX1_restsAmong_31 : decode cX1_restsAmong 31 = .ok (.iload_n 3, 1) := by decide +kernel
theorem dX1_restsAmong_32 : decode cX1_restsAmong 32 = .ok (.iaload, 1) := by decide +kernel
theorem dX1_restsAmong_33 : decode cX1_restsAmong 33 = .ok (.invokevirtual 118, 3) := by decide +kernel
theorem dX1_restsAmong_36 : decode cX1_restsAmong 36 = .ok (.istore 4, 2) := by decide +kernel
theorem dX1_restsAmong_38 : decode cX1_restsAmong 38 = .ok (.iconst 0, 1) := by decide +kernel
theorem dX1_restsAmong_39 : decode cX1_restsAmong 39 = .ok (.istore 5, 2) := by decide +kernel
theorem dX1_restsAmong_41 : decode cX1_restsAmong 41 = .ok (.iload 5, 2) := by decide +kernel
theorem dX1_restsAmong_43 : decode cX1_restsAmong 43 = .ok (.iload_n 2, 1) := by decide +kernel
theorem dX1_restsAmong_44 : decode cX1_restsAmong 44 = .ok (.if_icmp .ge 32, 3) := by decide +kernel
theorem dX1_restsAmong_47 : decode cX1_restsAmong 47 = .ok (.iload 5, 2) := by decide +kernel
theorem dX1_restsAmong_49 : decode cX1_restsAmong 49 = .ok (.aload_n 1, 1) := by decide +kernel
theorem dX1_restsAmong_50 : decode cX1_restsAmong 50 = .ok (.arraylength, 1) := by decide +kernel
theorem dX1_restsAmong_51 : decode cX1_restsAmong 51 = .ok (.if_icmp .ge 25, 3) := by decide +kernel
theorem dX1_restsAmong_54 : decode cX1_restsAmong 54 = .ok (.aload_n 0, 1) := by decide +kernel
theorem dX1_restsAmong_55 : decode cX1_restsAmong 55 = .ok (.iload_n 3, 1) := by decide +kernel
theorem dX1_restsAmong_56 : decode cX1_restsAmong 56 = .ok (.aload_n 1, 1) := by decide +kernel
theorem dX1_restsAmong_57 : decode cX1_restsAmong 57 = .ok (.iload 5, 2) := by decide +kernel
theorem dX1_restsAmong_59 : decode cX1_restsAmong 59 = .ok (.iaload, 1) := by decide +kernel
theorem dX1_restsAmong_60 : decode cX1_restsAmong 60 = .ok (.invokevirtual 118, 3) := by decide +kernel
theorem dX1_restsAmong_63 : decode cX1_restsAmong 63 = .ok (.iload 4, 2) := by decide +kernel
theorem dX1_restsAmong_65 : decode cX1_restsAmong 65 = .ok (.if_icmp .ge 5, 3) := by decide +kernel
theorem dX1_restsAmong_68 : decode cX1_restsAmong 68 = .ok (.iconst 0, 1) := by decide +kernel
theorem dX1_restsAmong_69 : decode cX1_restsAmong 69 = .ok (.ireturn, 1) := by decide +kernel
theorem dX1_restsAmong_70 : decode cX1_restsAmong 70 = .ok (.iinc 5 1, 3) := by decide +kernel
theorem dX1_restsAmong_73 : decode cX1_restsAmong 73 = .ok (.goto (-32), 3) := by decide +kernel
theorem dX1_restsAmong_76 : decode cX1_restsAmong 76 = .ok (.iinc 3 1, 3) := by decide +kernel
theorem dX1_restsAmong_79 : decode cX1_restsAmong 79 = .ok (.goto (-77), 3) := by decide +kernel
theorem dX1_restsAmong_82 : decode cX1_restsAmong 82 = .ok (.iconst 1, 1) := by decide +kernel
theorem dX1_restsAmong_83 : decode cX1_restsAmong 83 = .ok (.ireturn, 1) := by decide +kernel
theorem dX1_climbs_0 : decode cX1_climbs 0 = .ok (.iconst 0, 1) := by decide +kernel
theorem dX1_climbs_1 : decode cX1_climbs 1 = .ok (.istore_n 2, 1) := by decide +kernel
theorem dX1_climbs_2 : decode cX1_climbs 2 = .ok (.iload_n 2, 1) := by decide +kernel
theorem dX1_climbs_3 : decode cX1_climbs 3 = .ok (.bipush 8, 2) := by decide +kernel
theorem dX1_climbs_5 : decode cX1_climbs 5 = .ok (.if_icmp .ge 34, 3) := by decide +kernel
theorem dX1_climbs_8 : decode cX1_climbs 8 = .ok (.aload_n 0, 1) := by decide +kernel
theorem dX1_climbs_9 : decode cX1_climbs 9 = .ok (.getfield 18, 3) := by decide +kernel
theorem dX1_climbs_12 : decode cX1_climbs 12 = .ok (.iload_n 2, 1) := by decide +kernel
theorem dX1_climbs_13 : decode cX1_climbs 13 = .ok (.iaload, 1) := by decide +kernel
theorem dX1_climbs_14 : decode cX1_climbs 14 = .ok (.ifCond .ne 19, 3) := by decide +kernel
theorem dX1_climbs_17 : decode cX1_climbs 17 = .ok (.aload_n 0, 1) := by decide +kernel
theorem dX1_climbs_18 : decode cX1_climbs 18 = .ok (.getfield 21, 3) := by decide +kernel
theorem dX1_climbs_21 : decode cX1_climbs 21 = .ok (.iload_n 2, 1) := by decide +kernel
theorem dX1_climbs_22 : decode cX1_climbs 22 = .ok (.iload_n 1, 1) := by decide +kernel
theorem dX1_climbs_23 : decode cX1_climbs 23 = .ok (.ifCond .eq 8, 3) := by decide +kernel
theorem dX1_climbs_26 : decode cX1_climbs 26 = .ok (.bipush 60, 2) := by decide +kernel
theorem dX1_climbs_28 : decode cX1_climbs 28 = .ok (.goto 4, 3) := by decide +kernel
theorem dX1_climbs_31 : decode cX1_climbs 31 = .ok (.iconst 0, 1) := by decide +kernel
theorem dX1_climbs_32 : decode cX1_climbs 32 = .ok (.iastore, 1) := by decide +kernel
theorem dX1_climbs_33 : decode cX1_climbs 33 = .ok (.iinc 2 1, 3) := by decide +kernel
theorem dX1_climbs_36 : decode cX1_climbs 36 = .ok (.goto (-34), 3) := by decide +kernel
theorem dX1_climbs_39 : decode cX1_climbs 39 = .ok (.iconst 1, 1) := by decide +kernel
theorem dX1_climbs_40 : decode cX1_climbs 40 = .ok (.istore_n 2, 1) := by decide +kernel
theorem dX1_climbs_41 : decode cX1_climbs 41 = .ok (.iconst 0, 1) := by decide +kernel
theorem dX1_climbs_42 : decode cX1_climbs 42 = .ok (.istore_n 3, 1) := by decide +kernel
theorem dX1_climbs_43 : decode cX1_climbs 43 = .ok (.iload_n 3, 1) := by decide +kernel
theorem dX1_climbs_44 : decode cX1_climbs 44 = .ok (.bipush 20, 2) := by decide +kernel
theorem dX1_climbs_46 : decode cX1_climbs 46 = .ok (.if_icmp .ge 82, 3) := by decide +kernel
theorem dX1_climbs_49 : decode cX1_climbs 49 = .ok (.iload_n 2, 1) := by decide +kernel
theorem dX1_climbs_50 : decode cX1_climbs 50 = .ok (.ifCond .eq 78, 3) := by decide +kernel
theorem dX1_climbs_53 : decode cX1_climbs 53 = .ok (.iconst 0, 1) := by decide +kernel
theorem dX1_climbs_54 : decode cX1_climbs 54 = .ok (.istore_n 2, 1) := by decide +kernel
theorem dX1_climbs_55 : decode cX1_climbs 55 = .ok (.iconst 0, 1) := by decide +kernel
theorem dX1_climbs_56 : decode cX1_climbs 56 = .ok (.istore 4, 2) := by decide +kernel
theorem dX1_climbs_58 : decode cX1_climbs 58 = .ok (.iload 4, 2) := by decide +kernel
theorem dX1_climbs_60 : decode cX1_climbs 60 = .ok (.bipush 8, 2) := by decide +kernel
theorem dX1_climbs_62 : decode cX1_climbs 62 = .ok (.if_icmp .ge 60, 3) := by decide +kernel
theorem dX1_climbs_65 : decode cX1_climbs 65 = .ok (.aload_n 0, 1) := by decide +kernel
theorem dX1_climbs_66 : decode cX1_climbs 66 = .ok (.getfield 18, 3) := by decide +kernel
theorem dX1_climbs_69 : decode cX1_climbs 69 = .ok (.iload 4, 2) := by decide +kernel
theorem dX1_climbs_71 : decode cX1_climbs 71 = .ok (.iaload, 1) := by decide +kernel
theorem dX1_climbs_72 : decode cX1_climbs 72 = .ok (.ifCond .eq 6, 3) := by decide +kernel
theorem dX1_climbs_75 : decode cX1_climbs 75 = .ok (.goto 41, 3) := by decide +kernel
theorem dX1_climbs_78 : decode cX1_climbs 78 = .ok (.aload_n 0, 1) := by decide +kernel
theorem dX1_climbs_79 : decode cX1_climbs 79 = .ok (.iload 4, 2) := by decide +kernel
theorem dX1_climbs_81 : decode cX1_climbs 81 = .ok (.iload_n 1, 1) := by decide +kernel
theorem dX1_climbs_82 : decode cX1_climbs 82 = .ok (.invokevirtual 114, 3) := by decide +kernel
theorem dX1_climbs_85 : decode cX1_climbs 85 = .ok (.istore 5, 2) := by decide +kernel
theorem dX1_climbs_87 : decode cX1_climbs 87 = .ok (.iload_n 2, 1) := by decide +kernel
theorem dX1_climbs_88 : decode cX1_climbs 88 = .ok (.iload 5, 2) := by decide +kernel
theorem dX1_climbs_90 : decode cX1_climbs 90 = .ok (.aload_n 0, 1) := by decide +kernel
theorem dX1_climbs_91 : decode cX1_climbs 91 = .ok (.getfield 21, 3) := by decide +kernel
theorem dX1_climbs_94 : decode cX1_climbs 94 = .ok (.iload 4, 2) := by decide +kernel
theorem dX1_climbs_96 : decode cX1_climbs 96 = .ok (.iaload, 1) := by decide +kernel
theorem dX1_climbs_97 : decode cX1_climbs 97 = .ok (.if_icmp .eq 7, 3) := by decide +kernel
theorem dX1_climbs_100 : decode cX1_climbs 100 = .ok (.iconst 1, 1) := by decide +kernel
theorem dX1_climbs_101 : decode cX1_climbs 101 = .ok (.goto 4, 3) := by decide +kernel
theorem dX1_climbs_104 : decode cX1_climbs 104 = .ok (.iconst 0, 1) := by decide +kernel
theorem dX1_climbs_105 : decode cX1_climbs 105 = .ok (.ior, 1) := by decide +kernel
theorem dX1_climbs_106 : decode cX1_climbs 106 = .ok (.istore_n 2, 1) := by decide +kernel
theorem dX1_climbs_107 : decode cX1_climbs 107 = .ok (.aload_n 0, 1) := by decide +kernel
theorem dX1_climbs_108 : decode cX1_climbs 108 = .ok (.getfield 21, 3) := by decide +kernel
theorem dX1_climbs_111 : decode cX1_climbs 111 = .ok (.iload 4, 2) := by decide +kernel
theorem dX1_climbs_113 : decode cX1_climbs 113 = .ok (.iload 5, 2) := by decide +kernel
theorem dX1_climbs_115 : decode cX1_climbs 115 = .ok (.iastore, 1) := by decide +kernel
theorem dX1_climbs_116 : decode cX1_climbs 116 = .ok (.iinc 4 1, 3) := by decide +kernel
theorem dX1_climbs_119 : decode cX1_climbs 119 = .ok (.goto (-61), 3) := by decide +kernel
theorem dX1_climbs_122 : decode cX1_climbs 122 = .ok (.iinc 3 1, 3) := by decide +kernel
theorem dX1_climbs_125 : decode cX1_climbs 125 = .ok (.goto (-82), 3) := by decide +kernel
theorem dX1_climbs_128 : decode cX1_climbs 128 = .ok (.iload_n 2, 1) := by decide +kernel
theorem dX1_climbs_129 : decode cX1_climbs 129 = .ok (.ifCond .ne 7, 3) := by decide +kernel
theorem dX1_climbs_132 : decode cX1_climbs 132 = .ok (.iconst 1, 1) := by decide +kernel
theorem dX1_climbs_133 : decode cX1_climbs 133 = .ok (.goto 4, 3) := by decide +kernel
theorem dX1_climbs_136 : decode cX1_climbs 136 = .ok (.iconst 0, 1) := by decide +kernel
theorem dX1_climbs_137 : decode cX1_climbs 137 = .ok (.ireturn, 1) := by decide +kernel
theorem dX1_goesToNextWeek_0 : decode cX1_goesToNextWeek 0 = .ok (.iconst 0, 1) := by decide +kernel
theorem dX1_goesToNextWeek_1 : decode cX1_goesToNextWeek 1 = .ok (.istore_n 1, 1) := by decide +kernel
theorem dX1_goesToNextWeek_2 : decode cX1_goesToNextWeek 2 = .ok (.iload_n 1, 1) := by decide +kernel
theorem dX1_goesToNextWeek_3 : decode cX1_goesToNextWeek 3 = .ok (.bipush 8, 2) := by decide +kernel
theorem dX1_goesToNextWeek_5 : decode cX1_goesToNextWeek 5 = .ok (.if_icmp .ge 39, 3) := by decide +kernel
theorem dX1_goesToNextWeek_8 : decode cX1_goesToNextWeek 8 = .ok (.aload_n 0, 1) := by decide +kernel
theorem dX1_goesToNextWeek_9 : decode cX1_goesToNextWeek 9 = .ok (.getfield 36, 3) := by decide +kernel
theorem dX1_goesToNextWeek_12 : decode cX1_goesToNextWeek 12 = .ok (.iload_n 1, 1) := by decide +kernel
theorem dX1_goesToNextWeek_13 : decode cX1_goesToNextWeek 13 = .ok (.aload_n 0, 1) := by decide +kernel
theorem dX1_goesToNextWeek_14 : decode cX1_goesToNextWeek 14 = .ok (.getfield 18, 3) := by decide +kernel
theorem dX1_goesToNextWeek_17 : decode cX1_goesToNextWeek 17 = .ok (.iload_n 1, 1) := by decide +kernel
theorem dX1_goesToNextWeek_18 : decode cX1_goesToNextWeek 18 = .ok (.iaload, 1) := by decide +kernel
theorem dX1_goesToNextWeek_19 : decode cX1_goesToNextWeek 19 = .ok (.ifCond .ne 12, 3) := by decide +kernel
theorem dX1_goesToNextWeek_22 : decode cX1_goesToNextWeek 22 = .ok (.aload_n 0, 1) := by decide +kernel
theorem dX1_goesToNextWeek_23 : decode cX1_goesToNextWeek 23 = .ok (.iload_n 1, 1) := by decide +kernel
theorem dX1_goesToNextWeek_24 : decode cX1_goesToNextWeek 24 = .ok (.iconst 0, 1) := by decide +kernel
theorem dX1_goesToNextWeek_25 : decode cX1_goesToNextWeek 25 = .ok (.invokevirtual 114, 3) := by decide +kernel
theorem dX1_goesToNextWeek_28 : decode cX1_goesToNextWeek 28 = .ok (.goto 9, 3) := by decide +kernel
theorem dX1_goesToNextWeek_31 : decode cX1_goesToNextWeek 31 = .ok (.aload_n 0, 1) := by decide +kernel
theorem dX1_goesToNextWeek_32 : decode cX1_goesToNextWeek 32 = .ok (.getfield 21, 3) := by decide +kernel
theorem dX1_goesToNextWeek_35 : decode cX1_goesToNextWeek 35 = .ok (.iload_n 1, 1) := by decide +kernel
theorem dX1_goesToNextWeek_36 : decode cX1_goesToNextWeek 36 = .ok (.iaload, 1) := by decide +kernel
theorem dX1_goesToNextWeek_37 : decode cX1_goesToNextWeek 37 = .ok (.iastore, 1) := by decide +kernel
theorem dX1_goesToNextWeek_38 : decode cX1_goesToNextWeek 38 = .ok (.iinc 1 1, 3) := by decide +kernel
theorem dX1_goesToNextWeek_41 : decode cX1_goesToNextWeek 41 = .ok (.goto (-39), 3) := by decide +kernel
theorem dX1_goesToNextWeek_44 : decode cX1_goesToNextWeek 44 = .ok (.aload_n 0, 1) := by decide +kernel
theorem dX1_goesToNextWeek_45 : decode cX1_goesToNextWeek 45 = .ok (.getfield 36, 3) := by decide +kernel
theorem dX1_goesToNextWeek_48 : decode cX1_goesToNextWeek 48 = .ok (.iconst 0, 1) := by decide +kernel
theorem dX1_goesToNextWeek_49 : decode cX1_goesToNextWeek 49 = .ok (.aload_n 0, 1) := by decide +kernel
theorem dX1_goesToNextWeek_50 : decode cX1_goesToNextWeek 50 = .ok (.getfield 21, 3) := by decide +kernel
theorem dX1_goesToNextWeek_53 : decode cX1_goesToNextWeek 53 = .ok (.iconst 0, 1) := by decide +kernel
theorem dX1_goesToNextWeek_54 : decode cX1_goesToNextWeek 54 = .ok (.bipush 8, 2) := by decide +kernel
theorem dX1_goesToNextWeek_56 : decode cX1_goesToNextWeek 56 = .ok (.invokestatic 47, 3) := by decide +kernel
theorem dX1_goesToNextWeek_59 : decode cX1_goesToNextWeek 59 = .ok (.return_, 1) := by decide +kernel
theorem dX1_aimsAsOne_0 : decode cX1_aimsAsOne 0 = .ok (.lconst 0, 1) := by decide +kernel
theorem dX1_aimsAsOne_1 : decode cX1_aimsAsOne 1 = .ok (.lstore_n 1, 1) := by decide +kernel
theorem dX1_aimsAsOne_2 : decode cX1_aimsAsOne 2 = .ok (.iconst 0, 1) := by decide +kernel
theorem dX1_aimsAsOne_3 : decode cX1_aimsAsOne 3 = .ok (.istore_n 3, 1) := by decide +kernel
theorem dX1_aimsAsOne_4 : decode cX1_aimsAsOne 4 = .ok (.iload_n 3, 1) := by decide +kernel
theorem dX1_aimsAsOne_5 : decode cX1_aimsAsOne 5 = .ok (.bipush 8, 2) := by decide +kernel
theorem dX1_aimsAsOne_7 : decode cX1_aimsAsOne 7 = .ok (.if_icmp .ge 22, 3) := by decide +kernel
theorem dX1_aimsAsOne_10 : decode cX1_aimsAsOne 10 = .ok (.lload_n 1, 1) := by decide +kernel
theorem dX1_aimsAsOne_11 : decode cX1_aimsAsOne 11 = .ok (.bipush 6, 2) := by decide +kernel
theorem dX1_aimsAsOne_13 : decode cX1_aimsAsOne 13 = .ok (.lshl, 1) := by decide +kernel
theorem dX1_aimsAsOne_14 : decode cX1_aimsAsOne 14 = .ok (.aload_n 0, 1) := by decide +kernel
theorem dX1_aimsAsOne_15 : decode cX1_aimsAsOne 15 = .ok (.getfield 21, 3) := by decide +kernel
theorem dX1_aimsAsOne_18 : decode cX1_aimsAsOne 18 = .ok (.iload_n 3, 1) := by decide +kernel
theorem dX1_aimsAsOne_19 : decode cX1_aimsAsOne 19 = .ok (.iaload, 1) := by decide +kernel
theorem dX1_aimsAsOne_20 : decode cX1_aimsAsOne 20 = .ok (.i2l, 1) := by decide +kernel
theorem dX1_aimsAsOne_21 : decode cX1_aimsAsOne 21 = .ok (.lor, 1) := by decide +kernel
theorem dX1_aimsAsOne_22 : decode cX1_aimsAsOne 22 = .ok (.lstore_n 1, 1) := by decide +kernel
theorem dX1_aimsAsOne_23 : decode cX1_aimsAsOne 23 = .ok (.iinc 3 1, 3) := by decide +kernel
theorem dX1_aimsAsOne_26 : decode cX1_aimsAsOne 26 = .ok (.goto (-22), 3) := by decide +kernel
theorem dX1_aimsAsOne_29 : decode cX1_aimsAsOne 29 = .ok (.lload_n 1, 1) := by decide +kernel
theorem dX1_aimsAsOne_30 : decode cX1_aimsAsOne 30 = .ok (.lreturn, 1) := by decide +kernel
theorem dX2_init_0 : decode cX2_init 0 = .ok (.aload_n 0, 1) := by decide +kernel
theorem dX2_init_1 : decode cX2_init 1 = .ok (.invokespecial 3, 3) := by decide +kernel
theorem dX2_init_4 : decode cX2_init 4 = .ok (.aload_n 0, 1) := by decide +kernel
theorem dX2_init_5 : decode cX2_init 5 = .ok (.bipush 13, 2) := by decide +kernel
theorem dX2_init_7 : decode cX2_init 7 = .ok (.newarray .int, 2) := by decide +kernel
theorem dX2_init_9 : decode cX2_init 9 = .ok (.putfield 9, 3) := by decide +kernel
theorem dX2_init_12 : decode cX2_init 12 = .ok (.aload_n 0, 1) := by decide +kernel
theorem dX2_init_13 : decode cX2_init 13 = .ok (.bipush 8, 2) := by decide +kernel
theorem dX2_init_15 : decode cX2_init 15 = .ok (.newarray .int, 2) := by decide +kernel
theorem dX2_init_17 : decode cX2_init 17 = .ok (.putfield 15, 3) := by decide +kernel
theorem dX2_init_20 : decode cX2_init 20 = .ok (.aload_n 0, 1) := by decide +kernel
theorem dX2_init_21 : decode cX2_init 21 = .ok (.aload_n 1, 1) := by decide +kernel
theorem dX2_init_22 : decode cX2_init 22 = .ok (.putfield 18, 3) := by decide +kernel
theorem dX2_init_25 : decode cX2_init 25 = .ok (.return_, 1) := by decide +kernel
theorem dX2_lay_0 : decode cX2_lay 0 = .ok (.aload_n 0, 1) := by decide +kernel
theorem dX2_lay_1 : decode cX2_lay 1 = .ok (.iconst 0, 1) := by decide +kernel
theorem dX2_lay_2 : decode cX2_lay 2 = .ok (.putfield 22, 3) := by decide +kernel
theorem dX2_lay_5 : decode cX2_lay 5 = .ok (.iconst 0, 1) := by decide +kernel
theorem dX2_lay_6 : decode cX2_lay 6 = .ok (.istore_n 2, 1) := by decide +kernel
theorem dX2_lay_7 : decode cX2_lay 7 = .ok (.iload_n 2, 1) := by decide +kernel
theorem dX2_lay_8 : decode cX2_lay 8 = .ok (.bipush 60, 2) := by decide +kernel
theorem dX2_lay_10 : decode cX2_lay 10 = .ok (.if_icmp .ge 39, 3) := by decide +kernel
theorem dX2_lay_13 : decode cX2_lay 13 = .ok (.aload_n 0, 1) := by decide +kernel
theorem dX2_lay_14 : decode cX2_lay 14 = .ok (.getfield 22, 3) := by decide +kernel
theorem dX2_lay_17 : decode cX2_lay 17 = .ok (.bipush 12, 2) := by decide +kernel
theorem dX2_lay_19 : decode cX2_lay 19 = .ok (.if_icmp .ge 30, 3) := by decide +kernel
theorem dX2_lay_22 : decode cX2_lay 22 = .ok (.aload_n 0, 1) := by decide +kernel
theorem dX2_lay_23 : decode cX2_lay 23 = .ok (.getfield 9, 3) := by decide +kernel
theorem dX2_lay_26 : decode cX2_lay 26 = .ok (.aload_n 0, 1) := by decide +kernel
theorem dX2_lay_27 : decode cX2_lay 27 = .ok (.getfield 22, 3) := by decide +kernel
theorem dX2_lay_30 : decode cX2_lay 30 = .ok (.iload_n 2, 1) := by decide +kernel
theorem dX2_lay_31 : decode cX2_lay 31 = .ok (.iastore, 1) := by decide +kernel
theorem dX2_lay_32 : decode cX2_lay 32 = .ok (.aload_n 0, 1) := by decide +kernel
theorem dX2_lay_33 : decode cX2_lay 33 = .ok (.dup, 1) := by decide +kernel
theorem dX2_lay_34 : decode cX2_lay 34 = .ok (.getfield 22, 3) := by decide +kernel
theorem dX2_lay_37 : decode cX2_lay 37 = .ok (.iconst 1, 1) := by decide +kernel
theorem dX2_lay_38 : decode cX2_lay 38 = .ok (.iadd, 1) := by decide +kernel
theorem dX2_lay_39 : decode cX2_lay 39 = .ok (.putfield 22, 3) := by decide +kernel
theorem dX2_lay_42 : decode cX2_lay 42 = .ok (.iload_n 2, 1) := by decide +kernel
theorem dX2_lay_43 : decode cX2_lay 43 = .ok (.iload_n 1, 1) := by decide +kernel
theorem dX2_lay_44 : decode cX2_lay 44 = .ok (.iadd, 1) := by decide +kernel
theorem dX2_lay_45 : decode cX2_lay 45 = .ok (.istore_n 2, 1) := by decide +kernel
theorem dX2_lay_46 : decode cX2_lay 46 = .ok (.goto (-39), 3) := by decide +kernel
theorem dX2_lay_49 : decode cX2_lay 49 = .ok (.aload_n 0, 1) := by decide +kernel
theorem dX2_lay_50 : decode cX2_lay 50 = .ok (.getfield 9, 3) := by decide +kernel
theorem dX2_lay_53 : decode cX2_lay 53 = .ok (.aload_n 0, 1) := by decide +kernel
theorem dX2_lay_54 : decode cX2_lay 54 = .ok (.getfield 22, 3) := by decide +kernel
theorem dX2_lay_57 : decode cX2_lay 57 = .ok (.bipush 60, 2) := by decide +kernel
theorem dX2_lay_59 : decode cX2_lay 59 = .ok (.iastore, 1) := by decide +kernel
theorem dX2_lay_60 : decode cX2_lay 60 = .ok (.aload_n 0, 1) := by decide +kernel
theorem dX2_lay_61 : decode cX2_lay 61 = .ok (.dup, 1) := by decide +kernel
theorem dX2_lay_62 : decode cX2_lay 62 = .ok (.getfield 22, 3) := by decide +kernel
theorem dX2_lay_65 : decode cX2_lay 65 = .ok (.iconst 1, 1) := by decide +kernel
theorem dX2_lay_66 : decode cX2_lay 66 = .ok (.iadd, 1) := by decide +kernel
theorem dX2_lay_67 : decode cX2_lay 67 = .ok (.putfield 22, 3) := by decide +kernel
theorem dX2_lay_70 : decode cX2_lay 70 = .ok (.return_, 1) := by decide +kernel
theorem dX2_toFirstWay_0 : decode cX2_toFirstWay 0 = .ok (.iconst 0, 1) := by decide +kernel
theorem dX2_toFirstWay_1 : decode cX2_toFirstWay 1 = .ok (.istore_n 1, 1) := by decide +kernel
theorem dX2_toFirstWay_2 : decode cX2_toFirstWay 2 = .ok (.iload_n 1, 1) := by decide +kernel
theorem dX2_toFirstWay_3 : decode cX2_toFirstWay 3 = .ok (.bipush 8, 2) := by decide +kernel
theorem dX2_toFirstWay_5 : decode cX2_toFirstWay 5 = .ok (.if_icmp .ge 43, 3) := by decide +kernel
theorem dX2_toFirstWay_8 : decode cX2_toFirstWay 8 = .ok (.aload_n 0, 1) := by decide +kernel
theorem dX2_toFirstWay_9 : decode cX2_toFirstWay 9 = .ok (.getfield 15, 3) := by decide +kernel
theorem dX2_toFirstWay_12 : decode cX2_toFirstWay 12 = .ok (.iload_n 1, 1) := by decide +kernel
theorem dX2_toFirstWay_13 : decode cX2_toFirstWay 13 = .ok (.iconst 0, 1) := by decide +kernel
theorem dX2_toFirstWay_14 : decode cX2_toFirstWay 14 = .ok (.iastore, 1) := by decide +kernel
theorem dX2_toFirstWay_15 : decode cX2_toFirstWay 15 = .ok (.aload_n 0, 1) := by decide +kernel
theorem dX2_toFirstWay_16 : decode cX2_toFirstWay 16 = .ok (.getfield 18, 3) := by decide +kernel
theorem dX2_toFirstWay_19 : decode cX2_toFirstWay 19 = .ok (.getfield 26, 3) := by decide +kernel
theorem dX2_toFirstWay_22 : decode cX2_toFirstWay 22 = .ok (.iload_n 1, 1) := by decide +kernel
theorem dX2_toFirstWay_23 : decode cX2_toFirstWay 23 = .ok (.iaload, 1) := by decide +kernel
theorem dX2_toFirstWay_24 : decode cX2_toFirstWay 24 = .ok (.ifCond .ne 18, 3) := by decide +kernel
theorem dX2_toFirstWay_27 : decode cX2_toFirstWay 27 = .ok (.aload_n 0, 1) := by decide +kernel
theorem dX2_toFirstWay_28 : decode cX2_toFirstWay 28 = .ok (.getfield 18, 3) := by decide +kernel
theorem dX2_toFirstWay_31 : decode cX2_toFirstWay 31 = .ok (.getfield 31, 3) := by decide +kernel
theorem dX2_toFirstWay_34 : decode cX2_toFirstWay 34 = .ok (.iload_n 1, 1) := by decide +kernel
theorem dX2_toFirstWay_35 : decode cX2_toFirstWay 35 = .ok (.aload_n 0, 1) := by decide +kernel
theorem dX2_toFirstWay_36 : decode cX2_toFirstWay 36 = .ok (.getfield 9, 3) := by decide +kernel
theorem dX2_toFirstWay_39 : decode cX2_toFirstWay 39 = .ok (.iconst 0, 1) := by decide +kernel
theorem dX2_toFirstWay_40 : decode cX2_toFirstWay 40 = .ok (.iaload, 1) := by decide +kernel
theorem dX2_toFirstWay_41 : decode cX2_toFirstWay 41 = .ok (.iastore, 1) := by decide +kernel
theorem dX2_toFirstWay_42 : decode cX2_toFirstWay 42 = .ok (.iinc 1 1, 3) := by decide +kernel
theorem dX2_toFirstWay_45 : decode cX2_toFirstWay 45 = .ok (.goto (-43), 3) := by decide +kernel
theorem dX2_toFirstWay_48 : decode cX2_toFirstWay 48 = .ok (.return_, 1) := by decide +kernel
theorem dX2_toNextWay_0 : decode cX2_toNextWay 0 = .ok (.bipush 7, 2) := by decide +kernel
theorem dX2_toNextWay_2 : decode cX2_toNextWay 2 = .ok (.istore_n 1, 1) := by decide +kernel
theorem dX2_toNextWay_3 : decode cX2_toNextWay 3 = .ok (.iload_n 1, 1) := by decide +kernel
theorem dX2_toNextWay_4 : decode cX2_toNextWay 4 = .ok (.ifCond .lt 98, 3) := by decide +kernel
theorem dX2_toNextWay_7 : decode cX2_toNextWay 7 = .ok (.aload_n 0, 1) := by decide +kernel
theorem dX2_toNextWay_8 : decode cX2_toNextWay 8 = .ok (.getfield 18, 3) := by decide +kernel
theorem dX2_toNextWay_11 : decode cX2_toNextWay 11 = .ok (.getfield 26, 3) := by decide +kernel
theorem dX2_toNextWay_14 : decode cX2_toNextWay 14 = .ok (.iload_n 1, 1) := by decide +kernel
theorem dX2_toNextWay_15 : decode cX2_toNextWay 15 = .ok (.iaload, 1) := by decide +kernel
theorem dX2_toNextWay_16 : decode cX2_toNextWay 16 = .ok (.ifCond .eq 6, 3) := by decide +kernel
theorem dX2_toNextWay_19 : decode cX2_toNextWay 19 = .ok (.goto 77, 3) := by decide +kernel
theorem dX2_toNextWay_22 : decode cX2_toNextWay 22 = .ok (.aload_n 0, 1) := by decide +kernel
theorem dX2_toNextWay_23 : decode cX2_toNextWay 23 = .ok (.getfield 15, 3) := by decide +kernel
theorem dX2_toNextWay_26 : decode cX2_toNextWay 26 = .ok (.iload_n 1, 1) := by decide +kernel
theorem dX2_toNextWay_27 : decode cX2_toNextWay 27 = .ok (.iaload, 1) := by decide +kernel
theorem dX2_toNextWay_28 : decode cX2_toNextWay 28 = .ok (.iconst 1, 1) := by decide +kernel
theorem dX2_toNextWay_29 : decode cX2_toNextWay 29 = .ok (.iadd, 1) := by decide +kernel
theorem dX2_toNextWay_30 : decode cX2_toNextWay 30 = .ok (.istore_n 2, 1) := by decide +kernel
theorem dX2_toNextWay_31 : decode cX2_toNextWay 31 = .ok (.iload_n 2, 1) := by decide +kernel
theorem dX2_toNextWay_32 : decode cX2_toNextWay 32 = .ok (.ifCond .lt 21, 3) := by decide +kernel
theorem dX2_toNextWay_35 : decode cX2_toNextWay 35 = .ok (.iload_n 2, 1) := by decide +kernel
theorem dX2_toNextWay_36 : decode cX2_toNextWay 36 = .ok (.aload_n 0, 1) := by decide +kernel
theorem dX2_toNextWay_37 : decode cX2_toNextWay 37 = .ok (.getfield 22, 3) := by decide +kernel
theorem dX2_toNextWay_40 : decode cX2_toNextWay 40 = .ok (.if_icmp .ge 13, 3) := by decide +kernel
theorem dX2_toNextWay_43 : decode cX2_toNextWay 43 = .ok (.iload_n 2, 1) := by decide +kernel
theorem dX2_toNextWay_44 : decode cX2_toNextWay 44 = .ok (.bipush 13, 2) := by decide +kernel
theorem dX2_toNextWay_46 : decode cX2_toNextWay 46 = .ok (.if_icmp .ge 7, 3) := by decide +kernel
theorem dX2_toNextWay_49 : decode cX2_toNextWay 49 = .ok (.iconst 1, 1) := by decide +kernel
theorem dX2_toNextWay_50 : decode cX2_toNextWay 50 = .ok (.goto 4, 3) := by decide +kernel
theorem dX2_toNextWay_53 : decode cX2_toNextWay 53 = .ok (.iconst 0, 1) := by decide +kernel
theorem dX2_toNextWay_54 : decode cX2_toNextWay 54 = .ok (.istore_n 3, 1) := by decide +kernel
theorem dX2_toNextWay_55 : decode cX2_toNextWay 55 = .ok (.aload_n 0, 1) := by decide +kernel
theorem dX2_toNextWay_56 : decode cX2_toNextWay 56 = .ok (.getfield 15, 3) := by decide +kernel
theorem dX2_toNextWay_59 : decode cX2_toNextWay 59 = .ok (.iload_n 1, 1) := by decide +kernel
theorem dX2_toNextWay_60 : decode cX2_toNextWay 60 = .ok (.iload_n 3, 1) := by decide +kernel
theorem dX2_toNextWay_61 : decode cX2_toNextWay 61 = .ok (.ifCond .eq 7, 3) := by decide +kernel
theorem dX2_toNextWay_64 : decode cX2_toNextWay 64 = .ok (.iload_n 2, 1) := by decide +kernel
theorem dX2_toNextWay_65 : decode cX2_toNextWay 65 = .ok (.goto 4, 3) := by decide +kernel
theorem dX2_toNextWay_68 : decode cX2_toNextWay 68 = .ok (.iconst 0, 1) := by decide +kernel
theorem dX2_toNextWay_69 : decode cX2_toNextWay 69 = .ok (.iastore, 1) := by decide +kernel
theorem dX2_toNextWay_70 : decode cX2_toNextWay 70 = .ok (.aload_n 0, 1) := by decide +kernel
theorem dX2_toNextWay_71 : decode cX2_toNextWay 71 = .ok (.getfield 18, 3) := by decide +kernel
theorem dX2_toNextWay_74 : decode cX2_toNextWay 74 = .ok (.getfield 31, 3) := by decide +kernel
theorem dX2_toNextWay_77 : decode cX2_toNextWay 77 = .ok (.iload_n 1, 1) := by decide +kernel
theorem dX2_toNextWay_78 : decode cX2_toNextWay 78 = .ok (.aload_n 0, 1) := by decide +kernel
theorem dX2_toNextWay_79 : decode cX2_toNextWay 79 = .ok (.getfield 9, 3) := by decide +kernel
theorem dX2_toNextWay_82 : decode cX2_toNextWay 82 = .ok (.aload_n 0, 1) := by decide +kernel
theorem dX2_toNextWay_83 : decode cX2_toNextWay 83 = .ok (.getfield 15, 3) := by decide +kernel
theorem dX2_toNextWay_86 : decode cX2_toNextWay 86 = .ok (.iload_n 1, 1) := by decide +kernel
theorem dX2_toNextWay_87 : decode cX2_toNextWay 87 = .ok (.iaload, 1) := by decide +kernel
theorem dX2_toNextWay_88 : decode cX2_toNextWay 88 = .ok (.iaload, 1) := by decide +kernel
theorem dX2_toNextWay_89 : decode cX2_toNextWay 89 = .ok (.iastore, 1) := by decide +kernel
theorem dX2_toNextWay_90 : decode cX2_toNextWay 90 = .ok (.iload_n 3, 1) := by decide +kernel
theorem dX2_toNextWay_91 : decode cX2_toNextWay 91 = .ok (.ifCond .eq 5, 3) := by decide +kernel
theorem dX2_toNextWay_94 : decode cX2_toNextWay 94 = .ok (.iconst 1, 1) := by decide +kernel
theorem dX2_toNextWay_95 : decode cX2_toNextWay 95 = .ok (.ireturn, 1) := by decide +kernel
theorem dX2_toNextWay_96 : decode cX2_toNextWay 96 = .ok (.iinc 1 (-1), 3) := by decide +kernel
theorem dX2_toNextWay_99 : decode cX2_toNextWay 99 = .ok (.goto (-96), 3) := by decide +kernel
theorem dX2_toNextWay_102 : decode cX2_toNextWay 102 = .ok (.iconst 0, 1) := by decide +kernel
theorem dX2_toNextWay_103 : decode cX2_toNextWay 103 = .ok (.ireturn, 1) := by decide +kernel
theorem dX2_walk_0 : decode cX2_walk 0 = .ok (.aload_n 0, 1) := by decide +kernel
theorem dX2_walk_1 : decode cX2_walk 1 = .ok (.invokevirtual 34, 3) := by decide +kernel
theorem dX2_walk_4 : decode cX2_walk 4 = .ok (.iconst 0, 1) := by decide +kernel
theorem dX2_walk_5 : decode cX2_walk 5 = .ok (.istore_n 2, 1) := by decide +kernel
theorem dX2_walk_6 : decode cX2_walk 6 = .ok (.iconst 1, 1) := by decide +kernel
theorem dX2_walk_7 : decode cX2_walk 7 = .ok (.istore_n 3, 1) := by decide +kernel
theorem dX2_walk_8 : decode cX2_walk 8 = .ok (.iconst 0, 1) := by decide +kernel
theorem dX2_walk_9 : decode cX2_walk 9 = .ok (.istore 4, 2) := by decide +kernel
theorem dX2_walk_11 : decode cX2_walk 11 = .ok (.iload 4, 2) := by decide +kernel
theorem dX2_walk_13 : decode cX2_walk 13 = .ok (.sipush 2197, 3) := by decide +kernel
theorem dX2_walk_16 : decode cX2_walk 16 = .ok (.if_icmp .ge 51, 3) := by decide +kernel
theorem dX2_walk_19 : decode cX2_walk 19 = .ok (.iload_n 3, 1) := by decide +kernel
theorem dX2_walk_20 : decode cX2_walk 20 = .ok (.ifCond .eq 47, 3) := by decide +kernel
theorem dX2_walk_23 : decode cX2_walk 23 = .ok (.aload_n 0, 1) := by decide +kernel
theorem dX2_walk_24 : decode cX2_walk 24 = .ok (.getfield 18, 3) := by decide +kernel
theorem dX2_walk_27 : decode cX2_walk 27 = .ok (.aload_n 0, 1) := by decide +kernel
theorem dX2_walk_28 : decode cX2_walk 28 = .ok (.getfield 9, 3) := by decide +kernel
theorem dX2_walk_31 : decode cX2_walk 31 = .ok (.aload_n 0, 1) := by decide +kernel
theorem dX2_walk_32 : decode cX2_walk 32 = .ok (.getfield 22, 3) := by decide +kernel
theorem dX2_walk_35 : decode cX2_walk 35 = .ok (.invokevirtual 37, 3) := by decide +kernel
theorem dX2_walk_38 : decode cX2_walk 38 = .ok (.ifCond .eq 18, 3) := by decide +kernel
theorem dX2_walk_41 : decode cX2_walk 41 = .ok (.iinc 2 1, 3) := by decide +kernel
theorem dX2_walk_44 : decode cX2_walk 44 = .ok (.iload_n 1, 1) := by decide +kernel
theorem dX2_walk_45 : decode cX2_walk 45 = .ok (.iconst (-1), 1) := by decide +kernel
theorem dX2_walk_46 : decode cX2_walk 46 = .ok (.if_icmp .eq 10, 3) := by decide +kernel
theorem dX2_walk_49 : decode cX2_walk 49 = .ok (.iload_n 2, 1) := by decide +kernel
theorem dX2_walk_50 : decode cX2_walk 50 = .ok (.iload_n 1, 1) := by decide +kernel
theorem dX2_walk_51 : decode cX2_walk 51 = .ok (.if_icmp .le 5, 3) := by decide +kernel
theorem dX2_walk_54 : decode cX2_walk 54 = .ok (.iload_n 2, 1) := by decide +kernel
theorem dX2_walk_55 : decode cX2_walk 55 = .ok (.ireturn, 1) := by decide +kernel
theorem dX2_walk_56 : decode cX2_walk 56 = .ok (.aload_n 0, 1) := by decide +kernel
theorem dX2_walk_57 : decode cX2_walk 57 = .ok (.invokevirtual 41, 3) := by decide +kernel
theorem dX2_walk_60 : decode cX2_walk 60 = .ok (.istore_n 3, 1) := by decide +kernel
theorem dX2_walk_61 : decode cX2_walk 61 = .ok (.iinc 4 1, 3) := by decide +kernel
theorem dX2_walk_64 : decode cX2_walk 64 = .ok (.goto (-53), 3) := by decide +kernel
theorem dX2_walk_67 : decode cX2_walk 67 = .ok (.iload_n 2, 1) := by decide +kernel
theorem dX2_walk_68 : decode cX2_walk 68 = .ok (.ireturn, 1) := by decide +kernel
theorem dX2_good_0 : decode cX2_good 0 = .ok (.aload_n 0, 1) := by decide +kernel
theorem dX2_good_1 : decode cX2_good 1 = .ok (.invokevirtual 34, 3) := by decide +kernel
theorem dX2_good_4 : decode cX2_good 4 = .ok (.ldc 45, 2) := by decide +kernel
theorem dX2_good_6 : decode cX2_good 6 = .ok (.istore_n 1, 1) := by decide +kernel
theorem dX2_good_7 : decode cX2_good 7 = .ok (.iconst 1, 1) := by decide +kernel
theorem dX2_good_8 : decode cX2_good 8 = .ok (.istore_n 2, 1) := by decide +kernel
theorem dX2_good_9 : decode cX2_good 9 = .ok (.iconst 0, 1) := by decide +kernel
theorem dX2_good_10 : decode cX2_good 10 = .ok (.istore_n 3, 1) := by decide +kernel
theorem dX2_good_11 : decode cX2_good 11 = .ok (.iload_n 3, 1) := by decide +kernel
theorem dX2_good_12 : decode cX2_good 12 = .ok (.sipush 2197, 3) := by decide +kernel
theorem dX2_good_15 : decode cX2_good 15 = .ok (.if_icmp .ge 30, 3) := by decide +kernel
theorem dX2_good_18 : decode cX2_good 18 = .ok (.iload_n 2, 1) := by decide +kernel
theorem dX2_good_19 : decode cX2_good 19 = .ok (.ifCond .eq 26, 3) := by decide +kernel
theorem dX2_good_22 : decode cX2_good 22 = .ok (.iload_n 1, 1) := by decide +kernel
theorem dX2_good_23 : decode cX2_good 23 = .ok (.aload_n 0, 1) := by decide +kernel
theorem dX2_good_24 : decode cX2_good 24 = .ok (.getfield 18, 3) := by decide +kernel
theorem dX2_good_27 : decode cX2_good 27 = .ok (.invokevirtual 46, 3) := by decide +kernel
theorem dX2_good_30 : decode cX2_good 30 = .ok (.invokestatic 50, 3) := by decide +kernel
theorem dX2_good_33 : decode cX2_good 33 = .ok (.istore_n 1, 1) := by decide +kernel
theorem dX2_good_34 : decode cX2_good 34 = .ok (.aload_n 0, 1) := by decide +kernel
theorem dX2_good_35 : decode cX2_good 35 = .ok (.invokevirtual 41, 3) := by decide +kernel
theorem dX2_good_38 : decode cX2_good 38 = .ok (.istore_n 2, 1) := by decide +kernel
theorem dX2_good_39 : decode cX2_good 39 = .ok (.iinc 3 1, 3) := by decide +kernel
theorem dX2_good_42 : decode cX2_good 42 = .ok (.goto (-31), 3) := by decide +kernel
theorem dX2_good_45 : decode cX2_good 45 = .ok (.iload_n 1, 1) := by decide +kernel
theorem dX2_good_46 : decode cX2_good 46 = .ok (.ireturn, 1) := by decide +kernel
theorem dX3_init_0 : decode cX3_init 0 = .ok (.aload_n 0, 1) := by decide +kernel
theorem dX3_init_1 : decode cX3_init 1 = .ok (.invokespecial 3, 3) := by decide +kernel
theorem dX3_init_4 : decode cX3_init 4 = .ok (.aload_n 0, 1) := by decide +kernel
theorem dX3_init_5 : decode cX3_init 5 = .ok (.aload_n 1, 1) := by decide +kernel
theorem dX3_init_6 : decode cX3_init 6 = .ok (.putfield 9, 3) := by decide +kernel
theorem dX3_init_9 : decode cX3_init 9 = .ok (.aload_n 0, 1) := by decide +kernel
theorem dX3_init_10 : decode cX3_init 10 = .ok (.aload_n 2, 1) := by decide +kernel
theorem dX3_init_11 : decode cX3_init 11 = .ok (.putfield 15, 3) := by decide +kernel
theorem dX3_init_14 : decode cX3_init 14 = .ok (.return_, 1) := by decide +kernel
theorem dX3_weight_0 : decode cX3_weight 0 = .ok (.lconst 1, 1) := by decide +kernel
theorem dX3_weight_1 : decode cX3_weight 1 = .ok (.lstore_n 2, 1) := by decide +kernel
theorem dX3_weight_2 : decode cX3_weight 2 = .ok (.iconst 0, 1) := by decide +kernel
theorem dX3_weight_3 : decode cX3_weight 3 = .ok (.istore 4, 2) := by decide +kernel
theorem dX3_weight_5 : decode cX3_weight 5 = .ok (.iload 4, 2) := by decide +kernel
theorem dX3_weight_7 : decode cX3_weight 7 = .ok (.bipush 8, 2) := by decide +kernel
theorem dX3_weight_9 : decode cX3_weight 9 = .ok (.if_icmp .ge 53, 3) := by decide +kernel
theorem dX3_weight_12 : decode cX3_weight 12 = .ok (.lload_n 2, 1) := by decide +kernel
theorem dX3_weight_13 : decode cX3_weight 13 = .ok (.lconst 0, 1) := by decide +kernel
theorem dX3_weight_14 : decode cX3_weight 14 = .ok (.lcmp, 1) := by decide +kernel
theorem dX3_weight_15 : decode cX3_weight 15 = .ok (.ifCond .le 47, 3) := by decide +kernel
theorem dX3_weight_18 : decode cX3_weight 18 = .ok (.aload_n 0, 1) := by decide +kernel
theorem dX3_weight_19 : decode cX3_weight 19 = .ok (.getfield 9, 3) := by decide +kernel
theorem dX3_weight_22 : decode cX3_weight 22 = .ok (.getfield 19, 3) := by decide +kernel
theorem dX3_weight_25 : decode cX3_weight 25 = .ok (.iconst 3, 1) := by decide +kernel
theorem dX3_weight_26 : decode cX3_weight 26 = .ok (.aaload, 1) := by decide +kernel
theorem dX3_weight_27 : decode cX3_weight 27 = .ok (.iload 4, 2) := by decide +kernel
theorem dX3_weight_29 : decode cX3_weight 29 = .ok (.iaload, 1) := by decide +kernel
theorem dX3_weight_30 : decode cX3_weight 30 = .ok (.istore 5, 2) := by decide +kernel
theorem dX3_weight_32 : decode cX3_weight 32 = .ok (.lload_n 2, 1) := by decide +kernel
theorem dX3_weight_33 : decode cX3_weight 33 = .ok (.iload_n 1, 1) := by decide +kernel
theorem dX3_weight_34 : decode cX3_weight 34 = .ok (.iload 4, 2) := by decide +kernel
theorem dX3_weight_36 : decode cX3_weight 36 = .ok (.ishr, 1) := by decide +kernel
theorem dX3_weight_37 : decode cX3_weight 37 = .ok (.iconst 1, 1) := by decide +kernel
theorem dX3_weight_38 : decode cX3_weight 38 = .ok (.iand, 1) := by decide +kernel
theorem dX3_weight_39 : decode cX3_weight 39 = .ok (.ifCond .eq 9, 3) := by decide +kernel
theorem dX3_weight_42 : decode cX3_weight 42 = .ok (.iload 5, 2) := by decide +kernel
theorem dX3_weight_44 : decode cX3_weight 44 = .ok (.i2l, 1) := by decide +kernel
theorem dX3_weight_45 : decode cX3_weight 45 = .ok (.goto 9, 3) := by decide +kernel
theorem dX3_weight_48 : decode cX3_weight 48 = .ok (.bipush 16, 2) := by decide +kernel
theorem dX3_weight_50 : decode cX3_weight 50 = .ok (.iload 5, 2) := by decide +kernel
theorem dX3_weight_52 : decode cX3_weight 52 = .ok (.isub, 1) := by decide +kernel
theorem dX3_weight_53 : decode cX3_weight 53 = .ok (.i2l, 1) := by decide +kernel
theorem dX3_weight_54 : decode cX3_weight 54 = .ok (.lmul, 1) := by decide +kernel
theorem dX3_weight_55 : decode cX3_weight 55 = .ok (.lstore_n 2, 1) := by decide +kernel
theorem dX3_weight_56 : decode cX3_weight 56 = .ok (.iinc 4 1, 3) := by decide +kernel
theorem dX3_weight_59 : decode cX3_weight 59 = .ok (.goto (-54), 3) := by decide +kernel
theorem dX3_weight_62 : decode cX3_weight 62 = .ok (.lload_n 2, 1) := by decide +kernel
theorem dX3_weight_63 : decode cX3_weight 63 = .ok (.lreturn, 1) := by decide +kernel
theorem dX3_begunBy_0 : decode cX3_begunBy 0 = .ok (.lconst 0, 1) := by decide +kernel
theorem dX3_begunBy_1 : decode cX3_begunBy 1 = .ok (.lstore_n 2, 1) := by decide +kernel
theorem dX3_begunBy_2 : decode cX3_begunBy 2 = .ok (.iconst 0, 1) := by decide +kernel
theorem dX3_begunBy_3 : decode cX3_begunBy 3 = .ok (.istore 4, 2) := by decide +kernel
theorem dX3_begunBy_5 : decode cX3_begunBy 5 = .ok (.iload 4, 2) := by decide +kernel
theorem dX3_begunBy_7 : decode cX3_begunBy 7 = .ok (.sipush 256, 3) := by decide +kernel
theorem dX3_begunBy_10 : decode cX3_begunBy 10 = .ok (.if_icmp .ge 49, 3) := by decide +kernel
theorem dX3_begunBy_13 : decode cX3_begunBy 13 = .ok (.aload_n 0, 1) := by decide +kernel
theorem dX3_begunBy_14 : decode cX3_begunBy 14 = .ok (.iload 4, 2) := by decide +kernel
theorem dX3_begunBy_16 : decode cX3_begunBy 16 = .ok (.invokevirtual 25, 3) := by decide +kernel
theorem dX3_begunBy_19 : decode cX3_begunBy 19 = .ok (.lstore 5, 2) := by decide +kernel
theorem dX3_begunBy_21 : decode cX3_begunBy 21 = .ok (.aload_n 0, 1) := by decide +kernel
theorem dX3_begunBy_22 : decode cX3_begunBy 22 = .ok (.getfield 15, 3) := by decide +kernel
theorem dX3_begunBy_25 : decode cX3_begunBy 25 = .ok (.iload 4, 2) := by decide +kernel
theorem dX3_begunBy_27 : decode cX3_begunBy 27 = .ok (.putfield 29, 3) := by decide +kernel
theorem dX3_begunBy_30 : decode cX3_begunBy 30 = .ok (.lload 5, 2) := by decide +kernel
theorem dX3_begunBy_32 : decode cX3_begunBy 32 = .ok (.lconst 0, 1) := by decide +kernel
theorem dX3_begunBy_33 : decode cX3_begunBy 33 = .ok (.lcmp, 1) := by decide +kernel
theorem dX3_begunBy_34 : decode cX3_begunBy 34 = .ok (.ifCond .le 19, 3) := by decide +kernel
theorem dX3_begunBy_37 : decode cX3_begunBy 37 = .ok (.aload_n 0, 1) := by decide +kernel
theorem dX3_begunBy_38 : decode cX3_begunBy 38 = .ok (.getfield 15, 3) := by decide +kernel
theorem dX3_begunBy_41 : decode cX3_begunBy 41 = .ok (.invokevirtual 35, 3) := by decide +kernel
theorem dX3_begunBy_44 : decode cX3_begunBy 44 = .ok (.iload_n 1, 1) := by decide +kernel
theorem dX3_begunBy_45 : decode cX3_begunBy 45 = .ok (.if_icmp .gt 8, 3) := by decide +kernel
theorem dX3_begunBy_48 : decode cX3_begunBy 48 = .ok (.lload_n 2, 1) := by decide +kernel
theorem dX3_begunBy_49 : decode cX3_begunBy 49 = .ok (.lload 5, 2) := by decide +kernel
theorem dX3_begunBy_51 : decode cX3_begunBy 51 = .ok (.ladd, 1) := by decide +kernel
theorem dX3_begunBy_52 : decode cX3_begunBy 52 = .ok (.lstore_n 2, 1) := by decide +kernel
theorem dX3_begunBy_53 : decode cX3_begunBy 53 = .ok (.iinc 4 1, 3) := by decide +kernel
theorem dX3_begunBy_56 : decode cX3_begunBy 56 = .ok (.goto (-51), 3) := by decide +kernel
theorem dX3_begunBy_59 : decode cX3_begunBy 59 = .ok (.lload_n 2, 1) := by decide +kernel
theorem dX3_begunBy_60 : decode cX3_begunBy 60 = .ok (.lreturn, 1) := by decide +kernel
theorem dX3_priceOf_0 : decode cX3_priceOf 0 = .ok (.lconst 0, 1) := by decide +kernel
theorem dX3_priceOf_1 : decode cX3_priceOf 1 = .ok (.lstore_n 2, 1) := by decide +kernel
theorem dX3_priceOf_2 : decode cX3_priceOf 2 = .ok (.iconst 0, 1) := by decide +kernel
theorem dX3_priceOf_3 : decode cX3_priceOf 3 = .ok (.istore 4, 2) := by decide +kernel
theorem dX3_priceOf_5 : decode cX3_priceOf 5 = .ok (.iload 4, 2) := by decide +kernel
theorem dX3_priceOf_7 : decode cX3_priceOf 7 = .ok (.sipush 256, 3) := by decide +kernel
theorem dX3_priceOf_10 : decode cX3_priceOf 10 = .ok (.if_icmp .ge 68, 3) := by decide +kernel
theorem dX3_priceOf_13 : decode cX3_priceOf 13 = .ok (.aload_n 0, 1) := by decide +kernel
theorem dX3_priceOf_14 : decode cX3_priceOf 14 = .ok (.iload 4, 2) := by decide +kernel
theorem dX3_priceOf_16 : decode cX3_priceOf 16 = .ok (.invokevirtual 25, 3) := by decide +kernel
theorem dX3_priceOf_19 : decode cX3_priceOf 19 = .ok (.lstore 5, 2) := by decide +kernel
theorem dX3_priceOf_21 : decode cX3_priceOf 21 = .ok (.lload 5, 2) := by decide +kernel
theorem dX3_priceOf_23 : decode cX3_priceOf 23 = .ok (.lconst 0, 1) := by decide +kernel
theorem dX3_priceOf_24 : decode cX3_priceOf 24 = .ok (.lcmp, 1) := by decide +kernel
theorem dX3_priceOf_25 : decode cX3_priceOf 25 = .ok (.ifCond .le 47, 3) := by decide +kernel
theorem dX3_priceOf_28 : decode cX3_priceOf 28 = .ok (.aload_n 0, 1) := by decide +kernel
theorem dX3_priceOf_29 : decode cX3_priceOf 29 = .ok (.getfield 15, 3) := by decide +kernel
theorem dX3_priceOf_32 : decode cX3_priceOf 32 = .ok (.iload 4, 2) := by decide +kernel
theorem dX3_priceOf_34 : decode cX3_priceOf 34 = .ok (.putfield 29, 3) := by decide +kernel
theorem dX3_priceOf_37 : decode cX3_priceOf 37 = .ok (.aload_n 0, 1) := by decide +kernel
theorem dX3_priceOf_38 : decode cX3_priceOf 38 = .ok (.getfield 15, 3) := by decide +kernel
theorem dX3_priceOf_41 : decode cX3_priceOf 41 = .ok (.invokevirtual 35, 3) := by decide +kernel
theorem dX3_priceOf_44 : decode cX3_priceOf 44 = .ok (.istore 7, 2) := by decide +kernel
theorem dX3_priceOf_46 : decode cX3_priceOf 46 = .ok (.lload_n 2, 1) := by decide +kernel
theorem dX3_priceOf_47 : decode cX3_priceOf 47 = .ok (.lload 5, 2) := by decide +kernel
theorem dX3_priceOf_49 : decode cX3_priceOf 49 = .ok (.aload_n 0, 1) := by decide +kernel
theorem dX3_priceOf_50 : decode cX3_priceOf 50 = .ok (.getfield 15, 3) := by decide +kernel
theorem dX3_priceOf_53 : decode cX3_priceOf 53 = .ok (.iload_n 1, 1) := by decide +kernel
theorem dX3_priceOf_54 : decode cX3_priceOf 54 = .ok (.aload_n 0, 1) := by decide +kernel
theorem dX3_priceOf_55 : decode cX3_priceOf 55 = .ok (.getfield 15, 3) := by decide +kernel
theorem dX3_priceOf_58 : decode cX3_priceOf 58 = .ok (.getfield 39, 3) := by decide +kernel
theorem dX3_priceOf_61 : decode cX3_priceOf 61 = .ok (.iload_n 1, 1) := by decide +kernel
theorem dX3_priceOf_62 : decode cX3_priceOf 62 = .ok (.iaload, 1) := by decide +kernel
theorem dX3_priceOf_63 : decode cX3_priceOf 63 = .ok (.iload 7, 2) := by decide +kernel
theorem dX3_priceOf_65 : decode cX3_priceOf 65 = .ok (.invokevirtual 43, 3) := by decide +kernel
theorem dX3_priceOf_68 : decode cX3_priceOf 68 = .ok (.i2l, 1) := by decide +kernel
theorem dX3_priceOf_69 : decode cX3_priceOf 69 = .ok (.lmul, 1) := by decide +kernel
theorem dX3_priceOf_70 : decode cX3_priceOf 70 = .ok (.ladd, 1) := by decide +kernel
theorem dX3_priceOf_71 : decode cX3_priceOf 71 = .ok (.lstore_n 2, 1) := by decide +kernel
theorem dX3_priceOf_72 : decode cX3_priceOf 72 = .ok (.iinc 4 1, 3) := by decide +kernel
theorem dX3_priceOf_75 : decode cX3_priceOf 75 = .ok (.goto (-70), 3) := by decide +kernel
theorem dX3_priceOf_78 : decode cX3_priceOf 78 = .ok (.lload_n 2, 1) := by decide +kernel
theorem dX3_priceOf_79 : decode cX3_priceOf 79 = .ok (.lreturn, 1) := by decide +kernel
theorem dX3_lowest_0 : decode cX3_lowest 0 = .ok (.lload_n 1, 1) := by decide +kernel
theorem dX3_lowest_1 : decode cX3_lowest 1 = .ok (.lstore 4, 2) := by decide +kernel
theorem dX3_lowest_3 : decode cX3_lowest 3 = .ok (.ldc2_w 47, 3) := by decide +kernel
theorem dX3_lowest_6 : decode cX3_lowest 6 = .ok (.lstore 6, 2) := by decide +kernel
theorem dX3_lowest_8 : decode cX3_lowest 8 = .ok (.iconst 0, 1) := by decide +kernel
theorem dX3_lowest_9 : decode cX3_lowest 9 = .ok (.istore 8, 2) := by decide +kernel
theorem dX3_lowest_11 : decode cX3_lowest 11 = .ok (.iload 8, 2) := by decide +kernel
theorem dX3_lowest_13 : decode cX3_lowest 13 = .ok (.bipush 32, 2) := by decide +kernel
theorem dX3_lowest_15 : decode cX3_lowest 15 = .ok (.if_icmp .ge 36, 3) := by decide +kernel
theorem dX3_lowest_18 : decode cX3_lowest 18 = .ok (.lload 4, 2) := by decide +kernel
theorem dX3_lowest_20 : decode cX3_lowest 20 = .ok (.ldc2_w 49, 3) := by decide +kernel
theorem dX3_lowest_23 : decode cX3_lowest 23 = .ok (.lrem, 1) := by decide +kernel
theorem dX3_lowest_24 : decode cX3_lowest 24 = .ok (.lconst 0, 1) := by decide +kernel
theorem dX3_lowest_25 : decode cX3_lowest 25 = .ok (.lcmp, 1) := by decide +kernel
theorem dX3_lowest_26 : decode cX3_lowest 26 = .ok (.ifCond .ne 25, 3) := by decide +kernel
theorem dX3_lowest_29 : decode cX3_lowest 29 = .ok (.lload 4, 2) := by decide +kernel
theorem dX3_lowest_31 : decode cX3_lowest 31 = .ok (.ldc2_w 49, 3) := by decide +kernel
theorem dX3_lowest_34 : decode cX3_lowest 34 = .ok (.ldiv, 1) := by decide +kernel
theorem dX3_lowest_35 : decode cX3_lowest 35 = .ok (.lstore 4, 2) := by decide +kernel
theorem dX3_lowest_37 : decode cX3_lowest 37 = .ok (.lload 6, 2) := by decide +kernel
theorem dX3_lowest_39 : decode cX3_lowest 39 = .ok (.ldc2_w 49, 3) := by decide +kernel
theorem dX3_lowest_42 : decode cX3_lowest 42 = .ok (.ldiv, 1) := by decide +kernel
theorem dX3_lowest_43 : decode cX3_lowest 43 = .ok (.lstore 6, 2) := by decide +kernel
theorem dX3_lowest_45 : decode cX3_lowest 45 = .ok (.iinc 8 1, 3) := by decide +kernel
theorem dX3_lowest_48 : decode cX3_lowest 48 = .ok (.goto (-37), 3) := by decide +kernel
theorem dX3_lowest_51 : decode cX3_lowest 51 = .ok (.iload_n 3, 1) := by decide +kernel
theorem dX3_lowest_52 : decode cX3_lowest 52 = .ok (.ifCond .ne 8, 3) := by decide +kernel
theorem dX3_lowest_55 : decode cX3_lowest 55 = .ok (.lload 4, 2) := by decide +kernel
theorem dX3_lowest_57 : decode cX3_lowest 57 = .ok (.goto 5, 3) := by decide +kernel
theorem dX3_lowest_60 : decode cX3_lowest 60 = .ok (.lload 6, 2) := by decide +kernel
theorem dX3_lowest_62 : decode cX3_lowest 62 = .ok (.lreturn, 1) := by decide +kernel
theorem dX4_init_0 : decode cX4_init 0 = .ok (.aload_n 0, 1) := by decide +kernel
theorem dX4_init_1 : decode cX4_init 1 = .ok (.invokespecial 3, 3) := by decide +kernel
theorem dX4_init_4 : decode cX4_init 4 = .ok (.aload_n 0, 1) := by decide +kernel
theorem dX4_init_5 : decode cX4_init 5 = .ok (.bipush 40, 2) := by decide +kernel
theorem dX4_init_7 : decode cX4_init 7 = .ok (.newarray .int, 2) := by decide +kernel
theorem dX4_init_9 : decode cX4_init 9 = .ok (.putfield 9, 3) := by decide +kernel
theorem dX4_init_12 : decode cX4_init 12 = .ok (.aload_n 0, 1) := by decide +kernel
theorem dX4_init_13 : decode cX4_init 13 = .ok (.bipush 20, 2) := by decide +kernel
theorem dX4_init_15 : decode cX4_init 15 = .ok (.newarray .int, 2) := by decide +kernel
theorem dX4_init_17 : decode cX4_init 17 = .ok (.putfield 15, 3) := by decide +kernel
theorem dX4_init_20 : decode cX4_init 20 = .ok (.aload_n 0, 1) := by decide +kernel
theorem dX4_init_21 : decode cX4_init 21 = .ok (.bipush 20, 2) := by decide +kernel
theorem dX4_init_23 : decode cX4_init 23 = .ok (.newarray .boolean, 2) := by decide +kernel
theorem dX4_init_25 : decode cX4_init 25 = .ok (.putfield 18, 3) := by decide +kernel
theorem dX4_init_28 : decode cX4_init 28 = .ok (.aload_n 0, 1) := by decide +kernel
theorem dX4_init_29 : decode cX4_init 29 = .ok (.bipush 20, 2) := by decide +kernel
theorem dX4_init_31 : decode cX4_init 31 = .ok (.newarray .int, 2) := by decide +kernel
theorem dX4_init_33 : decode cX4_init 33 = .ok (.putfield 22, 3) := by decide +kernel
theorem dX4_init_36 : decode cX4_init 36 = .ok (.aload_n 0, 1) := by decide +kernel
theorem dX4_init_37 : decode cX4_init 37 = .ok (.bipush 20, 2) := by decide +kernel
theorem dX4_init_39 : decode cX4_init 39 = .ok (.newarray .int, 2) := by decide +kernel
theorem dX4_init_41 : decode cX4_init 41 = .ok (.putfield 25, 3) := by decide +kernel
theorem dX4_init_44 : decode cX4_init 44 = .ok (.return_, 1) := by decide +kernel
theorem dX4_takes_0 : decode cX4_takes 0 = .ok (.aload_n 0, 1) := by decide +kernel
theorem dX4_takes_1 : decode cX4_takes 1 = .ok (.getfield 28, 3) := by decide +kernel
theorem dX4_takes_4 : decode cX4_takes 4 = .ok (.ifCond .lt 12, 3) := by decide +kernel
theorem dX4_takes_7 : decode cX4_takes 7 = .ok (.aload_n 0, 1) := by decide +kernel
theorem dX4_takes_8 : decode cX4_takes 8 = .ok (.getfield 28, 3) := by decide +kernel
theorem dX4_takes_11 : decode cX4_takes 11 = .ok (.bipush 40, 2) := by decide +kernel
theorem dX4_takes_13 : decode cX4_takes 13 = .ok (.if_icmp .lt 5, 3) := by decide +kernel
theorem dX4_takes_16 : decode cX4_takes 16 = .ok (.iconst 0, 1) := by decide +kernel
theorem dX4_takes_17 : decode cX4_takes 17 = .ok (.ireturn, 1) := by decide +kernel
theorem dX4_takes_18 : decode cX4_takes 18 = .ok (.aload_n 0, 1) := by decide +kernel
theorem dX4_takes_19 : decode cX4_takes 19 = .ok (.getfield 9, 3) := by decide +kernel
theorem dX4_takes_22 : decode cX4_takes 22 = .ok (.aload_n 0, 1) := by decide +kernel
theorem dX4_takes_23 : decode cX4_takes 23 = .ok (.getfield 28, 3) := by decide +kernel
theorem dX4_takes_26 : decode cX4_takes 26 = .ok (.iload_n 1, 1) := by decide +kernel
theorem dX4_takes_27 : decode cX4_takes 27 = .ok (.iastore, 1) := by decide +kernel
theorem dX4_takes_28 : decode cX4_takes 28 = .ok (.aload_n 0, 1) := by decide +kernel
theorem dX4_takes_29 : decode cX4_takes 29 = .ok (.dup, 1) := by decide +kernel
theorem dX4_takes_30 : decode cX4_takes 30 = .ok (.getfield 28, 3) := by decide +kernel
theorem dX4_takes_33 : decode cX4_takes 33 = .ok (.iconst 1, 1) := by decide +kernel
theorem dX4_takes_34 : decode cX4_takes 34 = .ok (.iadd, 1) := by decide +kernel
theorem dX4_takes_35 : decode cX4_takes 35 = .ok (.putfield 28, 3) := by decide +kernel
theorem dX4_takes_38 : decode cX4_takes 38 = .ok (.aload_n 0, 1) := by decide +kernel
theorem dX4_takes_39 : decode cX4_takes 39 = .ok (.invokevirtual 32, 3) := by decide +kernel
theorem dX4_takes_42 : decode cX4_takes 42 = .ok (.iconst 1, 1) := by decide +kernel
theorem dX4_takes_43 : decode cX4_takes 43 = .ok (.ireturn, 1) := by decide +kernel
theorem dX4_empties_0 : decode cX4_empties 0 = .ok (.aload_n 0, 1) := by decide +kernel
theorem dX4_empties_1 : decode cX4_empties 1 = .ok (.iconst 0, 1) := by decide +kernel
theorem dX4_empties_2 : decode cX4_empties 2 = .ok (.putfield 28, 3) := by decide +kernel
theorem dX4_empties_5 : decode cX4_empties 5 = .ok (.aload_n 0, 1) := by decide +kernel
theorem dX4_empties_6 : decode cX4_empties 6 = .ok (.invokevirtual 32, 3) := by decide +kernel
theorem dX4_empties_9 : decode cX4_empties 9 = .ok (.return_, 1) := by decide +kernel
theorem dX4_parse_0 : decode cX4_parse 0 = .ok (.aload_n 0, 1) := by decide +kernel
theorem dX4_parse_1 : decode cX4_parse 1 = .ok (.iconst 0, 1) := by decide +kernel
theorem dX4_parse_2 : decode cX4_parse 2 = .ok (.putfield 35, 3) := by decide +kernel
theorem dX4_parse_5 : decode cX4_parse 5 = .ok (.aload_n 0, 1) := by decide +kernel
theorem dX4_parse_6 : decode cX4_parse 6 = .ok (.iconst (-1), 1) := by decide +kernel
theorem dX4_parse_7 : decode cX4_parse 7 = .ok (.putfield 38, 3) := by decide +kernel
theorem dX4_parse_10 : decode cX4_parse 10 = .ok (.aload_n 0, 1) := by decide +kernel
theorem dX4_parse_11 : decode cX4_parse 11 = .ok (.iconst 0, 1) := by decide +kernel
theorem dX4_parse_12 : decode cX4_parse 12 = .ok (.putfield 41, 3) := by decide +kernel
theorem dX4_parse_15 : decode cX4_parse 15 = .ok (.aload_n 0, 1) := by decide +kernel
theorem dX4_parse_16 : decode cX4_parse 16 = .ok (.invokevirtual 44, 3) := by decide +kernel
theorem dX4_parse_19 : decode cX4_parse 19 = .ok (.iconst 1, 1) := by decide +kernel
theorem dX4_parse_20 : decode cX4_parse 20 = .ok (.istore_n 1, 1) := by decide +kernel
theorem dX4_parse_21 : decode cX4_parse 21 = .ok (.iconst 0, 1) := by decide +kernel
theorem dX4_parse_22 : decode cX4_parse 22 = .ok (.istore_n 2, 1) := by decide +kernel
theorem dX4_parse_23 : decode cX4_parse 23 = .ok (.iload_n 2, 1) := by decide +kernel
theorem dX4_parse_24 : decode cX4_parse 24 = .ok (.bipush 40, 2) := by decide +kernel
theorem dX4_parse_26 : decode cX4_parse 26 = .ok (.if_icmp .gt 33, 3) := by decide +kernel
theorem dX4_parse_29 : decode cX4_parse 29 = .ok (.iload_n 1, 1) := by decide +kernel
theorem dX4_parse_30 : decode cX4_parse 30 = .ok (.ifCond .eq 29, 3) := by decide +kernel
theorem dX4_parse_33 : decode cX4_parse 33 = .ok (.aload_n 0, 1) := by decide +kernel
theorem dX4_parse_34 : decode cX4_parse 34 = .ok (.invokevirtual 47, 3) := by decide +kernel
theorem dX4_parse_37 : decode cX4_parse 37 = .ok (.ifCond .eq 14, 3) := by decide +kernel
theorem dX4_parse_40 : decode cX4_parse 40 = .ok (.aload_n 0, 1) := by decide +kernel
theorem dX4_parse_41 : decode cX4_parse 41 = .ok (.invokevirtual 51, 3) := by decide +kernel
theorem dX4_parse_44 : decode cX4_parse 44 = .ok (.ifCond .eq 7, 3) := by decide +kernel
theorem dX4_parse_47 : decode cX4_parse 47 = .ok (.iconst 1, 1) := by decide +kernel
theorem dX4_parse_48 : decode cX4_parse 48 = .ok (.goto 4, 3) := by decide +kernel
theorem dX4_parse_51 : decode cX4_parse 51 = .ok (.iconst 0, 1) := by decide +kernel
theorem dX4_parse_52 : decode cX4_parse 52 = .ok (.istore_n 1, 1) := by decide +kernel
theorem dX4_parse_53 : decode cX4_parse 53 = .ok (.iinc 2 1, 3) := by decide +kernel
theorem dX4_parse_56 : decode cX4_parse 56 = .ok (.goto (-33), 3) := by decide +kernel
theorem dX4_parse_59 : decode cX4_parse 59 = .ok (.aload_n 0, 1) := by decide +kernel
theorem dX4_parse_60 : decode cX4_parse 60 = .ok (.getfield 38, 3) := by decide +kernel
theorem dX4_parse_63 : decode cX4_parse 63 = .ok (.iconst (-1), 1) := by decide +kernel
theorem dX4_parse_64 : decode cX4_parse 64 = .ok (.if_icmp .eq 8, 3) := by decide +kernel
theorem dX4_parse_67 : decode cX4_parse 67 = .ok (.aload_n 0, 1) := by decide +kernel
theorem dX4_parse_68 : decode cX4_parse 68 = .ok (.iconst 0, 1) := by decide +kernel
theorem dX4_parse_69 : decode cX4_parse 69 = .ok (.putfield 41, 3) := by decide +kernel
theorem dX4_parse_72 : decode cX4_parse 72 = .ok (.return_, 1) := by decide +kernel
theorem dX4_here_0 : decode cX4_here 0 = .ok (.aload_n 0, 1) := by decide +kernel
theorem dX4_here_1 : decode cX4_here 1 = .ok (.getfield 35, 3) := by decide +kernel
theorem dX4_here_4 : decode cX4_here 4 = .ok (.ifCond .lt 35, 3) := by decide +kernel
theorem dX4_here_7 : decode cX4_here 7 = .ok (.aload_n 0, 1) := by decide +kernel
theorem dX4_here_8 : decode cX4_here 8 = .ok (.getfield 35, 3) := by decide +kernel
theorem dX4_here_11 : decode cX4_here 11 = .ok (.aload_n 0, 1) := by decide +kernel
theorem dX4_here_12 : decode cX4_here 12 = .ok (.getfield 28, 3) := by decide +kernel
theorem dX4_here_15 : decode cX4_here 15 = .ok (.if_icmp .ge 24, 3) := by decide +kernel
theorem dX4_here_18 : decode cX4_here 18 = .ok (.aload_n 0, 1) := by decide +kernel
theorem dX4_here_19 : decode cX4_here 19 = .ok (.getfield 35, 3) := by decide +kernel
theorem dX4_here_22 : decode cX4_here 22 = .ok (.bipush 40, 2) := by decide +kernel
theorem dX4_here_24 : decode cX4_here 24 = .ok (.if_icmp .ge 15, 3) := by decide +kernel
theorem dX4_here_27 : decode cX4_here 27 = .ok (.aload_n 0, 1) := by decide +kernel
theorem dX4_here_28 : decode cX4_here 28 = .ok (.getfield 9, 3) := by decide +kernel
theorem dX4_here_31 : decode cX4_here 31 = .ok (.aload_n 0, 1) := by decide +kernel
theorem dX4_here_32 : decode cX4_here 32 = .ok (.getfield 35, 3) := by decide +kernel
theorem dX4_here_35 : decode cX4_here 35 = .ok (.iaload, 1) := by decide +kernel
theorem dX4_here_36 : decode cX4_here 36 = .ok (.goto 4, 3) := by decide +kernel
theorem dX4_here_39 : decode cX4_here 39 = .ok (.iconst (-1), 1) := by decide +kernel
theorem dX4_here_40 : decode cX4_here 40 = .ok (.ireturn, 1) := by decide +kernel
theorem dX4_readsCondition_0 : decode cX4_readsCondition 0 = .ok (.aload_n 0, 1) := by decide +kernel
theorem dX4_readsCondition_1 : decode cX4_readsCondition 1 = .ok (.invokevirtual 54, 3) := by decide +kernel
theorem dX4_readsCondition_4 : decode cX4_readsCondition 4 = .ok (.istore_n 1, 1) := by decide +kernel
theorem dX4_readsCondition_5 : decode cX4_readsCondition 5 = .ok (.iload_n 1, 1) := by decide +kernel
theorem dX4_readsCondition_6 : decode cX4_readsCondition 6 = .ok (.bipush 109, 2) := by decide +kernel
theorem dX4_readsCondition_8 : decode cX4_readsCondition 8 = .ok (.if_icmp .eq 31, 3) := by decide +kernel
theorem dX4_readsCondition_11 : decode cX4_readsCondition 11 = .ok (.iload_n 1, 1) := by decide +kernel
theorem dX4_readsCondition_12 : decode cX4_readsCondition 12 = .ok (.bipush 110, 2) := by decide +kernel
theorem dX4_readsCondition_14 : decode cX4_readsCondition 14 = .ok (.if_icmp .eq 25, 3) := by decide +kernel
theorem dX4_readsCondition_17 : decode cX4_readsCondition 17 = .ok (.iload_n 1, 1) := by decide +kernel
theorem dX4_readsCondition_18 : decode cX4_readsCondition 18 = .ok (.bipush 107, 2) := by decide +kernel
theorem dX4_readsCondition_20 : decode cX4_readsCondition 20 = .ok (.if_icmp .eq 19, 3) := by decide +kernel
theorem dX4_readsCondition_23 : decode cX4_readsCondition 23 = .ok (.iload_n 1, 1) := by decide +kernel
theorem dX4_readsCondition_24 : decode cX4_readsCondition 24 = .ok (.bipush 116, 2) := by decide +kernel
theorem dX4_readsCondition_26 : decode cX4_readsCondition 26 = .ok (.if_icmp .eq 13, 3) := by decide +kernel
theorem dX4_readsCondition_29 : decode cX4_readsCondition 29 = .ok (.aload_n 0, 1) := by decide +kernel
theorem dX4_readsCondition_30 : decode cX4_readsCondition 30 = .ok (.aload_n 0, 1) := by decide +kernel
theorem dX4_readsCondition_31 : decode cX4_readsCondition 31 = .ok (.getfield 35, 3) := by decide +kernel
theorem dX4_readsCondition_34 : decode cX4_readsCondition 34 = .ok (.putfield 38, 3) := by decide +kernel
theorem dX4_readsCondition_37 : decode cX4_readsCondition 37 = .ok (.iconst 0, 1) := by decide +kernel
theorem dX4_readsCondition_38 : decode cX4_readsCondition 38 = .ok (.ireturn, 1) := by decide +kernel
theorem dX4_readsCondition_39 : decode cX4_readsCondition 39 = .ok (.aload_n 0, 1) := by decide +kernel
theorem dX4_readsCondition_40 : decode cX4_readsCondition 40 = .ok (.dup, 1) := by decide +kernel
theorem dX4_readsCondition_41 : decode cX4_readsCondition 41 = .ok (.getfield 35, 3) := by decide +kernel
theorem dX4_readsCondition_44 : decode cX4_readsCondition 44 = .ok (.iconst 1, 1) := by decide +kernel
theorem dX4_readsCondition_45 : decode cX4_readsCondition 45 = .ok (.iadd, 1) := by decide +kernel
theorem dX4_readsCondition_46 : decode cX4_readsCondition 46 = .ok (.putfield 35, 3) := by decide +kernel
theorem dX4_readsCondition_49 : decode cX4_readsCondition 49 = .ok (.iload_n 1, 1) := by decide +kernel
theorem dX4_readsCondition_50 : decode cX4_readsCondition 50 = .ok (.bipush 116, 2) := by decide +kernel
theorem dX4_readsCondition_52 : decode cX4_readsCondition 52 = .ok (.if_icmp .ne 11, 3) := by decide +kernel
theorem dX4_readsCondition_55 : decode cX4_readsCondition 55 = .ok (.aload_n 0, 1) := by decide +kernel
theorem dX4_readsCondition_56 : decode cX4_readsCondition 56 = .ok (.iconst 1, 1) := by decide +kernel
theorem dX4_readsCondition_57 : decode cX4_readsCondition 57 = .ok (.putfield 58, 3) := by decide +kernel
theorem dX4_readsCondition_60 : decode cX4_readsCondition 60 = .ok (.goto 89, 3) := by decide +kernel
theorem dX4_readsCondition_63 : decode cX4_readsCondition 63 = .ok (.iload_n 1, 1) := by decide +kernel
theorem dX4_readsCondition_64 : decode cX4_readsCondition 64 = .ok (.bipush 109, 2) := by decide +kernel
theorem dX4_readsCondition_66 : decode cX4_readsCondition 66 = .ok (.if_icmp .ne 25, 3) := by decide +kernel
theorem dX4_readsCondition_69 : decode cX4_readsCondition 69 = .ok (.aload_n 0, 1) := by decide +kernel
theorem dX4_readsCondition_70 : decode cX4_readsCondition 70 = .ok (.aload_n 0, 1) := by decide +kernel
theorem dX4_readsCondition_71 : decode cX4_readsCondition 71 = .ok (.getfield 62, 3) := by decide +kernel
theorem dX4_readsCondition_74 : decode cX4_readsCondition 74 = .ok (.aload_n 0, 1) := by decide +kernel
theorem dX4_readsCondition_75 : decode cX4_readsCondition 75 = .ok (.iconst 2, 1) := by decide +kernel
theorem dX4_readsCondition_76 : decode cX4_readsCondition 76 = .ok (.iconst 0, 1) := by decide +kernel
theorem dX4_readsCondition_77 : decode cX4_readsCondition 77 = .ok (.bipush 59, 2) := by decide +kernel
theorem dX4_readsCondition_79 : decode cX4_readsCondition 79 = .ok (.invokevirtual 65, 3) := by decide +kernel
theorem dX4_readsCondition_82 : decode cX4_readsCondition 82 = .ok (.invokestatic 69, 3) := by decide +kernel
theorem dX4_readsCondition_85 : decode cX4_readsCondition 85 = .ok (.putfield 62, 3) := by decide +kernel
theorem dX4_readsCondition_88 : decode cX4_readsCondition 88 = .ok (.goto 61, 3) := by decide +kernel
theorem dX4_readsCondition_91 : decode cX4_readsCondition 91 = .ok (.iload_n 1, 1) := by decide +kernel
theorem dX4_readsCondition_92 : decode cX4_readsCondition 92 = .ok (.bipush 110, 2) := by decide +kernel
theorem dX4_readsCondition_94 : decode cX4_readsCondition 94 = .ok (.if_icmp .ne 25, 3) := by decide +kernel
theorem dX4_readsCondition_97 : decode cX4_readsCondition 97 = .ok (.aload_n 0, 1) := by decide +kernel
theorem dX4_readsCondition_98 : decode cX4_readsCondition 98 = .ok (.aload_n 0, 1) := by decide +kernel
theorem dX4_readsCondition_99 : decode cX4_readsCondition 99 = .ok (.getfield 75, 3) := by decide +kernel
theorem dX4_readsCondition_102 : decode cX4_readsCondition 102 = .ok (.aload_n 0, 1) := by decide +kernel
theorem dX4_readsCondition_103 : decode cX4_readsCondition 103 = .ok (.iconst 1, 1) := by decide +kernel
theorem dX4_readsCondition_104 : decode cX4_readsCondition 104 = .ok (.iconst 1, 1) := by decide +kernel
theorem dX4_readsCondition_105 : decode cX4_readsCondition 105 = .ok (.bipush 8, 2) := by decide +kernel
theorem dX4_readsCondition_107 : decode cX4_readsCondition 107 = .ok (.invokevirtual 65, 3) := by decide +kernel
theorem dX4_readsCondition_110 : decode cX4_readsCondition 110 = .ok (.invokestatic 69, 3) := by decide +kernel
theorem dX4_readsCondition_113 : decode cX4_readsCondition 113 = .ok (.putfield 75, 3) := by decide +kernel
theorem dX4_readsCondition_116 : decode cX4_readsCondition 116 = .ok (.goto 33, 3) := by decide +kernel
theorem dX4_readsCondition_119 : decode cX4_readsCondition 119 = .ok (.aload_n 0, 1) := by decide +kernel
theorem dX4_readsCondition_120 : decode cX4_readsCondition 120 = .ok (.iconst 1, 1) := by decide +kernel
theorem dX4_readsCondition_121 : decode cX4_readsCondition 121 = .ok (.iconst 0, 1) := by decide +kernel
theorem dX4_readsCondition_122 : decode cX4_readsCondition 122 = .ok (.bipush 7, 2) := by decide +kernel
theorem dX4_readsCondition_124 : decode cX4_readsCondition 124 = .ok (.invokevirtual 65, 3) := by decide +kernel
theorem dX4_readsCondition_127 : decode cX4_readsCondition 127 = .ok (.istore_n 2, 1) := by decide +kernel
theorem dX4_readsCondition_128 : decode cX4_readsCondition 128 = .ok (.aload_n 0, 1) := by decide +kernel
theorem dX4_readsCondition_129 : decode cX4_readsCondition 129 = .ok (.dup, 1) := by decide +kernel
theorem dX4_readsCondition_130 : decode cX4_readsCondition 130 = .ok (.getfield 78, 3) := by decide +kernel
theorem dX4_readsCondition_133 : decode cX4_readsCondition 133 = .ok (.iload_n 2, 1) := by decide +kernel
theorem dX4_readsCondition_134 : decode cX4_readsCondition 134 = .ok (.iconst (-1), 1) := by decide +kernel
theorem dX4_readsCondition_135 : decode cX4_readsCondition 135 = .ok (.if_icmp .ne 7, 3) := by decide +kernel
theorem dX4_readsCondition_138 : decode cX4_readsCondition 138 = .ok (.iconst 0, 1) := by decide +kernel
theorem dX4_readsCondition_139 : decode cX4_readsCondition 139 = .ok (.goto 6, 3) := by decide +kernel
theorem dX4_readsCondition_142 : decode cX4_readsCondition 142 = .ok (.iconst 1, 1) := by decide +kernel
theorem dX4_readsCondition_143 : decode cX4_readsCondition 143 = .ok (.iload_n 2, 1) := by decide +kernel
theorem dX4_readsCondition_144 : decode cX4_readsCondition 144 = .ok (.ishl, 1) := by decide +kernel
theorem dX4_readsCondition_145 : decode cX4_readsCondition 145 = .ok (.ior, 1) := by decide +kernel
theorem dX4_readsCondition_146 : decode cX4_readsCondition 146 = .ok (.putfield 78, 3) := by decide +kernel
theorem dX4_readsCondition_149 : decode cX4_readsCondition 149 = .ok (.aload_n 0, 1) := by decide +kernel
theorem dX4_readsCondition_150 : decode cX4_readsCondition 150 = .ok (.getfield 38, 3) := by decide +kernel
theorem dX4_readsCondition_153 : decode cX4_readsCondition 153 = .ok (.iconst (-1), 1) := by decide +kernel
theorem dX4_readsCondition_154 : decode cX4_readsCondition 154 = .ok (.if_icmp .ne 7, 3) := by decide +kernel
theorem dX4_readsCondition_157 : decode cX4_readsCondition 157 = .ok (.iconst 1, 1) := by decide +kernel
theorem dX4_readsCondition_158 : decode cX4_readsCondition 158 = .ok (.goto 4, 3) := by decide +kernel
theorem dX4_readsCondition_161 : decode cX4_readsCondition 161 = .ok (.iconst 0, 1) := by decide +kernel
theorem dX4_readsCondition_162 : decode cX4_readsCondition 162 = .ok (.ireturn, 1) := by decide +kernel
theorem dX4_number_0 : decode cX4_number 0 = .ok (.aload_n 0, 1) := by decide +kernel
theorem dX4_number_1 : decode cX4_number 1 = .ok (.getfield 35, 3) := by decide +kernel
theorem dX4_number_4 : decode cX4_number 4 = .ok (.istore 4, 2) := by decide +kernel
theorem dX4_number_6 : decode cX4_number 6 = .ok (.iconst 0, 1) := by decide +kernel
theorem dX4_number_7 : decode cX4_number 7 = .ok (.istore 5, 2) := by decide +kernel
theorem dX4_number_9 : decode cX4_number 9 = .ok (.iconst 0, 1) := by decide +kernel
theorem dX4_number_10 : decode cX4_number 10 = .ok (.istore 6, 2) := by decide +kernel
theorem dX4_number_12 : decode cX4_number 12 = .ok (.iload 6, 2) := by decide +kernel
theorem dX4_number_14 : decode cX4_number 14 = .ok (.iload_n 1, 1) := by decide +kernel
theorem dX4_number_15 : decode cX4_number 15 = .ok (.if_icmp .ge 52, 3) := by decide +kernel
theorem dX4_number_18 : decode cX4_number 18 = .ok (.aload_n 0, 1) := by decide +kernel
theorem dX4_number_19 : decode cX4_number 19 = .ok (.invokevirtual 54, 3) := by decide +kernel
theorem dX4_number_22 : decode cX4_number 22 = .ok (.bipush 48, 2) := by decide +kernel
theorem dX4_number_24 : decode cX4_number 24 = .ok (.if_icmp .lt 43, 3) := by decide +kernel
theorem dX4_number_27 : decode cX4_number 27 = .ok (.aload_n 0, 1) := by decide +kernel
theorem dX4_number_28 : decode cX4_number 28 = .ok (.invokevirtual 54, 3) := by decide +kernel
theorem dX4_number_31 : decode cX4_number 31 = .ok (.bipush 57, 2) := by decide +kernel
theorem dX4_number_33 : decode cX4_number 33 = .ok (.if_icmp .gt 34, 3) := by decide +kernel
theorem dX4_number_36 : decode cX4_number 36 = .ok (.iload 5, 2) := by decide +kernel
theorem dX4_number_38 : decode cX4_number 38 = .ok (.bipush 10, 2) := by decide +kernel
theorem dX4_number_40 : decode cX4_number 40 = .ok (.imul, 1) := by decide +kernel
theorem dX4_number_41 : decode cX4_number 41 = .ok (.aload_n 0, 1) := by decide +kernel
theorem dX4_number_42 : decode cX4_number 42 = .ok (.invokevirtual 54, 3) := by decide +kernel
theorem dX4_number_45 : decode cX4_number 45 = .ok (.iadd, 1) := by decide +kernel
theorem dX4_number_46 : decode cX4_number 46 = .ok (.bipush 48, 2) := by decide +kernel
theorem dX4_number_48 : decode cX4_number 48 = .ok (.isub, 1) := by decide +kernel
theorem dX4_number_49 : decode cX4_number 49 = .ok (.istore 5, 2) := by decide +kernel
theorem dX4_number_51 : decode cX4_number 51 = .ok (.aload_n 0, 1) := by decide +kernel
theorem dX4_number_52 : decode cX4_number 52 = .ok (.dup, 1) := by decide +kernel
theorem dX4_number_53 : decode cX4_number 53 = .ok (.getfield 35, 3) := by decide +kernel
theorem dX4_number_56 : decode cX4_number 56 = .ok (.iconst 1, 1) := by decide +kernel
theorem dX4_number_57 : decode cX4_number 57 = .ok (.iadd, 1) := by decide +kernel
theorem dX4_number_58 : decode cX4_number 58 = .ok (.putfield 35, 3) := by decide +kernel
theorem dX4_number_61 : decode cX4_number 61 = .ok (.iinc 6 1, 3) := by decide +kernel
theorem dX4_number_64 : decode cX4_number 64 = .ok (.goto (-52), 3) := by decide +kernel
theorem dX4_number_67 : decode cX4_number 67 = .ok (.aload_n 0, 1) := by decide +kernel
theorem dX4_number_68 : decode cX4_number 68 = .ok (.getfield 35, 3) := by decide +kernel
theorem dX4_number_71 : decode cX4_number 71 = .ok (.iload 4, 2) := by decide +kernel
theorem dX4_number_73 : decode cX4_number 73 = .ok (.if_icmp .eq 15, 3) := by decide +kernel
theorem dX4_number_76 : decode cX4_number 76 = .ok (.iload 5, 2) := by decide +kernel
theorem dX4_number_78 : decode cX4_number 78 = .ok (.iload_n 2, 1) := by decide +kernel
theorem dX4_number_79 : decode cX4_number 79 = .ok (.if_icmp .lt 9, 3) := by decide +kernel
theorem dX4_number_82 : decode cX4_number 82 = .ok (.iload 5, 2) := by decide +kernel
theorem dX4_number_84 : decode cX4_number 84 = .ok (.iload_n 3, 1) := by decide +kernel
theorem dX4_number_85 : decode cX4_number 85 = .ok (.if_icmp .le 11, 3) := by decide +kernel
theorem dX4_number_88 : decode cX4_number 88 = .ok (.aload_n 0, 1) := by decide +kernel
theorem dX4_number_89 : decode cX4_number 89 = .ok (.iload 4, 2) := by decide +kernel
theorem dX4_number_91 : decode cX4_number 91 = .ok (.putfield 38, 3) := by decide +kernel
theorem dX4_number_94 : decode cX4_number 94 = .ok (.iconst (-1), 1) := by decide +kernel
theorem dX4_number_95 : decode cX4_number 95 = .ok (.ireturn, 1) := by decide +kernel
theorem dX4_number_96 : decode cX4_number 96 = .ok (.iload 5, 2) := by decide +kernel
theorem dX4_number_98 : decode cX4_number 98 = .ok (.ireturn, 1) := by decide +kernel
theorem dX4_readsJoint_0 : decode cX4_readsJoint 0 = .ok (.aload_n 0, 1) := by decide +kernel
theorem dX4_readsJoint_1 : decode cX4_readsJoint 1 = .ok (.invokevirtual 54, 3) := by decide +kernel
theorem dX4_readsJoint_4 : decode cX4_readsJoint 4 = .ok (.istore_n 1, 1) := by decide +kernel
theorem dX4_readsJoint_5 : decode cX4_readsJoint 5 = .ok (.iload_n 1, 1) := by decide +kernel
theorem dX4_readsJoint_6 : decode cX4_readsJoint 6 = .ok (.bipush 38, 2) := by decide +kernel
theorem dX4_readsJoint_8 : decode cX4_readsJoint 8 = .ok (.if_icmp .ne 15, 3) := by decide +kernel
theorem dX4_readsJoint_11 : decode cX4_readsJoint 11 = .ok (.aload_n 0, 1) := by decide +kernel
theorem dX4_readsJoint_12 : decode cX4_readsJoint 12 = .ok (.dup, 1) := by decide +kernel
theorem dX4_readsJoint_13 : decode cX4_readsJoint 13 = .ok (.getfield 35, 3) := by decide +kernel
theorem dX4_readsJoint_16 : decode cX4_readsJoint 16 = .ok (.iconst 1, 1) := by decide +kernel
theorem dX4_readsJoint_17 : decode cX4_readsJoint 17 = .ok (.iadd, 1) := by decide +kernel
theorem dX4_readsJoint_18 : decode cX4_readsJoint 18 = .ok (.putfield 35, 3) := by decide +kernel
theorem dX4_readsJoint_21 : decode cX4_readsJoint 21 = .ok (.iconst 1, 1) := by decide +kernel
theorem dX4_readsJoint_22 : decode cX4_readsJoint 22 = .ok (.ireturn, 1) := by decide +kernel
theorem dX4_readsJoint_23 : decode cX4_readsJoint 23 = .ok (.iload_n 1, 1) := by decide +kernel
theorem dX4_readsJoint_24 : decode cX4_readsJoint 24 = .ok (.bipush 124, 2) := by decide +kernel
theorem dX4_readsJoint_26 : decode cX4_readsJoint 26 = .ok (.if_icmp .ne 23, 3) := by decide +kernel
theorem dX4_readsJoint_29 : decode cX4_readsJoint 29 = .ok (.aload_n 0, 1) := by decide +kernel
theorem dX4_readsJoint_30 : decode cX4_readsJoint 30 = .ok (.dup, 1) := by decide +kernel
theorem dX4_readsJoint_31 : decode cX4_readsJoint 31 = .ok (.getfield 35, 3) := by decide +kernel
theorem dX4_readsJoint_34 : decode cX4_readsJoint 34 = .ok (.iconst 1, 1) := by decide +kernel
theorem dX4_readsJoint_35 : decode cX4_readsJoint 35 = .ok (.iadd, 1) := by decide +kernel
theorem dX4_readsJoint_36 : decode cX4_readsJoint 36 = .ok (.putfield 35, 3) := by decide +kernel
theorem dX4_readsJoint_39 : decode cX4_readsJoint 39 = .ok (.aload_n 0, 1) := by decide +kernel
theorem dX4_readsJoint_40 : decode cX4_readsJoint 40 = .ok (.invokevirtual 81, 3) := by decide +kernel
theorem dX4_readsJoint_43 : decode cX4_readsJoint 43 = .ok (.aload_n 0, 1) := by decide +kernel
theorem dX4_readsJoint_44 : decode cX4_readsJoint 44 = .ok (.invokevirtual 44, 3) := by decide +kernel
theorem dX4_readsJoint_47 : decode cX4_readsJoint 47 = .ok (.iconst 1, 1) := by decide +kernel
theorem dX4_readsJoint_48 : decode cX4_readsJoint 48 = .ok (.ireturn, 1) := by decide +kernel
theorem dX4_readsJoint_49 : decode cX4_readsJoint 49 = .ok (.aload_n 0, 1) := by decide +kernel
theorem dX4_readsJoint_50 : decode cX4_readsJoint 50 = .ok (.getfield 35, 3) := by decide +kernel
theorem dX4_readsJoint_53 : decode cX4_readsJoint 53 = .ok (.aload_n 0, 1) := by decide +kernel
theorem dX4_readsJoint_54 : decode cX4_readsJoint 54 = .ok (.getfield 28, 3) := by decide +kernel
theorem dX4_readsJoint_57 : decode cX4_readsJoint 57 = .ok (.if_icmp .ge 14, 3) := by decide +kernel
theorem dX4_readsJoint_60 : decode cX4_readsJoint 60 = .ok (.aload_n 0, 1) := by decide +kernel
theorem dX4_readsJoint_61 : decode cX4_readsJoint 61 = .ok (.aload_n 0, 1) := by decide +kernel
theorem dX4_readsJoint_62 : decode cX4_readsJoint 62 = .ok (.getfield 35, 3) := by decide +kernel
theorem dX4_readsJoint_65 : decode cX4_readsJoint 65 = .ok (.putfield 38, 3) := by decide +kernel
theorem dX4_readsJoint_68 : decode cX4_readsJoint 68 = .ok (.goto 7, 3) := by decide +kernel
theorem dX4_readsJoint_71 : decode cX4_readsJoint 71 = .ok (.aload_n 0, 1) := by decide +kernel
theorem dX4_readsJoint_72 : decode cX4_readsJoint 72 = .ok (.invokevirtual 81, 3) := by decide +kernel
theorem dX4_readsJoint_75 : decode cX4_readsJoint 75 = .ok (.iconst 0, 1) := by decide +kernel
theorem dX4_readsJoint_76 : decode cX4_readsJoint 76 = .ok (.ireturn, 1) := by decide +kernel
theorem dX4_opens_0 : decode cX4_opens 0 = .ok (.aload_n 0, 1) := by decide +kernel
theorem dX4_opens_1 : decode cX4_opens 1 = .ok (.iconst 0, 1) := by decide +kernel
theorem dX4_opens_2 : decode cX4_opens 2 = .ok (.putfield 62, 3) := by decide +kernel
theorem dX4_opens_5 : decode cX4_opens 5 = .ok (.aload_n 0, 1) := by decide +kernel
theorem dX4_opens_6 : decode cX4_opens 6 = .ok (.iconst 0, 1) := by decide +kernel
theorem dX4_opens_7 : decode cX4_opens 7 = .ok (.putfield 58, 3) := by decide +kernel
theorem dX4_opens_10 : decode cX4_opens 10 = .ok (.aload_n 0, 1) := by decide +kernel
theorem dX4_opens_11 : decode cX4_opens 11 = .ok (.iconst 0, 1) := by decide +kernel
theorem dX4_opens_12 : decode cX4_opens 12 = .ok (.putfield 75, 3) := by decide +kernel
theorem dX4_opens_15 : decode cX4_opens 15 = .ok (.aload_n 0, 1) := by decide +kernel
theorem dX4_opens_16 : decode cX4_opens 16 = .ok (.iconst 0, 1) := by decide +kernel
theorem dX4_opens_17 : decode cX4_opens 17 = .ok (.putfield 78, 3) := by decide +kernel
theorem dX4_opens_20 : decode cX4_opens 20 = .ok (.return_, 1) := by decide +kernel
theorem dX4_closes_0 : decode cX4_closes 0 = .ok (.aload_n 0, 1) := by decide +kernel
theorem dX4_closes_1 : decode cX4_closes 1 = .ok (.getfield 41, 3) := by decide +kernel
theorem dX4_closes_4 : decode cX4_closes 4 = .ok (.ifCond .lt 12, 3) := by decide +kernel
theorem dX4_closes_7 : decode cX4_closes 7 = .ok (.aload_n 0, 1) := by decide +kernel
theorem dX4_closes_8 : decode cX4_closes 8 = .ok (.getfield 41, 3) := by decide +kernel
theorem dX4_closes_11 : decode cX4_closes 11 = .ok (.bipush 20, 2) := by decide +kernel
theorem dX4_closes_13 : decode cX4_closes 13 = .ok (.if_icmp .lt 4, 3) := by decide +kernel
theorem dX4_closes_16 : decode cX4_closes 16 = .ok (.return_, 1) := by decide +kernel
theorem dX4_closes_17 : decode cX4_closes 17 = .ok (.aload_n 0, 1) := by decide +kernel
theorem dX4_closes_18 : decode cX4_closes 18 = .ok (.getfield 15, 3) := by decide +kernel
theorem dX4_closes_21 : decode cX4_closes 21 = .ok (.aload_n 0, 1) := by decide +kernel
theorem dX4_closes_22 : decode cX4_closes 22 = .ok (.getfield 41, 3) := by decide +kernel
theorem dX4_closes_25 : decode cX4_closes 25 = .ok (.aload_n 0, 1) := by decide +kernel
theorem dX4_closes_26 : decode cX4_closes 26 = .ok (.getfield 62, 3) := by decide +kernel
theorem dX4_closes_29 : decode cX4_closes 29 = .ok (.iastore, 1) := by decide +kernel
theorem dX4_closes_30 : decode cX4_closes 30 = .ok (.aload_n 0, 1) := by decide +kernel
theorem dX4_closes_31 : decode cX4_closes 31 = .ok (.getfield 18, 3) := by decide +kernel
theorem dX4_closes_34 : decode cX4_closes 34 = .ok (.aload_n 0, 1) := by decide +kernel
theorem dX4_closes_35 : decode cX4_closes 35 = .ok (.getfield 41, 3) := by decide +kernel
theorem dX4_closes_38 : decode cX4_closes 38 = .ok (.aload_n 0, 1) := by decide +kernel
theorem dX4_closes_39 : decode cX4_closes 39 = .ok (.getfield 58, 3) := by decide +kernel
theorem dX4_closes_42 : decode cX4_closes 42 = .ok (.bastore, 1) := by decide +kernel
theorem dX4_closes_43 : decode cX4_closes 43 = .ok (.aload_n 0, 1) := by decide +kernel
theorem dX4_closes_44 : decode cX4_closes 44 = .ok (.getfield 22, 3) := by decide +kernel
theorem dX4_closes_47 : decode cX4_closes 47 = .ok (.aload_n 0, 1) := by decide +kernel
theorem dX4_closes_48 : decode cX4_closes 48 = .ok (.getfield 41, 3) := by decide +kernel
theorem dX4_closes_51 : decode cX4_closes 51 = .ok (.aload_n 0, 1) := by decide +kernel
theorem dX4_closes_52 : decode cX4_closes 52 = .ok (.getfield 75, 3) := by decide +kernel
theorem dX4_closes_55 : decode cX4_closes 55 = .ok (.iastore, 1) := by decide +kernel
theorem dX4_closes_56 : decode cX4_closes 56 = .ok (.aload_n 0, 1) := by decide +kernel
theorem dX4_closes_57 : decode cX4_closes 57 = .ok (.getfield 25, 3) := by decide +kernel
theorem dX4_closes_60 : decode cX4_closes 60 = .ok (.aload_n 0, 1) := by decide +kernel
theorem dX4_closes_61 : decode cX4_closes 61 = .ok (.getfield 41, 3) := by decide +kernel
theorem dX4_closes_64 : decode cX4_closes 64 = .ok (.aload_n 0, 1) := by decide +kernel
theorem dX4_closes_65 : decode cX4_closes 65 = .ok (.getfield 78, 3) := by decide +kernel
theorem dX4_closes_68 : decode cX4_closes 68 = .ok (.iastore, 1) := by decide +kernel
theorem dX4_closes_69 : decode cX4_closes 69 = .ok (.aload_n 0, 1) := by decide +kernel
theorem dX4_closes_70 : decode cX4_closes 70 = .ok (.dup, 1) := by decide +kernel
theorem dX4_closes_71 : decode cX4_closes 71 = .ok (.getfield 41, 3) := by decide +kernel
theorem dX4_closes_74 : decode cX4_closes 74 = .ok (.iconst 1, 1) := by decide +kernel
theorem dX4_closes_75 : decode cX4_closes 75 = .ok (.iadd, 1) := by decide +kernel
theorem dX4_closes_76 : decode cX4_closes 76 = .ok (.putfield 41, 3) := by decide +kernel
theorem dX4_closes_79 : decode cX4_closes 79 = .ok (.return_, 1) := by decide +kernel
theorem dX4_beginning_0 : decode cX4_beginning 0 = .ok (.bipush 60, 2) := by decide +kernel
theorem dX4_beginning_2 : decode cX4_beginning 2 = .ok (.istore 5, 2) := by decide +kernel
theorem dX4_beginning_4 : decode cX4_beginning 4 = .ok (.iconst 0, 1) := by decide +kernel
theorem dX4_beginning_5 : decode cX4_beginning 5 = .ok (.istore 6, 2) := by decide +kernel
theorem dX4_beginning_7 : decode cX4_beginning 7 = .ok (.iload 6, 2) := by decide +kernel
theorem dX4_beginning_9 : decode cX4_beginning 9 = .ok (.aload_n 0, 1) := by decide +kernel
theorem dX4_beginning_10 : decode cX4_beginning 10 = .ok (.getfield 41, 3) := by decide +kernel
theorem dX4_beginning_13 : decode cX4_beginning 13 = .ok (.if_icmp .ge 163, 3) := by decide +kernel
theorem dX4_beginning_16 : decode cX4_beginning 16 = .ok (.iload 6, 2) := by decide +kernel
theorem dX4_beginning_18 : decode cX4_beginning 18 = .ok (.bipush 20, 2) := by decide +kernel
theorem dX4_beginning_20 : decode cX4_beginning 20 = .ok (.if_icmp .ge 156, 3) := by decide +kernel
theorem dX4_beginning_23 : decode cX4_beginning 23 = .ok (.aload_n 0, 1) := by decide +kernel
theorem dX4_beginning_24 : decode cX4_beginning 24 = .ok (.getfield 15, 3) := by decide +kernel
theorem dX4_beginning_27 : decode cX4_beginning 27 = .ok (.iload 6, 2) := by decide +kernel
theorem dX4_beginning_29 : decode cX4_beginning 29 = .ok (.iaload, 1) := by decide +kernel
theorem dX4_beginning_30 : decode cX4_beginning 30 = .ok (.istore 7, 2) := by decide +kernel
theorem dX4_beginning_32 : decode cX4_beginning 32 = .ok (.aload_n 0, 1) := by decide +kernel
theorem dX4_beginning_33 : decode cX4_beginning 33 = .ok (.getfield 18, 3) := by decide +kernel
theorem dX4_beginning_36 : decode cX4_beginning 36 = .ok (.iload 6, 2) := by decide +kernel
theorem dX4_beginning_38 : decode cX4_beginning 38 = .ok (.baload, 1) := by decide +kernel
theorem dX4_beginning_39 : decode cX4_beginning 39 = .ok (.ifCond .eq 12, 3) := by decide +kernel
theorem dX4_beginning_42 : decode cX4_beginning 42 = .ok (.iload_n 1, 1) := by decide +kernel
theorem dX4_beginning_43 : decode cX4_beginning 43 = .ok (.iload 7, 2) := by decide +kernel
theorem dX4_beginning_45 : decode cX4_beginning 45 = .ok (.if_icmp .le 6, 3) := by decide +kernel
theorem dX4_beginning_48 : decode cX4_beginning 48 = .ok (.iload_n 1, 1) := by decide +kernel
theorem dX4_beginning_49 : decode cX4_beginning 49 = .ok (.istore 7, 2) := by decide +kernel
theorem dX4_beginning_51 : decode cX4_beginning 51 = .ok (.aload_n 0, 1) := by decide +kernel
theorem dX4_beginning_52 : decode cX4_beginning 52 = .ok (.getfield 22, 3) := by decide +kernel
theorem dX4_beginning_55 : decode cX4_beginning 55 = .ok (.iload 6, 2) := by decide +kernel
theorem dX4_beginning_57 : decode cX4_beginning 57 = .ok (.iaload, 1) := by decide +kernel
theorem dX4_beginning_58 : decode cX4_beginning 58 = .ok (.iconst 1, 1) := by decide +kernel
theorem dX4_beginning_59 : decode cX4_beginning 59 = .ok (.isub, 1) := by decide +kernel
theorem dX4_beginning_60 : decode cX4_beginning 60 = .ok (.istore 8, 2) := by decide +kernel
theorem dX4_beginning_62 : decode cX4_beginning 62 = .ok (.iload 8, 2) := by decide +kernel
theorem dX4_beginning_64 : decode cX4_beginning 64 = .ok (.iload_n 3, 1) := by decide +kernel
theorem dX4_beginning_65 : decode cX4_beginning 65 = .ok (.if_icmp .ge 105, 3) := by decide +kernel
theorem dX4_beginning_68 : decode cX4_beginning 68 = .ok (.iload 8, 2) := by decide +kernel
theorem dX4_beginning_70 : decode cX4_beginning 70 = .ok (.aload_n 2, 1) := by decide +kernel
theorem dX4_beginning_71 : decode cX4_beginning 71 = .ok (.arraylength, 1) := by decide +kernel
theorem dX4_beginning_72 : decode cX4_beginning 72 = .ok (.if_icmp .lt 6, 3) := by decide +kernel
theorem dX4_beginning_75 : decode cX4_beginning 75 = .ok (.goto 95, 3) := by decide +kernel
theorem dX4_beginning_78 : decode cX4_beginning 78 = .ok (.iload 8, 2) := by decide +kernel
theorem dX4_beginning_80 : decode cX4_beginning 80 = .ok (.ifCond .lt 18, 3) := by decide +kernel
theorem dX4_beginning_83 : decode cX4_beginning 83 = .ok (.aload_n 2, 1) := by decide +kernel
theorem dX4_beginning_84 : decode cX4_beginning 84 = .ok (.iload 8, 2) := by decide +kernel
theorem dX4_beginning_86 : decode cX4_beginning 86 = .ok (.iaload, 1) := by decide +kernel
theorem dX4_beginning_87 : decode cX4_beginning 87 = .ok (.iload 7, 2) := by decide +kernel
theorem dX4_beginning_89 : decode cX4_beginning 89 = .ok (.if_icmp .le 9, 3) := by decide +kernel
theorem dX4_beginning_92 : decode cX4_beginning 92 = .ok (.aload_n 2, 1) := by decide +kernel
theorem dX4_beginning_93 : decode cX4_beginning 93 = .ok (.iload 8, 2) := by decide +kernel
theorem dX4_beginning_95 : decode cX4_beginning 95 = .ok (.iaload, 1) := by decide +kernel
theorem dX4_beginning_96 : decode cX4_beginning 96 = .ok (.istore 7, 2) := by decide +kernel
theorem dX4_beginning_98 : decode cX4_beginning 98 = .ok (.aload_n 0, 1) := by decide +kernel
theorem dX4_beginning_99 : decode cX4_beginning 99 = .ok (.getfield 25, 3) := by decide +kernel
theorem dX4_beginning_102 : decode cX4_beginning 102 = .ok (.iload 6, 2) := by decide +kernel
theorem dX4_beginning_104 : decode cX4_beginning 104 = .ok (.iaload, 1) := by decide +kernel
theorem dX4_beginning_105 : decode cX4_beginning 105 = .ok (.istore 9, 2) := by decide +kernel
theorem dX4_beginning_107 : decode cX4_beginning 107 = .ok (.iconst 0, 1) := by decide +kernel
theorem dX4_beginning_108 : decode cX4_beginning 108 = .ok (.istore 10, 2) := by decide +kernel
theorem dX4_beginning_110 : decode cX4_beginning 110 = .ok (.iload 9, 2) := by decide +kernel
theorem dX4_beginning_112 : decode cX4_beginning 112 = .ok (.ifCond .eq 47, 3) := by decide +kernel
theorem dX4_beginning_115 : decode cX4_beginning 115 = .ok (.iload 10, 2) := by decide +kernel
theorem dX4_beginning_117 : decode cX4_beginning 117 = .ok (.aload 4, 2) := by decide +kernel
theorem dX4_beginning_119 : decode cX4_beginning 119 = .ok (.arraylength, 1) := by decide +kernel
theorem dX4_beginning_120 : decode cX4_beginning 120 = .ok (.if_icmp .ge 39, 3) := by decide +kernel
theorem dX4_beginning_123 : decode cX4_beginning 123 = .ok (.iload 9, 2) := by decide +kernel
theorem dX4_beginning_125 : decode cX4_beginning 125 = .ok (.iconst 1, 1) := by decide +kernel
theorem dX4_beginning_126 : decode cX4_beginning 126 = .ok (.iand, 1) := by decide +kernel
theorem dX4_beginning_127 : decode cX4_beginning 127 = .ok (.ifCond .eq 20, 3) := by decide +kernel
theorem dX4_beginning_130 : decode cX4_beginning 130 = .ok (.aload 4, 2) := by decide +kernel
theorem dX4_beginning_132 : decode cX4_beginning 132 = .ok (.iload 10, 2) := by decide +kernel
theorem dX4_beginning_134 : decode cX4_beginning 134 = .ok (.iaload, 1) := by decide +kernel
theorem dX4_beginning_135 : decode cX4_beginning 135 = .ok (.iload 7, 2) := by decide +kernel
theorem dX4_beginning_137 : decode cX4_beginning 137 = .ok (.if_icmp .le 10, 3) := by decide +kernel
theorem dX4_beginning_140 : decode cX4_beginning 140 = .ok (.aload 4, 2) := by decide +kernel
theorem dX4_beginning_142 : decode cX4_beginning 142 = .ok (.iload 10, 2) := by decide +kernel
theorem dX4_beginning_144 : decode cX4_beginning 144 = .ok (.iaload, 1) := by decide +kernel
theorem dX4_beginning_145 : decode cX4_beginning 145 = .ok (.istore 7, 2) := by decide +kernel
theorem dX4_beginning_147 : decode cX4_beginning 147 = .ok (.iload 9, 2) := by decide +kernel
theorem dX4_beginning_149 : decode cX4_beginning 149 = .ok (.iconst 1, 1) := by decide +kernel
theorem dX4_beginning_150 : decode cX4_beginning 150 = .ok (.iushr, 1) := by decide +kernel
theorem dX4_beginning_151 : decode cX4_beginning 151 = .ok (.istore 9, 2) := by decide +kernel
theorem dX4_beginning_153 : decode cX4_beginning 153 = .ok (.iinc 10 1, 3) := by decide +kernel
theorem dX4_beginning_156 : decode cX4_beginning 156 = .ok (.goto (-46), 3) := by decide +kernel
theorem dX4_beginning_159 : decode cX4_beginning 159 = .ok (.iload 7, 2) := by decide +kernel
theorem dX4_beginning_161 : decode cX4_beginning 161 = .ok (.iload 5, 2) := by decide +kernel
theorem dX4_beginning_163 : decode cX4_beginning 163 = .ok (.if_icmp .ge 7, 3) := by decide +kernel
theorem dX4_beginning_166 : decode cX4_beginning 166 = .ok (.iload 7, 2) := by decide +kernel
theorem dX4_beginning_168 : decode cX4_beginning 168 = .ok (.istore 5, 2) := by decide +kernel
theorem dX4_beginning_170 : decode cX4_beginning 170 = .ok (.iinc 6 1, 3) := by decide +kernel
theorem dX4_beginning_173 : decode cX4_beginning 173 = .ok (.goto (-166), 3) := by decide +kernel
theorem dX4_beginning_176 : decode cX4_beginning 176 = .ok (.iload 5, 2) := by decide +kernel
theorem dX4_beginning_178 : decode cX4_beginning 178 = .ok (.ireturn, 1) := by decide +kernel
theorem dX5_init_0 : decode cX5_init 0 = .ok (.aload_n 0, 1) := by decide +kernel
theorem dX5_init_1 : decode cX5_init 1 = .ok (.invokespecial 3, 3) := by decide +kernel
theorem dX5_init_4 : decode cX5_init 4 = .ok (.aload_n 0, 1) := by decide +kernel
theorem dX5_init_5 : decode cX5_init 5 = .ok (.iconst 4, 1) := by decide +kernel
theorem dX5_init_6 : decode cX5_init 6 = .ok (.bipush 64, 2) := by decide +kernel
theorem dX5_init_8 : decode cX5_init 8 = .ok (.multianewarray 9 2, 4) := by decide +kernel
theorem dX5_init_12 : decode cX5_init 12 = .ok (.putfield 11, 3) := by decide +kernel
theorem dX5_init_15 : decode cX5_init 15 = .ok (.aload_n 0, 1) := by decide +kernel
theorem dX5_init_16 : decode cX5_init 16 = .ok (.iconst 4, 1) := by decide +kernel
theorem dX5_init_17 : decode cX5_init 17 = .ok (.newarray .int, 2) := by decide +kernel
theorem dX5_init_19 : decode cX5_init 19 = .ok (.putfield 16, 3) := by decide +kernel
theorem dX5_init_22 : decode cX5_init 22 = .ok (.aload_n 0, 1) := by decide +kernel
theorem dX5_init_23 : decode cX5_init 23 = .ok (.iconst 4, 1) := by decide +kernel
theorem dX5_init_24 : decode cX5_init 24 = .ok (.newarray .int, 2) := by decide +kernel
theorem dX5_init_26 : decode cX5_init 26 = .ok (.putfield 20, 3) := by decide +kernel
theorem dX5_init_29 : decode cX5_init 29 = .ok (.iconst 0, 1) := by decide +kernel
theorem dX5_init_30 : decode cX5_init 30 = .ok (.istore_n 1, 1) := by decide +kernel
theorem dX5_init_31 : decode cX5_init 31 = .ok (.iload_n 1, 1) := by decide +kernel
theorem dX5_init_32 : decode cX5_init 32 = .ok (.iconst 4, 1) := by decide +kernel
theorem dX5_init_33 : decode cX5_init 33 = .ok (.if_icmp .ge 16, 3) := by decide +kernel
theorem dX5_init_36 : decode cX5_init 36 = .ok (.aload_n 0, 1) := by decide +kernel
theorem dX5_init_37 : decode cX5_init 37 = .ok (.getfield 16, 3) := by decide +kernel
theorem dX5_init_40 : decode cX5_init 40 = .ok (.iload_n 1, 1) := by decide +kernel
theorem dX5_init_41 : decode cX5_init 41 = .ok (.iconst (-1), 1) := by decide +kernel
theorem dX5_init_42 : decode cX5_init 42 = .ok (.iastore, 1) := by decide +kernel
theorem dX5_init_43 : decode cX5_init 43 = .ok (.iinc 1 1, 3) := by decide +kernel
theorem dX5_init_46 : decode cX5_init 46 = .ok (.goto (-15), 3) := by decide +kernel
theorem dX5_init_49 : decode cX5_init 49 = .ok (.return_, 1) := by decide +kernel
theorem dX5_finds_0 : decode cX5_finds 0 = .ok (.aload_n 0, 1) := by decide +kernel
theorem dX5_finds_1 : decode cX5_finds 1 = .ok (.iload_n 1, 1) := by decide +kernel
theorem dX5_finds_2 : decode cX5_finds 2 = .ok (.putfield 23, 3) := by decide +kernel
theorem dX5_finds_5 : decode cX5_finds 5 = .ok (.bipush (-10), 2) := by decide +kernel
theorem dX5_finds_7 : decode cX5_finds 7 = .ok (.iload_n 1, 1) := by decide +kernel
theorem dX5_finds_8 : decode cX5_finds 8 = .ok (.isub, 1) := by decide +kernel
theorem dX5_finds_9 : decode cX5_finds 9 = .ok (.ireturn, 1) := by decide +kernel
theorem dX5_isGone_0 : decode cX5_isGone 0 = .ok (.aload_n 0, 1) := by decide +kernel
theorem dX5_isGone_1 : decode cX5_isGone 1 = .ok (.getfield 16, 3) := by decide +kernel
theorem dX5_isGone_4 : decode cX5_isGone 4 = .ok (.iload_n 1, 1) := by decide +kernel
theorem dX5_isGone_5 : decode cX5_isGone 5 = .ok (.iaload, 1) := by decide +kernel
theorem dX5_isGone_6 : decode cX5_isGone 6 = .ok (.iconst (-1), 1) := by decide +kernel
theorem dX5_isGone_7 : decode cX5_isGone 7 = .ok (.if_icmp .ne 7, 3) := by decide +kernel
theorem dX5_isGone_10 : decode cX5_isGone 10 = .ok (.iconst 1, 1) := by decide +kernel
theorem dX5_isGone_11 : decode cX5_isGone 11 = .ok (.goto 4, 3) := by decide +kernel
theorem dX5_isGone_14 : decode cX5_isGone 14 = .ok (.iconst 0, 1) := by decide +kernel
theorem dX5_isGone_15 : decode cX5_isGone 15 = .ok (.ireturn, 1) := by decide +kernel
theorem dX5_lay_0 : decode cX5_lay 0 = .ok (.aload_n 0, 1) := by decide +kernel
theorem dX5_lay_1 : decode cX5_lay 1 = .ok (.getfield 16, 3) := by decide +kernel
theorem dX5_lay_4 : decode cX5_lay 4 = .ok (.iload_n 1, 1) := by decide +kernel
theorem dX5_lay_5 : decode cX5_lay 5 = .ok (.iload_n 2, 1) := by decide +kernel
theorem dX5_lay_6 : decode cX5_lay 6 = .ok (.iastore, 1) := by decide +kernel
theorem dX5_lay_7 : decode cX5_lay 7 = .ok (.aload_n 0, 1) := by decide +kernel
theorem dX5_lay_8 : decode cX5_lay 8 = .ok (.getfield 20, 3) := by decide +kernel
theorem dX5_lay_11 : decode cX5_lay 11 = .ok (.iload_n 1, 1) := by decide +kernel
theorem dX5_lay_12 : decode cX5_lay 12 = .ok (.iload_n 3, 1) := by decide +kernel
theorem dX5_lay_13 : decode cX5_lay 13 = .ok (.iastore, 1) := by decide +kernel
theorem dX5_lay_14 : decode cX5_lay 14 = .ok (.iconst 0, 1) := by decide +kernel
theorem dX5_lay_15 : decode cX5_lay 15 = .ok (.istore 4, 2) := by decide +kernel
theorem dX5_lay_17 : decode cX5_lay 17 = .ok (.iload 4, 2) := by decide +kernel
theorem dX5_lay_19 : decode cX5_lay 19 = .ok (.bipush 64, 2) := by decide +kernel
theorem dX5_lay_21 : decode cX5_lay 21 = .ok (.if_icmp .ge 19, 3) := by decide +kernel
theorem dX5_lay_24 : decode cX5_lay 24 = .ok (.aload_n 0, 1) := by decide +kernel
theorem dX5_lay_25 : decode cX5_lay 25 = .ok (.getfield 11, 3) := by decide +kernel
theorem dX5_lay_28 : decode cX5_lay 28 = .ok (.iload_n 1, 1) := by decide +kernel
theorem dX5_lay_29 : decode cX5_lay 29 = .ok (.aaload, 1) := by decide +kernel
theorem dX5_lay_30 : decode cX5_lay 30 = .ok (.iload 4, 2) := by decide +kernel
theorem dX5_lay_32 : decode cX5_lay 32 = .ok (.iconst 0, 1) := by decide +kernel
theorem dX5_lay_33 : decode cX5_lay 33 = .ok (.iastore, 1) := by decide +kernel
theorem dX5_lay_34 : decode cX5_lay 34 = .ok (.iinc 4 1, 3) := by decide +kernel
theorem dX5_lay_37 : decode cX5_lay 37 = .ok (.goto (-20), 3) := by decide +kernel
theorem dX5_lay_40 : decode cX5_lay 40 = .ok (.return_, 1) := by decide +kernel
theorem dX5_drop_0 : decode cX5_drop 0 = .ok (.aload_n 0, 1) := by decide +kernel
theorem dX5_drop_1 : decode cX5_drop 1 = .ok (.getfield 16, 3) := by decide +kernel
theorem dX5_drop_4 : decode cX5_drop 4 = .ok (.iload_n 1, 1) := by decide +kernel
theorem dX5_drop_5 : decode cX5_drop 5 = .ok (.iconst (-1), 1) := by decide +kernel
theorem dX5_drop_6 : decode cX5_drop 6 = .ok (.iastore, 1) := by decide +kernel
theorem dX5_drop_7 : decode cX5_drop 7 = .ok (.aload_n 0, 1) := by decide +kernel
theorem dX5_drop_8 : decode cX5_drop 8 = .ok (.getfield 20, 3) := by decide +kernel
theorem dX5_drop_11 : decode cX5_drop 11 = .ok (.iload_n 1, 1) := by decide +kernel
theorem dX5_drop_12 : decode cX5_drop 12 = .ok (.iconst 0, 1) := by decide +kernel
theorem dX5_drop_13 : decode cX5_drop 13 = .ok (.iastore, 1) := by decide +kernel
theorem dX5_drop_14 : decode cX5_drop 14 = .ok (.return_, 1) := by decide +kernel
theorem dX5_findingAt_0 : decode cX5_findingAt 0 = .ok (.aload_n 0, 1) := by decide +kernel
theorem dX5_findingAt_1 : decode cX5_findingAt 1 = .ok (.iload_n 1, 1) := by decide +kernel
theorem dX5_findingAt_2 : decode cX5_findingAt 2 = .ok (.invokevirtual 27, 3) := by decide +kernel
theorem dX5_findingAt_5 : decode cX5_findingAt 5 = .ok (.ifCond .eq 5, 3) := by decide +kernel
theorem dX5_findingAt_8 : decode cX5_findingAt 8 = .ok (.iconst 1, 1) := by decide +kernel
theorem dX5_findingAt_9 : decode cX5_findingAt 9 = .ok (.ireturn, 1) := by decide +kernel
theorem dX5_findingAt_10 : decode cX5_findingAt 10 = .ok (.aload_n 0, 1) := by decide +kernel
theorem dX5_findingAt_11 : decode cX5_findingAt 11 = .ok (.getfield 16, 3) := by decide +kernel
theorem dX5_findingAt_14 : decode cX5_findingAt 14 = .ok (.iload_n 1, 1) := by decide +kernel
theorem dX5_findingAt_15 : decode cX5_findingAt 15 = .ok (.iaload, 1) := by decide +kernel
theorem dX5_findingAt_16 : decode cX5_findingAt 16 = .ok (.iload_n 2, 1) := by decide +kernel
theorem dX5_findingAt_17 : decode cX5_findingAt 17 = .ok (.if_icmp .eq 5, 3) := by decide +kernel
theorem dX5_findingAt_20 : decode cX5_findingAt 20 = .ok (.iconst 3, 1) := by decide +kernel
theorem dX5_findingAt_21 : decode cX5_findingAt 21 = .ok (.ireturn, 1) := by decide +kernel
theorem dX5_findingAt_22 : decode cX5_findingAt 22 = .ok (.iload_n 3, 1) := by decide +kernel
theorem dX5_findingAt_23 : decode cX5_findingAt 23 = .ok (.ifCond .lt 19, 3) := by decide +kernel
theorem dX5_findingAt_26 : decode cX5_findingAt 26 = .ok (.iload_n 3, 1) := by decide +kernel
theorem dX5_findingAt_27 : decode cX5_findingAt 27 = .ok (.aload_n 0, 1) := by decide +kernel
theorem dX5_findingAt_28 : decode cX5_findingAt 28 = .ok (.getfield 20, 3) := by decide +kernel
theorem dX5_findingAt_31 : decode cX5_findingAt 31 = .ok (.iload_n 1, 1) := by decide +kernel
theorem dX5_findingAt_32 : decode cX5_findingAt 32 = .ok (.iaload, 1) := by decide +kernel
theorem dX5_findingAt_33 : decode cX5_findingAt 33 = .ok (.if_icmp .ge 9, 3) := by decide +kernel
theorem dX5_findingAt_36 : decode cX5_findingAt 36 = .ok (.iload_n 3, 1) := by decide +kernel
theorem dX5_findingAt_37 : decode cX5_findingAt 37 = .ok (.bipush 64, 2) := by decide +kernel
theorem dX5_findingAt_39 : decode cX5_findingAt 39 = .ok (.if_icmp .lt 7, 3) := by decide +kernel
theorem dX5_findingAt_42 : decode cX5_findingAt 42 = .ok (.iconst 2, 1) := by decide +kernel
theorem dX5_findingAt_43 : decode cX5_findingAt 43 = .ok (.goto 4, 3) := by decide +kernel
theorem dX5_findingAt_46 : decode cX5_findingAt 46 = .ok (.iconst 0, 1) := by decide +kernel
theorem dX5_findingAt_47 : decode cX5_findingAt 47 = .ok (.ireturn, 1) := by decide +kernel
theorem dX5_hasItems_0 : decode cX5_hasItems 0 = .ok (.iload_n 2, 1) := by decide +kernel
theorem dX5_hasItems_1 : decode cX5_hasItems 1 = .ok (.ifCond .lt 29, 3) := by decide +kernel
theorem dX5_hasItems_4 : decode cX5_hasItems 4 = .ok (.iload_n 2, 1) := by decide +kernel
theorem dX5_hasItems_5 : decode cX5_hasItems 5 = .ok (.aload_n 0, 1) := by decide +kernel
theorem dX5_hasItems_6 : decode cX5_hasItems 6 = .ok (.getfield 20, 3) := by decide +kernel
theorem dX5_hasItems_9 : decode cX5_hasItems 9 = .ok (.iload_n 1, 1) := by decide +kernel
theorem dX5_hasItems_10 : decode cX5_hasItems 10 = .ok (.iaload, 1) := by decide +kernel
theorem dX5_hasItems_11 : decode cX5_hasItems 11 = .ok (.if_icmp .gt 19, 3) := by decide +kernel
theorem dX5_hasItems_14 : decode cX5_hasItems 14 = .ok (.iload_n 3, 1) := by decide +kernel
theorem dX5_hasItems_15 : decode cX5_hasItems 15 = .ok (.aload_n 0, 1) := by decide +kernel
theorem dX5_hasItems_16 : decode cX5_hasItems 16 = .ok (.getfield 20, 3) := by decide +kernel
theorem dX5_hasItems_19 : decode cX5_hasItems 19 = .ok (.iload_n 1, 1) := by decide +kernel
theorem dX5_hasItems_20 : decode cX5_hasItems 20 = .ok (.iaload, 1) := by decide +kernel
theorem dX5_hasItems_21 : decode cX5_hasItems 21 = .ok (.iload_n 2, 1) := by decide +kernel
theorem dX5_hasItems_22 : decode cX5_hasItems 22 = .ok (.isub, 1) := by decide +kernel
theorem dX5_hasItems_23 : decode cX5_hasItems 23 = .ok (.if_icmp .gt 7, 3) := by decide +kernel
theorem dX5_hasItems_26 : decode cX5_hasItems 26 = .ok (.iconst 1, 1) := by decide +kernel
theorem dX5_hasItems_27 : decode cX5_hasItems 27 = .ok (.goto 4, 3) := by decide +kernel
theorem dX5_hasItems_30 : decode cX5_hasItems 30 = .ok (.iconst 0, 1) := by decide +kernel
theorem dX5_hasItems_31 : decode cX5_hasItems 31 = .ok (.ireturn, 1) := by decide +kernel
theorem dX5_lowest_0 : decode cX5_lowest 0 = .ok (.iload_n 1, 1) := by decide +kernel
theorem dX5_lowest_1 : decode cX5_lowest 1 = .ok (.ifCond .ne 6, 3) := by decide +kernel
theorem dX5_lowest_4 : decode cX5_lowest 4 = .ok (.iload_n 2, 1) := by decide +kernel
theorem dX5_lowest_5 : decode cX5_lowest 5 = .ok (.i2b, 1) := by decide +kernel
theorem dX5_lowest_6 : decode cX5_lowest 6 = .ok (.ireturn, 1) := by decide +kernel
theorem dX5_lowest_7 : decode cX5_lowest 7 = .ok (.iload_n 1, 1) := by decide +kernel
theorem dX5_lowest_8 : decode cX5_lowest 8 = .ok (.iconst 1, 1) := by decide +kernel
theorem dX5_lowest_9 : decode cX5_lowest 9 = .ok (.if_icmp .ne 8, 3) := by decide +kernel
theorem dX5_lowest_12 : decode cX5_lowest 12 = .ok (.iload_n 2, 1) := by decide +kernel
theorem dX5_lowest_13 : decode cX5_lowest 13 = .ok (.i2s, 1) := by decide +kernel
theorem dX5_lowest_14 : decode cX5_lowest 14 = .ok (.goto 4, 3) := by decide +kernel
theorem dX5_lowest_17 : decode cX5_lowest 17 = .ok (.iload_n 2, 1) := by decide +kernel
theorem dX5_lowest_18 : decode cX5_lowest 18 = .ok (.ireturn, 1) := by decide +kernel
theorem dX6_init_0 : decode cX6_init 0 = .ok (.aload_n 0, 1) := by decide +kernel
theorem dX6_init_1 : decode cX6_init 1 = .ok (.invokespecial 3, 3) := by decide +kernel
theorem dX6_init_4 : decode cX6_init 4 = .ok (.aload_n 0, 1) := by decide +kernel
theorem dX6_init_5 : decode cX6_init 5 = .ok (.bipush 61, 2) := by decide +kernel
theorem dX6_init_7 : decode cX6_init 7 = .ok (.newarray .int, 2) := by decide +kernel
theorem dX6_init_9 : decode cX6_init 9 = .ok (.putfield 9, 3) := by decide +kernel
theorem dX6_init_12 : decode cX6_init 12 = .ok (.aload_n 0, 1) := by decide +kernel
theorem dX6_init_13 : decode cX6_init 13 = .ok (.bipush 61, 2) := by decide +kernel
theorem dX6_init_15 : decode cX6_init 15 = .ok (.newarray .long, 2) := by decide +kernel
theorem dX6_init_17 : decode cX6_init 17 = .ok (.putfield 15, 3) := by decide +kernel
theorem dX6_init_20 : decode cX6_init 20 = .ok (.aload_n 0, 1) := by decide +kernel
theorem dX6_init_21 : decode cX6_init 21 = .ok (.aload_n 1, 1) := by decide +kernel
theorem dX6_init_22 : decode cX6_init 22 = .ok (.putfield 19, 3) := by decide +kernel
theorem dX6_init_25 : decode cX6_init 25 = .ok (.return_, 1) := by decide +kernel
theorem dX6_run_0 : decode cX6_run 0 = .ok (.aload_n 0, 1) := by decide +kernel
theorem dX6_run_1 : decode cX6_run 1 = .ok (.iconst (-1), 1) := by decide +kernel
theorem dX6_run_2 : decode cX6_run 2 = .ok (.putfield 23, 3) := by decide +kernel
theorem dX6_run_5 : decode cX6_run 5 = .ok (.aload_n 0, 1) := by decide +kernel
theorem dX6_run_6 : decode cX6_run 6 = .ok (.iconst (-1), 1) := by decide +kernel
theorem dX6_run_7 : decode cX6_run 7 = .ok (.putfield 27, 3) := by decide +kernel
theorem dX6_run_10 : decode cX6_run 10 = .ok (.iconst 0, 1) := by decide +kernel
theorem dX6_run_11 : decode cX6_run 11 = .ok (.istore_n 2, 1) := by decide +kernel
theorem dX6_run_12 : decode cX6_run 12 = .ok (.iload_n 2, 1) := by decide +kernel
theorem dX6_run_13 : decode cX6_run 13 = .ok (.iload_n 1, 1) := by decide +kernel
theorem dX6_run_14 : decode cX6_run 14 = .ok (.if_icmp .gt 66, 3) := by decide +kernel
theorem dX6_run_17 : decode cX6_run 17 = .ok (.iload_n 2, 1) := by decide +kernel
theorem dX6_run_18 : decode cX6_run 18 = .ok (.bipush 60, 2) := by decide +kernel
theorem dX6_run_20 : decode cX6_run 20 = .ok (.if_icmp .gt 60, 3) := by decide +kernel
theorem dX6_run_23 : decode cX6_run 23 = .ok (.aload_n 0, 1) := by decide +kernel
theorem dX6_run_24 : decode cX6_run 24 = .ok (.getfield 27, 3) := by decide +kernel
theorem dX6_run_27 : decode cX6_run 27 = .ok (.ifCond .le 31, 3) := by decide +kernel
theorem dX6_run_30 : decode cX6_run 30 = .ok (.aload_n 0, 1) := by decide +kernel
theorem dX6_run_31 : decode cX6_run 31 = .ok (.getfield 27, 3) := by decide +kernel
theorem dX6_run_34 : decode cX6_run 34 = .ok (.iload_n 2, 1) := by decide +kernel
theorem dX6_run_35 : decode cX6_run 35 = .ok (.if_icmp .gt 23, 3) := by decide +kernel
theorem dX6_run_38 : decode cX6_run 38 = .ok (.aload_n 0, 1) := by decide +kernel
theorem dX6_run_39 : decode cX6_run 39 = .ok (.getfield 9, 3) := by decide +kernel
theorem dX6_run_42 : decode cX6_run 42 = .ok (.iload_n 2, 1) := by decide +kernel
theorem dX6_run_43 : decode cX6_run 43 = .ok (.aload_n 0, 1) := by decide +kernel
theorem dX6_run_44 : decode cX6_run 44 = .ok (.getfield 9, 3) := by decide +kernel
theorem dX6_run_47 : decode cX6_run 47 = .ok (.iload_n 2, 1) := by decide +kernel
theorem dX6_run_48 : decode cX6_run 48 = .ok (.aload_n 0, 1) := by decide +kernel
theorem dX6_run_49 : decode cX6_run 49 = .ok (.getfield 27, 3) := by decide +kernel
theorem dX6_run_52 : decode cX6_run 52 = .ok (.isub, 1) := by decide +kernel
theorem dX6_run_53 : decode cX6_run 53 = .ok (.iaload, 1) := by decide +kernel
theorem dX6_run_54 : decode cX6_run 54 = .ok (.iastore, 1) := by decide +kernel
theorem dX6_run_55 : decode cX6_run 55 = .ok (.goto 19, 3) := by decide +kernel
theorem dX6_run_58 : decode cX6_run 58 = .ok (.iload_n 2, 1) := by decide +kernel
theorem dX6_run_59 : decode cX6_run 59 = .ok (.ifCond .le 10, 3) := by decide +kernel
theorem dX6_run_62 : decode cX6_run 62 = .ok (.aload_n 0, 1) := by decide +kernel
theorem dX6_run_63 : decode cX6_run 63 = .ok (.getfield 19, 3) := by decide +kernel
theorem dX6_run_66 : decode cX6_run 66 = .ok (.invokevirtual 30, 3) := by decide +kernel
theorem dX6_run_69 : decode cX6_run 69 = .ok (.aload_n 0, 1) := by decide +kernel
theorem dX6_run_70 : decode cX6_run 70 = .ok (.iload_n 2, 1) := by decide +kernel
theorem dX6_run_71 : decode cX6_run 71 = .ok (.invokevirtual 35, 3) := by decide +kernel
theorem dX6_run_74 : decode cX6_run 74 = .ok (.iinc 2 1, 3) := by decide +kernel
theorem dX6_run_77 : decode cX6_run 77 = .ok (.goto (-65), 3) := by decide +kernel
theorem dX6_run_80 : decode cX6_run 80 = .ok (.return_, 1) := by decide +kernel
theorem dX6_keep_0 : decode cX6_keep 0 = .ok (.aload_n 0, 1) := by decide +kernel
theorem dX6_keep_1 : decode cX6_keep 1 = .ok (.getfield 15, 3) := by decide +kernel
theorem dX6_keep_4 : decode cX6_keep 4 = .ok (.iload_n 1, 1) := by decide +kernel
theorem dX6_keep_5 : decode cX6_keep 5 = .ok (.aload_n 0, 1) := by decide +kernel
theorem dX6_keep_6 : decode cX6_keep 6 = .ok (.getfield 19, 3) := by decide +kernel
theorem dX6_keep_9 : decode cX6_keep 9 = .ok (.invokevirtual 39, 3) := by decide +kernel
theorem dX6_keep_12 : decode cX6_keep 12 = .ok (.lastore, 1) := by decide +kernel
theorem dX6_keep_13 : decode cX6_keep 13 = .ok (.aload_n 0, 1) := by decide +kernel
theorem dX6_keep_14 : decode cX6_keep 14 = .ok (.getfield 9, 3) := by decide +kernel
theorem dX6_keep_17 : decode cX6_keep 17 = .ok (.iload_n 1, 1) := by decide +kernel
theorem dX6_keep_18 : decode cX6_keep 18 = .ok (.aload_n 0, 1) := by decide +kernel
theorem dX6_keep_19 : decode cX6_keep 19 = .ok (.getfield 19, 3) := by decide +kernel
theorem dX6_keep_22 : decode cX6_keep 22 = .ok (.invokevirtual 43, 3) := by decide +kernel
theorem dX6_keep_25 : decode cX6_keep 25 = .ok (.iastore, 1) := by decide +kernel
theorem dX6_keep_26 : decode cX6_keep 26 = .ok (.iconst 0, 1) := by decide +kernel
theorem dX6_keep_27 : decode cX6_keep 27 = .ok (.istore_n 2, 1) := by decide +kernel
theorem dX6_keep_28 : decode cX6_keep 28 = .ok (.iload_n 2, 1) := by decide +kernel
theorem dX6_keep_29 : decode cX6_keep 29 = .ok (.iload_n 1, 1) := by decide +kernel
theorem dX6_keep_30 : decode cX6_keep 30 = .ok (.if_icmp .ge 38, 3) := by decide +kernel
theorem dX6_keep_33 : decode cX6_keep 33 = .ok (.aload_n 0, 1) := by decide +kernel
theorem dX6_keep_34 : decode cX6_keep 34 = .ok (.getfield 15, 3) := by decide +kernel
theorem dX6_keep_37 : decode cX6_keep 37 = .ok (.iload_n 2, 1) := by decide +kernel
theorem dX6_keep_38 : decode cX6_keep 38 = .ok (.laload, 1) := by decide +kernel
theorem dX6_keep_39 : decode cX6_keep 39 = .ok (.aload_n 0, 1) := by decide +kernel
theorem dX6_keep_40 : decode cX6_keep 40 = .ok (.getfield 15, 3) := by decide +kernel
theorem dX6_keep_43 : decode cX6_keep 43 = .ok (.iload_n 1, 1) := by decide +kernel
theorem dX6_keep_44 : decode cX6_keep 44 = .ok (.laload, 1) := by decide +kernel
theorem dX6_keep_45 : decode cX6_keep 45 = .ok (.lcmp, 1) := by decide +kernel
theorem dX6_keep_46 : decode cX6_keep 46 = .ok (.ifCond .ne 16, 3) := by decide +kernel
theorem dX6_keep_49 : decode cX6_keep 49 = .ok (.aload_n 0, 1) := by decide +kernel
theorem dX6_keep_50 : decode cX6_keep 50 = .ok (.iload_n 2, 1) := by decide +kernel
theorem dX6_keep_51 : decode cX6_keep 51 = .ok (.putfield 23, 3) := by decide +kernel
theorem dX6_keep_54 : decode cX6_keep 54 = .ok (.aload_n 0, 1) := by decide +kernel
theorem dX6_keep_55 : decode cX6_keep 55 = .ok (.iload_n 1, 1) := by decide +kernel
theorem dX6_keep_56 : decode cX6_keep 56 = .ok (.iload_n 2, 1) := by decide +kernel
theorem dX6_keep_57 : decode cX6_keep 57 = .ok (.isub, 1) := by decide +kernel
theorem dX6_keep_58 : decode cX6_keep 58 = .ok (.putfield 27, 3) := by decide +kernel
theorem dX6_keep_61 : decode cX6_keep 61 = .ok (.return_, 1) := by decide +kernel
theorem dX6_keep_62 : decode cX6_keep 62 = .ok (.iinc 2 1, 3) := by decide +kernel
theorem dX6_keep_65 : decode cX6_keep 65 = .ok (.goto (-37), 3) := by decide +kernel
theorem dX6_keep_68 : decode cX6_keep 68 = .ok (.return_, 1) := by decide +kernel
theorem dJ6_bitCount_0f7a4_0 : decode cJ6_bitCount_0f7a4 0 = .ok (.iload_n 0, 1) := by decide +kernel
theorem dJ6_bitCount_0f7a4_1 : decode cJ6_bitCount_0f7a4 1 = .ok (.iload_n 0, 1) := by decide +kernel
theorem dJ6_bitCount_0f7a4_2 : decode cJ6_bitCount_0f7a4 2 = .ok (.iconst 1, 1) := by decide +kernel
theorem dJ6_bitCount_0f7a4_3 : decode cJ6_bitCount_0f7a4 3 = .ok (.iushr, 1) := by decide +kernel
theorem dJ6_bitCount_0f7a4_4 : decode cJ6_bitCount_0f7a4 4 = .ok (.ldc_w 265, 3) := by decide +kernel
theorem dJ6_bitCount_0f7a4_7 : decode cJ6_bitCount_0f7a4 7 = .ok (.iand, 1) := by decide +kernel
theorem dJ6_bitCount_0f7a4_8 : decode cJ6_bitCount_0f7a4 8 = .ok (.isub, 1) := by decide +kernel
theorem dJ6_bitCount_0f7a4_9 : decode cJ6_bitCount_0f7a4 9 = .ok (.istore_n 0, 1) := by decide +kernel
theorem dJ6_bitCount_0f7a4_10 : decode cJ6_bitCount_0f7a4 10 = .ok (.iload_n 0, 1) := by decide +kernel
theorem dJ6_bitCount_0f7a4_11 : decode cJ6_bitCount_0f7a4 11 = .ok (.ldc_w 266, 3) := by decide +kernel
theorem dJ6_bitCount_0f7a4_14 : decode cJ6_bitCount_0f7a4 14 = .ok (.iand, 1) := by decide +kernel
theorem dJ6_bitCount_0f7a4_15 : decode cJ6_bitCount_0f7a4 15 = .ok (.iload_n 0, 1) := by decide +kernel
theorem dJ6_bitCount_0f7a4_16 : decode cJ6_bitCount_0f7a4 16 = .ok (.iconst 2, 1) := by decide +kernel
theorem dJ6_bitCount_0f7a4_17 : decode cJ6_bitCount_0f7a4 17 = .ok (.iushr, 1) := by decide +kernel
theorem dJ6_bitCount_0f7a4_18 : decode cJ6_bitCount_0f7a4 18 = .ok (.ldc_w 266, 3) := by decide +kernel
theorem dJ6_bitCount_0f7a4_21 : decode cJ6_bitCount_0f7a4 21 = .ok (.iand, 1) := by decide +kernel
theorem dJ6_bitCount_0f7a4_22 : decode cJ6_bitCount_0f7a4 22 = .ok (.iadd, 1) := by decide +kernel
theorem dJ6_bitCount_0f7a4_23 : decode cJ6_bitCount_0f7a4 23 = .ok (.istore_n 0, 1) := by decide +kernel
theorem dJ6_bitCount_0f7a4_24 : decode cJ6_bitCount_0f7a4 24 = .ok (.iload_n 0, 1) := by decide +kernel
theorem dJ6_bitCount_0f7a4_25 : decode cJ6_bitCount_0f7a4 25 = .ok (.iload_n 0, 1) := by decide +kernel
theorem dJ6_bitCount_0f7a4_26 : decode cJ6_bitCount_0f7a4 26 = .ok (.iconst 4, 1) := by decide +kernel
theorem dJ6_bitCount_0f7a4_27 : decode cJ6_bitCount_0f7a4 27 = .ok (.iushr, 1) := by decide +kernel
theorem dJ6_bitCount_0f7a4_28 : decode cJ6_bitCount_0f7a4 28 = .ok (.iadd, 1) := by decide +kernel
theorem dJ6_bitCount_0f7a4_29 : decode cJ6_bitCount_0f7a4 29 = .ok (.ldc_w 267, 3) := by decide +kernel
theorem dJ6_bitCount_0f7a4_32 : decode cJ6_bitCount_0f7a4 32 = .ok (.iand, 1) := by decide +kernel
theorem dJ6_bitCount_0f7a4_33 : decode cJ6_bitCount_0f7a4 33 = .ok (.istore_n 0, 1) := by decide +kernel
theorem dJ6_bitCount_0f7a4_34 : decode cJ6_bitCount_0f7a4 34 = .ok (.iload_n 0, 1) := by decide +kernel
theorem dJ6_bitCount_0f7a4_35 : decode cJ6_bitCount_0f7a4 35 = .ok (.iload_n 0, 1) := by decide +kernel
theorem dJ6_bitCount_0f7a4_36 : decode cJ6_bitCount_0f7a4 36 = .ok (.bipush 8, 2) := by decide +kernel
theorem dJ6_bitCount_0f7a4_38 : decode cJ6_bitCount_0f7a4 38 = .ok (.iushr, 1) := by decide +kernel
theorem dJ6_bitCount_0f7a4_39 : decode cJ6_bitCount_0f7a4 39 = .ok (.iadd, 1) := by decide +kernel
theorem dJ6_bitCount_0f7a4_40 : decode cJ6_bitCount_0f7a4 40 = .ok (.istore_n 0, 1) := by decide +kernel
theorem dJ6_bitCount_0f7a4_41 : decode cJ6_bitCount_0f7a4 41 = .ok (.iload_n 0, 1) := by decide +kernel
theorem dJ6_bitCount_0f7a4_42 : decode cJ6_bitCount_0f7a4 42 = .ok (.iload_n 0, 1) := by decide +kernel
theorem dJ6_bitCount_0f7a4_43 : decode cJ6_bitCount_0f7a4 43 = .ok (.bipush 16, 2) := by decide +kernel
theorem dJ6_bitCount_0f7a4_45 : decode cJ6_bitCount_0f7a4 45 = .ok (.iushr, 1) := by decide +kernel
theorem dJ6_bitCount_0f7a4_46 : decode cJ6_bitCount_0f7a4 46 = .ok (.iadd, 1) := by decide +kernel
theorem dJ6_bitCount_0f7a4_47 : decode cJ6_bitCount_0f7a4 47 = .ok (.istore_n 0, 1) := by decide +kernel
theorem dJ6_bitCount_0f7a4_48 : decode cJ6_bitCount_0f7a4 48 = .ok (.iload_n 0, 1) := by decide +kernel
theorem dJ6_bitCount_0f7a4_49 : decode cJ6_bitCount_0f7a4 49 = .ok (.bipush 63, 2) := by decide +kernel
theorem dJ6_bitCount_0f7a4_51 : decode cJ6_bitCount_0f7a4 51 = .ok (.iand, 1) := by decide +kernel
theorem dJ6_bitCount_0f7a4_52 : decode cJ6_bitCount_0f7a4 52 = .ok (.ireturn, 1) := by decide +kernel
theorem dJ9_abs_0f7a4_0 : decode cJ9_abs_0f7a4 0 = .ok (.iload_n 0, 1) := by decide +kernel
theorem dJ9_abs_0f7a4_1 : decode cJ9_abs_0f7a4 1 = .ok (.ifCond .ge 8, 3) := by decide +kernel
theorem dJ9_abs_0f7a4_4 : decode cJ9_abs_0f7a4 4 = .ok (.iload_n 0, 1) := by decide +kernel
theorem dJ9_abs_0f7a4_5 : decode cJ9_abs_0f7a4 5 = .ok (.ineg, 1) := by decide +kernel
theorem dJ9_abs_0f7a4_6 : decode cJ9_abs_0f7a4 6 = .ok (.goto 4, 3) := by decide +kernel
theorem dJ9_abs_0f7a4_9 : decode cJ9_abs_0f7a4 9 = .ok (.iload_n 0, 1) := by decide +kernel
theorem dJ9_abs_0f7a4_10 : decode cJ9_abs_0f7a4 10 = .ok (.ireturn, 1) := by decide +kernel
theorem dJ9_max_7cf53_0 : decode cJ9_max_7cf53 0 = .ok (.iload_n 0, 1) := by decide +kernel
theorem dJ9_max_7cf53_1 : decode cJ9_max_7cf53 1 = .ok (.iload_n 1, 1) := by decide +kernel
theorem dJ9_max_7cf53_2 : decode cJ9_max_7cf53 2 = .ok (.if_icmp .lt 7, 3) := by decide +kernel
theorem dJ9_max_7cf53_5 : decode cJ9_max_7cf53 5 = .ok (.iload_n 0, 1) := by decide +kernel
theorem dJ9_max_7cf53_6 : decode cJ9_max_7cf53 6 = .ok (.goto 4, 3) := by decide +kernel
theorem dJ9_max_7cf53_9 : decode cJ9_max_7cf53 9 = .ok (.iload_n 1, 1) := by decide +kernel
theorem dJ9_max_7cf53_10 : decode cJ9_max_7cf53 10 = .ok (.ireturn, 1) := by decide +kernel
theorem dJ9_min_7cf53_0 : decode cJ9_min_7cf53 0 = .ok (.iload_n 0, 1) := by decide +kernel
theorem dJ9_min_7cf53_1 : decode cJ9_min_7cf53 1 = .ok (.iload_n 1, 1) := by decide +kernel
theorem dJ9_min_7cf53_2 : decode cJ9_min_7cf53 2 = .ok (.if_icmp .gt 7, 3) := by decide +kernel
theorem dJ9_min_7cf53_5 : decode cJ9_min_7cf53 5 = .ok (.iload_n 0, 1) := by decide +kernel
theorem dJ9_min_7cf53_6 : decode cJ9_min_7cf53 6 = .ok (.goto 4, 3) := by decide +kernel
theorem dJ9_min_7cf53_9 : decode cJ9_min_7cf53 9 = .ok (.iload_n 1, 1) := by decide +kernel
theorem dJ9_min_7cf53_10 : decode cJ9_min_7cf53 10 = .ok (.ireturn, 1) := by decide +kernel
