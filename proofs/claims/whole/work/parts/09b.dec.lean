theorem dX7_init_0 : decode cX7_init 0 = .ok (.aload_n 0, 1) := by decide +kernel
theorem dX7_init_1 : decode cX7_init 1 = .ok (.invokespecial 3, 3) := by decide +kernel
theorem dX7_init_4 : decode cX7_init 4 = .ok (.aload_n 0, 1) := by decide +kernel
theorem dX7_init_5 : decode cX7_init 5 = .ok (.new 9, 3) := by decide +kernel
theorem dX7_init_8 : decode cX7_init 8 = .ok (.dup, 1) := by decide +kernel
theorem dX7_init_9 : decode cX7_init 9 = .ok (.invokespecial 11, 3) := by decide +kernel
theorem dX7_init_12 : decode cX7_init 12 = .ok (.putfield 12, 3) := by decide +kernel
theorem dX7_init_15 : decode cX7_init 15 = .ok (.aload_n 0, 1) := by decide +kernel
theorem dX7_init_16 : decode cX7_init 16 = .ok (.new 16, 3) := by decide +kernel
theorem dX7_init_19 : decode cX7_init 19 = .ok (.dup, 1) := by decide +kernel
theorem dX7_init_20 : decode cX7_init 20 = .ok (.invokespecial 18, 3) := by decide +kernel
theorem dX7_init_23 : decode cX7_init 23 = .ok (.putfield 19, 3) := by decide +kernel
theorem dX7_init_26 : decode cX7_init 26 = .ok (.aload_n 0, 1) := by decide +kernel
theorem dX7_init_27 : decode cX7_init 27 = .ok (.new 23, 3) := by decide +kernel
theorem dX7_init_30 : decode cX7_init 30 = .ok (.dup, 1) := by decide +kernel
theorem dX7_init_31 : decode cX7_init 31 = .ok (.aload_n 0, 1) := by decide +kernel
theorem dX7_init_32 : decode cX7_init 32 = .ok (.getfield 12, 3) := by decide +kernel
theorem dX7_init_35 : decode cX7_init 35 = .ok (.aload_n 0, 1) := by decide +kernel
theorem dX7_init_36 : decode cX7_init 36 = .ok (.getfield 19, 3) := by decide +kernel
theorem dX7_init_39 : decode cX7_init 39 = .ok (.invokespecial 25, 3) := by decide +kernel
theorem dX7_init_42 : decode cX7_init 42 = .ok (.putfield 28, 3) := by decide +kernel
theorem dX7_init_45 : decode cX7_init 45 = .ok (.aload_n 0, 1) := by decide +kernel
theorem dX7_init_46 : decode cX7_init 46 = .ok (.new 23, 3) := by decide +kernel
theorem dX7_init_49 : decode cX7_init 49 = .ok (.dup, 1) := by decide +kernel
theorem dX7_init_50 : decode cX7_init 50 = .ok (.aload_n 0, 1) := by decide +kernel
theorem dX7_init_51 : decode cX7_init 51 = .ok (.getfield 12, 3) := by decide +kernel
theorem dX7_init_54 : decode cX7_init 54 = .ok (.aload_n 0, 1) := by decide +kernel
theorem dX7_init_55 : decode cX7_init 55 = .ok (.getfield 19, 3) := by decide +kernel
theorem dX7_init_58 : decode cX7_init 58 = .ok (.invokespecial 25, 3) := by decide +kernel
theorem dX7_init_61 : decode cX7_init 61 = .ok (.putfield 32, 3) := by decide +kernel
theorem dX7_init_64 : decode cX7_init 64 = .ok (.aload_n 0, 1) := by decide +kernel
theorem dX7_init_65 : decode cX7_init 65 = .ok (.new 35, 3) := by decide +kernel
theorem dX7_init_68 : decode cX7_init 68 = .ok (.dup, 1) := by decide +kernel
theorem dX7_init_69 : decode cX7_init 69 = .ok (.aload_n 0, 1) := by decide +kernel
theorem dX7_init_70 : decode cX7_init 70 = .ok (.getfield 32, 3) := by decide +kernel
theorem dX7_init_73 : decode cX7_init 73 = .ok (.invokespecial 37, 3) := by decide +kernel
theorem dX7_init_76 : decode cX7_init 76 = .ok (.putfield 40, 3) := by decide +kernel
theorem dX7_init_79 : decode cX7_init 79 = .ok (.aload_n 0, 1) := by decide +kernel
theorem dX7_init_80 : decode cX7_init 80 = .ok (.new 44, 3) := by decide +kernel
theorem dX7_init_83 : decode cX7_init 83 = .ok (.dup, 1) := by decide +kernel
theorem dX7_init_84 : decode cX7_init 84 = .ok (.aload_n 0, 1) := by decide +kernel
theorem dX7_init_85 : decode cX7_init 85 = .ok (.getfield 32, 3) := by decide +kernel
theorem dX7_init_88 : decode cX7_init 88 = .ok (.invokespecial 46, 3) := by decide +kernel
theorem dX7_init_91 : decode cX7_init 91 = .ok (.putfield 47, 3) := by decide +kernel
theorem dX7_init_94 : decode cX7_init 94 = .ok (.aload_n 0, 1) := by decide +kernel
theorem dX7_init_95 : decode cX7_init 95 = .ok (.new 51, 3) := by decide +kernel
theorem dX7_init_98 : decode cX7_init 98 = .ok (.dup, 1) := by decide +kernel
theorem dX7_init_99 : decode cX7_init 99 = .ok (.aload_n 0, 1) := by decide +kernel
theorem dX7_init_100 : decode cX7_init 100 = .ok (.getfield 12, 3) := by decide +kernel
theorem dX7_init_103 : decode cX7_init 103 = .ok (.aload_n 0, 1) := by decide +kernel
theorem dX7_init_104 : decode cX7_init 104 = .ok (.getfield 32, 3) := by decide +kernel
theorem dX7_init_107 : decode cX7_init 107 = .ok (.invokespecial 53, 3) := by decide +kernel
theorem dX7_init_110 : decode cX7_init 110 = .ok (.putfield 56, 3) := by decide +kernel
theorem dX7_init_113 : decode cX7_init 113 = .ok (.aload_n 0, 1) := by decide +kernel
theorem dX7_init_114 : decode cX7_init 114 = .ok (.new 60, 3) := by decide +kernel
theorem dX7_init_117 : decode cX7_init 117 = .ok (.dup, 1) := by decide +kernel
theorem dX7_init_118 : decode cX7_init 118 = .ok (.invokespecial 62, 3) := by decide +kernel
theorem dX7_init_121 : decode cX7_init 121 = .ok (.putfield 63, 3) := by decide +kernel
theorem dX7_init_124 : decode cX7_init 124 = .ok (.return_, 1) := by decide +kernel
theorem dX7_comer_0 : decode cX7_comer 0 = .ok (.iload_n 1, 1) := by decide +kernel
theorem dX7_comer_1 : decode cX7_comer 1 = .ok (.iload_n 2, 1) := by decide +kernel
theorem dX7_comer_2 : decode cX7_comer 2 = .ok (.iload_n 3, 1) := by decide +kernel
theorem dX7_comer_3 : decode cX7_comer 3 = .ok (.invokestatic 67, 3) := by decide +kernel
theorem dX7_comer_6 : decode cX7_comer 6 = .ok (.ifCond .ne 6, 3) := by decide +kernel
theorem dX7_comer_9 : decode cX7_comer 9 = .ok (.bipush (-2), 2) := by decide +kernel
theorem dX7_comer_11 : decode cX7_comer 11 = .ok (.ireturn, 1) := by decide +kernel
theorem dX7_comer_12 : decode cX7_comer 12 = .ok (.aload_n 0, 1) := by decide +kernel
theorem dX7_comer_13 : decode cX7_comer 13 = .ok (.getfield 12, 3) := by decide +kernel
theorem dX7_comer_16 : decode cX7_comer 16 = .ok (.getfield 71, 3) := by decide +kernel
theorem dX7_comer_19 : decode cX7_comer 19 = .ok (.istore 4, 2) := by decide +kernel
theorem dX7_comer_21 : decode cX7_comer 21 = .ok (.iload 4, 2) := by decide +kernel
theorem dX7_comer_23 : decode cX7_comer 23 = .ok (.ifCond .lt 10, 3) := by decide +kernel
theorem dX7_comer_26 : decode cX7_comer 26 = .ok (.iload 4, 2) := by decide +kernel
theorem dX7_comer_28 : decode cX7_comer 28 = .ok (.bipush 8, 2) := by decide +kernel
theorem dX7_comer_30 : decode cX7_comer 30 = .ok (.if_icmp .lt 6, 3) := by decide +kernel
theorem dX7_comer_33 : decode cX7_comer 33 = .ok (.bipush (-4), 2) := by decide +kernel
theorem dX7_comer_35 : decode cX7_comer 35 = .ok (.ireturn, 1) := by decide +kernel
theorem dX7_comer_36 : decode cX7_comer 36 = .ok (.aload_n 0, 1) := by decide +kernel
theorem dX7_comer_37 : decode cX7_comer 37 = .ok (.getfield 12, 3) := by decide +kernel
theorem dX7_comer_40 : decode cX7_comer 40 = .ok (.iload 4, 2) := by decide +kernel
theorem dX7_comer_42 : decode cX7_comer 42 = .ok (.iconst 1, 1) := by decide +kernel
theorem dX7_comer_43 : decode cX7_comer 43 = .ok (.iadd, 1) := by decide +kernel
theorem dX7_comer_44 : decode cX7_comer 44 = .ok (.putfield 71, 3) := by decide +kernel
theorem dX7_comer_47 : decode cX7_comer 47 = .ok (.aload_n 0, 1) := by decide +kernel
theorem dX7_comer_48 : decode cX7_comer 48 = .ok (.getfield 12, 3) := by decide +kernel
theorem dX7_comer_51 : decode cX7_comer 51 = .ok (.getfield 75, 3) := by decide +kernel
theorem dX7_comer_54 : decode cX7_comer 54 = .ok (.iload 4, 2) := by decide +kernel
theorem dX7_comer_56 : decode cX7_comer 56 = .ok (.iload_n 1, 1) := by decide +kernel
theorem dX7_comer_57 : decode cX7_comer 57 = .ok (.iconst 2, 1) := by decide +kernel
theorem dX7_comer_58 : decode cX7_comer 58 = .ok (.if_icmp .ne 7, 3) := by decide +kernel
theorem dX7_comer_61 : decode cX7_comer 61 = .ok (.iload_n 2, 1) := by decide +kernel
theorem dX7_comer_62 : decode cX7_comer 62 = .ok (.goto 4, 3) := by decide +kernel
theorem dX7_comer_65 : decode cX7_comer 65 = .ok (.iconst 0, 1) := by decide +kernel
theorem dX7_comer_66 : decode cX7_comer 66 = .ok (.iastore, 1) := by decide +kernel
theorem dX7_comer_67 : decode cX7_comer 67 = .ok (.aload_n 0, 1) := by decide +kernel
theorem dX7_comer_68 : decode cX7_comer 68 = .ok (.getfield 12, 3) := by decide +kernel
theorem dX7_comer_71 : decode cX7_comer 71 = .ok (.getfield 79, 3) := by decide +kernel
theorem dX7_comer_74 : decode cX7_comer 74 = .ok (.iload 4, 2) := by decide +kernel
theorem dX7_comer_76 : decode cX7_comer 76 = .ok (.iload_n 1, 1) := by decide +kernel
theorem dX7_comer_77 : decode cX7_comer 77 = .ok (.iconst 2, 1) := by decide +kernel
theorem dX7_comer_78 : decode cX7_comer 78 = .ok (.if_icmp .ne 7, 3) := by decide +kernel
theorem dX7_comer_81 : decode cX7_comer 81 = .ok (.iload_n 3, 1) := by decide +kernel
theorem dX7_comer_82 : decode cX7_comer 82 = .ok (.goto 4, 3) := by decide +kernel
theorem dX7_comer_85 : decode cX7_comer 85 = .ok (.iconst 0, 1) := by decide +kernel
theorem dX7_comer_86 : decode cX7_comer 86 = .ok (.iastore, 1) := by decide +kernel
theorem dX7_comer_87 : decode cX7_comer 87 = .ok (.aload_n 0, 1) := by decide +kernel
theorem dX7_comer_88 : decode cX7_comer 88 = .ok (.getfield 28, 3) := by decide +kernel
theorem dX7_comer_91 : decode cX7_comer 91 = .ok (.getfield 82, 3) := by decide +kernel
theorem dX7_comer_94 : decode cX7_comer 94 = .ok (.iload 4, 2) := by decide +kernel
theorem dX7_comer_96 : decode cX7_comer 96 = .ok (.iload_n 1, 1) := by decide +kernel
theorem dX7_comer_97 : decode cX7_comer 97 = .ok (.iastore, 1) := by decide +kernel
theorem dX7_comer_98 : decode cX7_comer 98 = .ok (.aload_n 0, 1) := by decide +kernel
theorem dX7_comer_99 : decode cX7_comer 99 = .ok (.getfield 28, 3) := by decide +kernel
theorem dX7_comer_102 : decode cX7_comer 102 = .ok (.getfield 85, 3) := by decide +kernel
theorem dX7_comer_105 : decode cX7_comer 105 = .ok (.iload 4, 2) := by decide +kernel
theorem dX7_comer_107 : decode cX7_comer 107 = .ok (.iload_n 1, 1) := by decide +kernel
theorem dX7_comer_108 : decode cX7_comer 108 = .ok (.ifCond .ne 7, 3) := by decide +kernel
theorem dX7_comer_111 : decode cX7_comer 111 = .ok (.iload_n 2, 1) := by decide +kernel
theorem dX7_comer_112 : decode cX7_comer 112 = .ok (.goto 4, 3) := by decide +kernel
theorem dX7_comer_115 : decode cX7_comer 115 = .ok (.iconst 0, 1) := by decide +kernel
theorem dX7_comer_116 : decode cX7_comer 116 = .ok (.iastore, 1) := by decide +kernel
theorem dX7_comer_117 : decode cX7_comer 117 = .ok (.iload 4, 2) := by decide +kernel
theorem dX7_comer_119 : decode cX7_comer 119 = .ok (.ireturn, 1) := by decide +kernel
theorem dX7_aim_0 : decode cX7_aim 0 = .ok (.aload_n 0, 1) := by decide +kernel
theorem dX7_aim_1 : decode cX7_aim 1 = .ok (.iload_n 1, 1) := by decide +kernel
theorem dX7_aim_2 : decode cX7_aim 2 = .ok (.invokevirtual 88, 3) := by decide +kernel
theorem dX7_aim_5 : decode cX7_aim 5 = .ok (.ifCond .eq 10, 3) := by decide +kernel
theorem dX7_aim_8 : decode cX7_aim 8 = .ok (.iload_n 2, 1) := by decide +kernel
theorem dX7_aim_9 : decode cX7_aim 9 = .ok (.invokestatic 92, 3) := by decide +kernel
theorem dX7_aim_12 : decode cX7_aim 12 = .ok (.ifCond .ne 6, 3) := by decide +kernel
theorem dX7_aim_15 : decode cX7_aim 15 = .ok (.bipush (-2), 2) := by decide +kernel
theorem dX7_aim_17 : decode cX7_aim 17 = .ok (.ireturn, 1) := by decide +kernel
theorem dX7_aim_18 : decode cX7_aim 18 = .ok (.aload_n 0, 1) := by decide +kernel
theorem dX7_aim_19 : decode cX7_aim 19 = .ok (.getfield 28, 3) := by decide +kernel
theorem dX7_aim_22 : decode cX7_aim 22 = .ok (.getfield 85, 3) := by decide +kernel
theorem dX7_aim_25 : decode cX7_aim 25 = .ok (.iload_n 1, 1) := by decide +kernel
theorem dX7_aim_26 : decode cX7_aim 26 = .ok (.iaload, 1) := by decide +kernel
theorem dX7_aim_27 : decode cX7_aim 27 = .ok (.istore_n 3, 1) := by decide +kernel
theorem dX7_aim_28 : decode cX7_aim 28 = .ok (.aload_n 0, 1) := by decide +kernel
theorem dX7_aim_29 : decode cX7_aim 29 = .ok (.getfield 28, 3) := by decide +kernel
theorem dX7_aim_32 : decode cX7_aim 32 = .ok (.getfield 85, 3) := by decide +kernel
theorem dX7_aim_35 : decode cX7_aim 35 = .ok (.iload_n 1, 1) := by decide +kernel
theorem dX7_aim_36 : decode cX7_aim 36 = .ok (.iload_n 2, 1) := by decide +kernel
theorem dX7_aim_37 : decode cX7_aim 37 = .ok (.iastore, 1) := by decide +kernel
theorem dX7_aim_38 : decode cX7_aim 38 = .ok (.iload_n 3, 1) := by decide +kernel
theorem dX7_aim_39 : decode cX7_aim 39 = .ok (.ireturn, 1) := by decide +kernel
theorem dX7_read_0 : decode cX7_read 0 = .ok (.iload_n 1, 1) := by decide +kernel
theorem dX7_read_1 : decode cX7_read 1 = .ok (.invokestatic 95, 3) := by decide +kernel
theorem dX7_read_4 : decode cX7_read 4 = .ok (.ifCond .ne 6, 3) := by decide +kernel
theorem dX7_read_7 : decode cX7_read 7 = .ok (.bipush (-2), 2) := by decide +kernel
theorem dX7_read_9 : decode cX7_read 9 = .ok (.ireturn, 1) := by decide +kernel
theorem dX7_read_10 : decode cX7_read 10 = .ok (.aload_n 0, 1) := by decide +kernel
theorem dX7_read_11 : decode cX7_read 11 = .ok (.getfield 63, 3) := by decide +kernel
theorem dX7_read_14 : decode cX7_read 14 = .ok (.iload_n 1, 1) := by decide +kernel
theorem dX7_read_15 : decode cX7_read 15 = .ok (.invokevirtual 98, 3) := by decide +kernel
theorem dX7_read_18 : decode cX7_read 18 = .ok (.ifCond .eq 12, 3) := by decide +kernel
theorem dX7_read_21 : decode cX7_read 21 = .ok (.aload_n 0, 1) := by decide +kernel
theorem dX7_read_22 : decode cX7_read 22 = .ok (.getfield 63, 3) := by decide +kernel
theorem dX7_read_25 : decode cX7_read 25 = .ok (.iconst 1, 1) := by decide +kernel
theorem dX7_read_26 : decode cX7_read 26 = .ok (.invokevirtual 101, 3) := by decide +kernel
theorem dX7_read_29 : decode cX7_read 29 = .ok (.ireturn, 1) := by decide +kernel
theorem dX7_read_30 : decode cX7_read 30 = .ok (.iconst 0, 1) := by decide +kernel
theorem dX7_read_31 : decode cX7_read 31 = .ok (.istore_n 2, 1) := by decide +kernel
theorem dX7_read_32 : decode cX7_read 32 = .ok (.iconst 0, 1) := by decide +kernel
theorem dX7_read_33 : decode cX7_read 33 = .ok (.istore_n 3, 1) := by decide +kernel
theorem dX7_read_34 : decode cX7_read 34 = .ok (.iload_n 3, 1) := by decide +kernel
theorem dX7_read_35 : decode cX7_read 35 = .ok (.bipush 8, 2) := by decide +kernel
theorem dX7_read_37 : decode cX7_read 37 = .ok (.if_icmp .ge 80, 3) := by decide +kernel
theorem dX7_read_40 : decode cX7_read 40 = .ok (.aload_n 0, 1) := by decide +kernel
theorem dX7_read_41 : decode cX7_read 41 = .ok (.getfield 28, 3) := by decide +kernel
theorem dX7_read_44 : decode cX7_read 44 = .ok (.getfield 82, 3) := by decide +kernel
theorem dX7_read_47 : decode cX7_read 47 = .ok (.iload_n 3, 1) := by decide +kernel
theorem dX7_read_48 : decode cX7_read 48 = .ok (.iaload, 1) := by decide +kernel
theorem dX7_read_49 : decode cX7_read 49 = .ok (.ifCond .eq 6, 3) := by decide +kernel
theorem dX7_read_52 : decode cX7_read 52 = .ok (.goto 59, 3) := by decide +kernel
theorem dX7_read_55 : decode cX7_read 55 = .ok (.iload_n 2, 1) := by decide +kernel
theorem dX7_read_56 : decode cX7_read 56 = .ok (.aload_n 0, 1) := by decide +kernel
theorem dX7_read_57 : decode cX7_read 57 = .ok (.getfield 63, 3) := by decide +kernel
theorem dX7_read_60 : decode cX7_read 60 = .ok (.getfield 105, 3) := by decide +kernel
theorem dX7_read_63 : decode cX7_read 63 = .ok (.iload_n 1, 1) := by decide +kernel
theorem dX7_read_64 : decode cX7_read 64 = .ok (.iaload, 1) := by decide +kernel
theorem dX7_read_65 : decode cX7_read 65 = .ok (.if_icmp .ge 52, 3) := by decide +kernel
theorem dX7_read_68 : decode cX7_read 68 = .ok (.aload_n 0, 1) := by decide +kernel
theorem dX7_read_69 : decode cX7_read 69 = .ok (.getfield 63, 3) := by decide +kernel
theorem dX7_read_72 : decode cX7_read 72 = .ok (.getfield 108, 3) := by decide +kernel
theorem dX7_read_75 : decode cX7_read 75 = .ok (.iload_n 1, 1) := by decide +kernel
theorem dX7_read_76 : decode cX7_read 76 = .ok (.aaload, 1) := by decide +kernel
theorem dX7_read_77 : decode cX7_read 77 = .ok (.iload_n 2, 1) := by decide +kernel
theorem dX7_read_78 : decode cX7_read 78 = .ok (.iaload, 1) := by decide +kernel
theorem dX7_read_79 : decode cX7_read 79 = .ok (.invokestatic 92, 3) := by decide +kernel
theorem dX7_read_82 : decode cX7_read 82 = .ok (.ifCond .ne 6, 3) := by decide +kernel
theorem dX7_read_85 : decode cX7_read 85 = .ok (.goto 32, 3) := by decide +kernel
theorem dX7_read_88 : decode cX7_read 88 = .ok (.aload_n 0, 1) := by decide +kernel
theorem dX7_read_89 : decode cX7_read 89 = .ok (.getfield 28, 3) := by decide +kernel
theorem dX7_read_92 : decode cX7_read 92 = .ok (.getfield 85, 3) := by decide +kernel
theorem dX7_read_95 : decode cX7_read 95 = .ok (.iload_n 3, 1) := by decide +kernel
theorem dX7_read_96 : decode cX7_read 96 = .ok (.aload_n 0, 1) := by decide +kernel
theorem dX7_read_97 : decode cX7_read 97 = .ok (.getfield 63, 3) := by decide +kernel
theorem dX7_read_100 : decode cX7_read 100 = .ok (.getfield 108, 3) := by decide +kernel
theorem dX7_read_103 : decode cX7_read 103 = .ok (.iload_n 1, 1) := by decide +kernel
theorem dX7_read_104 : decode cX7_read 104 = .ok (.aaload, 1) := by decide +kernel
theorem dX7_read_105 : decode cX7_read 105 = .ok (.iload_n 2, 1) := by decide +kernel
theorem dX7_read_106 : decode cX7_read 106 = .ok (.iaload, 1) := by decide +kernel
theorem dX7_read_107 : decode cX7_read 107 = .ok (.iastore, 1) := by decide +kernel
theorem dX7_read_108 : decode cX7_read 108 = .ok (.iinc 2 1, 3) := by decide +kernel
theorem dX7_read_111 : decode cX7_read 111 = .ok (.iinc 3 1, 3) := by decide +kernel
theorem dX7_read_114 : decode cX7_read 114 = .ok (.goto (-80), 3) := by decide +kernel
theorem dX7_read_117 : decode cX7_read 117 = .ok (.iload_n 2, 1) := by decide +kernel
theorem dX7_read_118 : decode cX7_read 118 = .ok (.ireturn, 1) := by decide +kernel
theorem dX7_cost_0 : decode cX7_cost 0 = .ok (.aload_n 0, 1) := by decide +kernel
theorem dX7_cost_1 : decode cX7_cost 1 = .ok (.iload_n 1, 1) := by decide +kernel
theorem dX7_cost_2 : decode cX7_cost 2 = .ok (.invokevirtual 112, 3) := by decide +kernel
theorem dX7_cost_5 : decode cX7_cost 5 = .ok (.ifCond .eq 30, 3) := by decide +kernel
theorem dX7_cost_8 : decode cX7_cost 8 = .ok (.iload_n 2, 1) := by decide +kernel
theorem dX7_cost_9 : decode cX7_cost 9 = .ok (.ifCond .lt 26, 3) := by decide +kernel
theorem dX7_cost_12 : decode cX7_cost 12 = .ok (.iload_n 2, 1) := by decide +kernel
theorem dX7_cost_13 : decode cX7_cost 13 = .ok (.iconst 4, 1) := by decide +kernel
theorem dX7_cost_14 : decode cX7_cost 14 = .ok (.if_icmp .gt 21, 3) := by decide +kernel
theorem dX7_cost_17 : decode cX7_cost 17 = .ok (.iload_n 3, 1) := by decide +kernel
theorem dX7_cost_18 : decode cX7_cost 18 = .ok (.getstatic 115, 3) := by decide +kernel
theorem dX7_cost_21 : decode cX7_cost 21 = .ok (.iload_n 2, 1) := by decide +kernel
theorem dX7_cost_22 : decode cX7_cost 22 = .ok (.iaload, 1) := by decide +kernel
theorem dX7_cost_23 : decode cX7_cost 23 = .ok (.if_icmp .lt 12, 3) := by decide +kernel
theorem dX7_cost_26 : decode cX7_cost 26 = .ok (.iload_n 3, 1) := by decide +kernel
theorem dX7_cost_27 : decode cX7_cost 27 = .ok (.getstatic 118, 3) := by decide +kernel
theorem dX7_cost_30 : decode cX7_cost 30 = .ok (.iload_n 2, 1) := by decide +kernel
theorem dX7_cost_31 : decode cX7_cost 31 = .ok (.iaload, 1) := by decide +kernel
theorem dX7_cost_32 : decode cX7_cost 32 = .ok (.if_icmp .le 6, 3) := by decide +kernel
theorem dX7_cost_35 : decode cX7_cost 35 = .ok (.bipush (-2), 2) := by decide +kernel
theorem dX7_cost_37 : decode cX7_cost 37 = .ok (.ireturn, 1) := by decide +kernel
theorem dX7_cost_38 : decode cX7_cost 38 = .ok (.aload_n 0, 1) := by decide +kernel
theorem dX7_cost_39 : decode cX7_cost 39 = .ok (.getfield 28, 3) := by decide +kernel
theorem dX7_cost_42 : decode cX7_cost 42 = .ok (.getfield 82, 3) := by decide +kernel
theorem dX7_cost_45 : decode cX7_cost 45 = .ok (.iload_n 1, 1) := by decide +kernel
theorem dX7_cost_46 : decode cX7_cost 46 = .ok (.iaload, 1) := by decide +kernel
theorem dX7_cost_47 : decode cX7_cost 47 = .ok (.iconst 2, 1) := by decide +kernel
theorem dX7_cost_48 : decode cX7_cost 48 = .ok (.if_icmp .ne 16, 3) := by decide +kernel
theorem dX7_cost_51 : decode cX7_cost 51 = .ok (.iload_n 2, 1) := by decide +kernel
theorem dX7_cost_52 : decode cX7_cost 52 = .ok (.iconst 3, 1) := by decide +kernel
theorem dX7_cost_53 : decode cX7_cost 53 = .ok (.if_icmp .eq 8, 3) := by decide +kernel
theorem dX7_cost_56 : decode cX7_cost 56 = .ok (.iload_n 2, 1) := by decide +kernel
theorem dX7_cost_57 : decode cX7_cost 57 = .ok (.iconst 4, 1) := by decide +kernel
theorem dX7_cost_58 : decode cX7_cost 58 = .ok (.if_icmp .ne 6, 3) := by decide +kernel
theorem dX7_cost_61 : decode cX7_cost 61 = .ok (.bipush (-2), 2) := by decide +kernel
theorem dX7_cost_63 : decode cX7_cost 63 = .ok (.ireturn, 1) := by decide +kernel
theorem dX7_cost_64 : decode cX7_cost 64 = .ok (.aload_n 0, 1) := by decide +kernel
theorem dX7_cost_65 : decode cX7_cost 65 = .ok (.getfield 12, 3) := by decide +kernel
theorem dX7_cost_68 : decode cX7_cost 68 = .ok (.getfield 121, 3) := by decide +kernel
theorem dX7_cost_71 : decode cX7_cost 71 = .ok (.iload_n 2, 1) := by decide +kernel
theorem dX7_cost_72 : decode cX7_cost 72 = .ok (.aaload, 1) := by decide +kernel
theorem dX7_cost_73 : decode cX7_cost 73 = .ok (.iload_n 1, 1) := by decide +kernel
theorem dX7_cost_74 : decode cX7_cost 74 = .ok (.iaload, 1) := by decide +kernel
theorem dX7_cost_75 : decode cX7_cost 75 = .ok (.istore 4, 2) := by decide +kernel
theorem dX7_cost_77 : decode cX7_cost 77 = .ok (.aload_n 0, 1) := by decide +kernel
theorem dX7_cost_78 : decode cX7_cost 78 = .ok (.getfield 12, 3) := by decide +kernel
theorem dX7_cost_81 : decode cX7_cost 81 = .ok (.getfield 121, 3) := by decide +kernel
theorem dX7_cost_84 : decode cX7_cost 84 = .ok (.iload_n 2, 1) := by decide +kernel
theorem dX7_cost_85 : decode cX7_cost 85 = .ok (.aaload, 1) := by decide +kernel
theorem dX7_cost_86 : decode cX7_cost 86 = .ok (.iload_n 1, 1) := by decide +kernel
theorem dX7_cost_87 : decode cX7_cost 87 = .ok (.iload_n 3, 1) := by decide +kernel
theorem dX7_cost_88 : decode cX7_cost 88 = .ok (.iastore, 1) := by decide +kernel
theorem dX7_cost_89 : decode cX7_cost 89 = .ok (.iload 4, 2) := by decide +kernel
theorem dX7_cost_91 : decode cX7_cost 91 = .ok (.ireturn, 1) := by decide +kernel
theorem dX7_set_0 : decode cX7_set 0 = .ok (.iload_n 1, 1) := by decide +kernel
theorem dX7_set_1 : decode cX7_set 1 = .ok (.ifCond .lt 21, 3) := by decide +kernel
theorem dX7_set_4 : decode cX7_set 4 = .ok (.iload_n 1, 1) := by decide +kernel
theorem dX7_set_5 : decode cX7_set 5 = .ok (.iconst 2, 1) := by decide +kernel
theorem dX7_set_6 : decode cX7_set 6 = .ok (.if_icmp .gt 16, 3) := by decide +kernel
theorem dX7_set_9 : decode cX7_set 9 = .ok (.iload_n 2, 1) := by decide +kernel
theorem dX7_set_10 : decode cX7_set 10 = .ok (.ifCond .lt 12, 3) := by decide +kernel
theorem dX7_set_13 : decode cX7_set 13 = .ok (.iload_n 2, 1) := by decide +kernel
theorem dX7_set_14 : decode cX7_set 14 = .ok (.getstatic 124, 3) := by decide +kernel
theorem dX7_set_17 : decode cX7_set 17 = .ok (.iload_n 1, 1) := by decide +kernel
theorem dX7_set_18 : decode cX7_set 18 = .ok (.iaload, 1) := by decide +kernel
theorem dX7_set_19 : decode cX7_set 19 = .ok (.if_icmp .le 6, 3) := by decide +kernel
theorem dX7_set_22 : decode cX7_set 22 = .ok (.bipush (-2), 2) := by decide +kernel
theorem dX7_set_24 : decode cX7_set 24 = .ok (.ireturn, 1) := by decide +kernel
theorem dX7_set_25 : decode cX7_set 25 = .ok (.aload_n 0, 1) := by decide +kernel
theorem dX7_set_26 : decode cX7_set 26 = .ok (.getfield 28, 3) := by decide +kernel
theorem dX7_set_29 : decode cX7_set 29 = .ok (.getfield 127, 3) := by decide +kernel
theorem dX7_set_32 : decode cX7_set 32 = .ok (.iload_n 1, 1) := by decide +kernel
theorem dX7_set_33 : decode cX7_set 33 = .ok (.iaload, 1) := by decide +kernel
theorem dX7_set_34 : decode cX7_set 34 = .ok (.istore_n 3, 1) := by decide +kernel
theorem dX7_set_35 : decode cX7_set 35 = .ok (.aload_n 0, 1) := by decide +kernel
theorem dX7_set_36 : decode cX7_set 36 = .ok (.getfield 28, 3) := by decide +kernel
theorem dX7_set_39 : decode cX7_set 39 = .ok (.getfield 127, 3) := by decide +kernel
theorem dX7_set_42 : decode cX7_set 42 = .ok (.iload_n 1, 1) := by decide +kernel
theorem dX7_set_43 : decode cX7_set 43 = .ok (.iload_n 2, 1) := by decide +kernel
theorem dX7_set_44 : decode cX7_set 44 = .ok (.iastore, 1) := by decide +kernel
theorem dX7_set_45 : decode cX7_set 45 = .ok (.iload_n 3, 1) := by decide +kernel
theorem dX7_set_46 : decode cX7_set 46 = .ok (.ireturn, 1) := by decide +kernel
theorem dX7_type_0 : decode cX7_type 0 = .ok (.iload_n 1, 1) := by decide +kernel
theorem dX7_type_1 : decode cX7_type 1 = .ok (.ifCond .lt 10, 3) := by decide +kernel
theorem dX7_type_4 : decode cX7_type 4 = .ok (.iload_n 1, 1) := by decide +kernel
theorem dX7_type_5 : decode cX7_type 5 = .ok (.sipush 255, 3) := by decide +kernel
theorem dX7_type_8 : decode cX7_type 8 = .ok (.if_icmp .le 6, 3) := by decide +kernel
theorem dX7_type_11 : decode cX7_type 11 = .ok (.bipush (-2), 2) := by decide +kernel
theorem dX7_type_13 : decode cX7_type 13 = .ok (.ireturn, 1) := by decide +kernel
theorem dX7_type_14 : decode cX7_type 14 = .ok (.aload_n 0, 1) := by decide +kernel
theorem dX7_type_15 : decode cX7_type 15 = .ok (.getfield 19, 3) := by decide +kernel
theorem dX7_type_18 : decode cX7_type 18 = .ok (.iload_n 1, 1) := by decide +kernel
theorem dX7_type_19 : decode cX7_type 19 = .ok (.invokevirtual 130, 3) := by decide +kernel
theorem dX7_type_22 : decode cX7_type 22 = .ok (.ifCond .eq 13, 3) := by decide +kernel
theorem dX7_type_25 : decode cX7_type 25 = .ok (.aload_n 0, 1) := by decide +kernel
theorem dX7_type_26 : decode cX7_type 26 = .ok (.getfield 19, 3) := by decide +kernel
theorem dX7_type_29 : decode cX7_type 29 = .ok (.getfield 133, 3) := by decide +kernel
theorem dX7_type_32 : decode cX7_type 32 = .ok (.goto 5, 3) := by decide +kernel
theorem dX7_type_35 : decode cX7_type 35 = .ok (.bipush (-4), 2) := by decide +kernel
theorem dX7_type_37 : decode cX7_type 37 = .ok (.ireturn, 1) := by decide +kernel
theorem dX7_wipe_0 : decode cX7_wipe 0 = .ok (.aload_n 0, 1) := by decide +kernel
theorem dX7_wipe_1 : decode cX7_wipe 1 = .ok (.getfield 19, 3) := by decide +kernel
theorem dX7_wipe_4 : decode cX7_wipe 4 = .ok (.getfield 133, 3) := by decide +kernel
theorem dX7_wipe_7 : decode cX7_wipe 7 = .ok (.istore_n 1, 1) := by decide +kernel
theorem dX7_wipe_8 : decode cX7_wipe 8 = .ok (.aload_n 0, 1) := by decide +kernel
theorem dX7_wipe_9 : decode cX7_wipe 9 = .ok (.getfield 19, 3) := by decide +kernel
theorem dX7_wipe_12 : decode cX7_wipe 12 = .ok (.invokevirtual 136, 3) := by decide +kernel
theorem dX7_wipe_15 : decode cX7_wipe 15 = .ok (.iload_n 1, 1) := by decide +kernel
theorem dX7_wipe_16 : decode cX7_wipe 16 = .ok (.ireturn, 1) := by decide +kernel
theorem dX7_fault_0 : decode cX7_fault 0 = .ok (.aload_n 0, 1) := by decide +kernel
theorem dX7_fault_1 : decode cX7_fault 1 = .ok (.getfield 19, 3) := by decide +kernel
theorem dX7_fault_4 : decode cX7_fault 4 = .ok (.getfield 139, 3) := by decide +kernel
theorem dX7_fault_7 : decode cX7_fault 7 = .ok (.ireturn, 1) := by decide +kernel
theorem dX7_begins_0 : decode cX7_begins 0 = .ok (.aload_n 0, 1) := by decide +kernel
theorem dX7_begins_1 : decode cX7_begins 1 = .ok (.getfield 28, 3) := by decide +kernel
theorem dX7_begins_4 : decode cX7_begins 4 = .ok (.invokevirtual 142, 3) := by decide +kernel
theorem dX7_begins_7 : decode cX7_begins 7 = .ok (.ireturn, 1) := by decide +kernel
theorem dX7_comes_0 : decode cX7_comes 0 = .ok (.aload_n 0, 1) := by decide +kernel
theorem dX7_comes_1 : decode cX7_comes 1 = .ok (.iload_n 1, 1) := by decide +kernel
theorem dX7_comes_2 : decode cX7_comes 2 = .ok (.invokevirtual 112, 3) := by decide +kernel
theorem dX7_comes_5 : decode cX7_comes 5 = .ok (.ifCond .ne 6, 3) := by decide +kernel
theorem dX7_comes_8 : decode cX7_comes 8 = .ok (.bipush (-2), 2) := by decide +kernel
theorem dX7_comes_10 : decode cX7_comes 10 = .ok (.ireturn, 1) := by decide +kernel
theorem dX7_comes_11 : decode cX7_comes 11 = .ok (.aload_n 0, 1) := by decide +kernel
theorem dX7_comes_12 : decode cX7_comes 12 = .ok (.getfield 28, 3) := by decide +kernel
theorem dX7_comes_15 : decode cX7_comes 15 = .ok (.invokevirtual 142, 3) := by decide +kernel
theorem dX7_comes_18 : decode cX7_comes 18 = .ok (.pop, 1) := by decide +kernel
theorem dX7_comes_19 : decode cX7_comes 19 = .ok (.aload_n 0, 1) := by decide +kernel
theorem dX7_comes_20 : decode cX7_comes 20 = .ok (.getfield 28, 3) := by decide +kernel
theorem dX7_comes_23 : decode cX7_comes 23 = .ok (.getfield 146, 3) := by decide +kernel
theorem dX7_comes_26 : decode cX7_comes 26 = .ok (.iload_n 1, 1) := by decide +kernel
theorem dX7_comes_27 : decode cX7_comes 27 = .ok (.iaload, 1) := by decide +kernel
theorem dX7_comes_28 : decode cX7_comes 28 = .ok (.ireturn, 1) := by decide +kernel
theorem dX7_pays_0 : decode cX7_pays 0 = .ok (.iload_n 1, 1) := by decide +kernel
theorem dX7_pays_1 : decode cX7_pays 1 = .ok (.iconst (-1), 1) := by decide +kernel
theorem dX7_pays_2 : decode cX7_pays 2 = .ok (.if_icmp .ne 11, 3) := by decide +kernel
theorem dX7_pays_5 : decode cX7_pays 5 = .ok (.aload_n 0, 1) := by decide +kernel
theorem dX7_pays_6 : decode cX7_pays 6 = .ok (.getfield 28, 3) := by decide +kernel
theorem dX7_pays_9 : decode cX7_pays 9 = .ok (.invokevirtual 149, 3) := by decide +kernel
theorem dX7_pays_12 : decode cX7_pays 12 = .ok (.ireturn, 1) := by decide +kernel
theorem dX7_pays_13 : decode cX7_pays 13 = .ok (.aload_n 0, 1) := by decide +kernel
theorem dX7_pays_14 : decode cX7_pays 14 = .ok (.iload_n 1, 1) := by decide +kernel
theorem dX7_pays_15 : decode cX7_pays 15 = .ok (.invokevirtual 112, 3) := by decide +kernel
theorem dX7_pays_18 : decode cX7_pays 18 = .ok (.ifCond .ne 7, 3) := by decide +kernel
theorem dX7_pays_21 : decode cX7_pays 21 = .ok (.sipush (-10000), 3) := by decide +kernel
theorem dX7_pays_24 : decode cX7_pays 24 = .ok (.ireturn, 1) := by decide +kernel
theorem dX7_pays_25 : decode cX7_pays 25 = .ok (.aload_n 0, 1) := by decide +kernel
theorem dX7_pays_26 : decode cX7_pays 26 = .ok (.getfield 28, 3) := by decide +kernel
theorem dX7_pays_29 : decode cX7_pays 29 = .ok (.invokevirtual 142, 3) := by decide +kernel
theorem dX7_pays_32 : decode cX7_pays 32 = .ok (.istore_n 2, 1) := by decide +kernel
theorem dX7_pays_33 : decode cX7_pays 33 = .ok (.aload_n 0, 1) := by decide +kernel
theorem dX7_pays_34 : decode cX7_pays 34 = .ok (.getfield 28, 3) := by decide +kernel
theorem dX7_pays_37 : decode cX7_pays 37 = .ok (.iload_n 1, 1) := by decide +kernel
theorem dX7_pays_38 : decode cX7_pays 38 = .ok (.aload_n 0, 1) := by decide +kernel
theorem dX7_pays_39 : decode cX7_pays 39 = .ok (.getfield 28, 3) := by decide +kernel
theorem dX7_pays_42 : decode cX7_pays 42 = .ok (.getfield 146, 3) := by decide +kernel
theorem dX7_pays_45 : decode cX7_pays 45 = .ok (.iload_n 1, 1) := by decide +kernel
theorem dX7_pays_46 : decode cX7_pays 46 = .ok (.iaload, 1) := by decide +kernel
theorem dX7_pays_47 : decode cX7_pays 47 = .ok (.iload_n 2, 1) := by decide +kernel
theorem dX7_pays_48 : decode cX7_pays 48 = .ok (.invokevirtual 152, 3) := by decide +kernel
theorem dX7_pays_51 : decode cX7_pays 51 = .ok (.ireturn, 1) := by decide +kernel
theorem dX7_best_0 : decode cX7_best 0 = .ok (.aload_n 0, 1) := by decide +kernel
theorem dX7_best_1 : decode cX7_best 1 = .ok (.iload_n 1, 1) := by decide +kernel
theorem dX7_best_2 : decode cX7_best 2 = .ok (.invokevirtual 88, 3) := by decide +kernel
theorem dX7_best_5 : decode cX7_best 5 = .ok (.ifCond .eq 15, 3) := by decide +kernel
theorem dX7_best_8 : decode cX7_best 8 = .ok (.aload_n 0, 1) := by decide +kernel
theorem dX7_best_9 : decode cX7_best 9 = .ok (.getfield 28, 3) := by decide +kernel
theorem dX7_best_12 : decode cX7_best 12 = .ok (.iload_n 1, 1) := by decide +kernel
theorem dX7_best_13 : decode cX7_best 13 = .ok (.iload_n 2, 1) := by decide +kernel
theorem dX7_best_14 : decode cX7_best 14 = .ok (.invokevirtual 156, 3) := by decide +kernel
theorem dX7_best_17 : decode cX7_best 17 = .ok (.goto 5, 3) := by decide +kernel
theorem dX7_best_20 : decode cX7_best 20 = .ok (.bipush (-2), 2) := by decide +kernel
theorem dX7_best_22 : decode cX7_best 22 = .ok (.ireturn, 1) := by decide +kernel
theorem dX7_restless_0 : decode cX7_restless 0 = .ok (.aload_n 0, 1) := by decide +kernel
theorem dX7_restless_1 : decode cX7_restless 1 = .ok (.getfield 28, 3) := by decide +kernel
theorem dX7_restless_4 : decode cX7_restless 4 = .ok (.invokevirtual 160, 3) := by decide +kernel
theorem dX7_restless_7 : decode cX7_restless 7 = .ok (.ireturn, 1) := by decide +kernel
theorem dX7_climb_0 : decode cX7_climb 0 = .ok (.iload_n 2, 1) := by decide +kernel
theorem dX7_climb_1 : decode cX7_climb 1 = .ok (.iconst (-1), 1) := by decide +kernel
theorem dX7_climb_2 : decode cX7_climb 2 = .ok (.if_icmp .eq 14, 3) := by decide +kernel
theorem dX7_climb_5 : decode cX7_climb 5 = .ok (.aload_n 0, 1) := by decide +kernel
theorem dX7_climb_6 : decode cX7_climb 6 = .ok (.iload_n 2, 1) := by decide +kernel
theorem dX7_climb_7 : decode cX7_climb 7 = .ok (.invokevirtual 88, 3) := by decide +kernel
theorem dX7_climb_10 : decode cX7_climb 10 = .ok (.ifCond .ne 6, 3) := by decide +kernel
theorem dX7_climb_13 : decode cX7_climb 13 = .ok (.bipush (-2), 2) := by decide +kernel
theorem dX7_climb_15 : decode cX7_climb 15 = .ok (.ireturn, 1) := by decide +kernel
theorem dX7_climb_16 : decode cX7_climb 16 = .ok (.aload_n 0, 1) := by decide +kernel
theorem dX7_climb_17 : decode cX7_climb 17 = .ok (.getfield 32, 3) := by decide +kernel
theorem dX7_climb_20 : decode cX7_climb 20 = .ok (.aload_n 0, 1) := by decide +kernel
theorem dX7_climb_21 : decode cX7_climb 21 = .ok (.getfield 28, 3) := by decide +kernel
theorem dX7_climb_24 : decode cX7_climb 24 = .ok (.invokevirtual 163, 3) := by decide +kernel
theorem dX7_climb_27 : decode cX7_climb 27 = .ok (.aload_n 0, 1) := by decide +kernel
theorem dX7_climb_28 : decode cX7_climb 28 = .ok (.getfield 32, 3) := by decide +kernel
theorem dX7_climb_31 : decode cX7_climb 31 = .ok (.iload_n 1, 1) := by decide +kernel
theorem dX7_climb_32 : decode cX7_climb 32 = .ok (.invokevirtual 166, 3) := by decide +kernel
theorem dX7_climb_35 : decode cX7_climb 35 = .ok (.ifCond .ne 5, 3) := by decide +kernel
theorem dX7_climb_38 : decode cX7_climb 38 = .ok (.iconst (-1), 1) := by decide +kernel
theorem dX7_climb_39 : decode cX7_climb 39 = .ok (.ireturn, 1) := by decide +kernel
theorem dX7_climb_40 : decode cX7_climb 40 = .ok (.iload_n 2, 1) := by decide +kernel
theorem dX7_climb_41 : decode cX7_climb 41 = .ok (.iconst (-1), 1) := by decide +kernel
theorem dX7_climb_42 : decode cX7_climb 42 = .ok (.if_icmp .ne 13, 3) := by decide +kernel
theorem dX7_climb_45 : decode cX7_climb 45 = .ok (.aload_n 0, 1) := by decide +kernel
theorem dX7_climb_46 : decode cX7_climb 46 = .ok (.getfield 32, 3) := by decide +kernel
theorem dX7_climb_49 : decode cX7_climb 49 = .ok (.invokevirtual 142, 3) := by decide +kernel
theorem dX7_climb_52 : decode cX7_climb 52 = .ok (.goto 12, 3) := by decide +kernel
theorem dX7_climb_55 : decode cX7_climb 55 = .ok (.aload_n 0, 1) := by decide +kernel
theorem dX7_climb_56 : decode cX7_climb 56 = .ok (.getfield 32, 3) := by decide +kernel
theorem dX7_climb_59 : decode cX7_climb 59 = .ok (.getfield 85, 3) := by decide +kernel
theorem dX7_climb_62 : decode cX7_climb 62 = .ok (.iload_n 2, 1) := by decide +kernel
theorem dX7_climb_63 : decode cX7_climb 63 = .ok (.iaload, 1) := by decide +kernel
theorem dX7_climb_64 : decode cX7_climb 64 = .ok (.ireturn, 1) := by decide +kernel
theorem dX7_rests_0 : decode cX7_rests 0 = .ok (.iload_n 1, 1) := by decide +kernel
theorem dX7_rests_1 : decode cX7_rests 1 = .ok (.invokestatic 170, 3) := by decide +kernel
theorem dX7_rests_4 : decode cX7_rests 4 = .ok (.ifCond .eq 31, 3) := by decide +kernel
theorem dX7_rests_7 : decode cX7_rests 7 = .ok (.iload_n 2, 1) := by decide +kernel
theorem dX7_rests_8 : decode cX7_rests 8 = .ok (.iconst (-1), 1) := by decide +kernel
theorem dX7_rests_9 : decode cX7_rests 9 = .ok (.if_icmp .lt 26, 3) := by decide +kernel
theorem dX7_rests_12 : decode cX7_rests 12 = .ok (.iload_n 2, 1) := by decide +kernel
theorem dX7_rests_13 : decode cX7_rests 13 = .ok (.iconst (-1), 1) := by decide +kernel
theorem dX7_rests_14 : decode cX7_rests 14 = .ok (.if_icmp .ne 7, 3) := by decide +kernel
theorem dX7_rests_17 : decode cX7_rests 17 = .ok (.iconst 1, 1) := by decide +kernel
theorem dX7_rests_18 : decode cX7_rests 18 = .ok (.goto 4, 3) := by decide +kernel
theorem dX7_rests_21 : decode cX7_rests 21 = .ok (.iconst 0, 1) := by decide +kernel
theorem dX7_rests_22 : decode cX7_rests 22 = .ok (.iload_n 3, 1) := by decide +kernel
theorem dX7_rests_23 : decode cX7_rests 23 = .ok (.iconst (-1), 1) := by decide +kernel
theorem dX7_rests_24 : decode cX7_rests 24 = .ok (.if_icmp .ne 7, 3) := by decide +kernel
theorem dX7_rests_27 : decode cX7_rests 27 = .ok (.iconst 1, 1) := by decide +kernel
theorem dX7_rests_28 : decode cX7_rests 28 = .ok (.goto 4, 3) := by decide +kernel
theorem dX7_rests_31 : decode cX7_rests 31 = .ok (.iconst 0, 1) := by decide +kernel
theorem dX7_rests_32 : decode cX7_rests 32 = .ok (.if_icmp .eq 6, 3) := by decide +kernel
theorem dX7_rests_35 : decode cX7_rests 35 = .ok (.bipush (-2), 2) := by decide +kernel
theorem dX7_rests_37 : decode cX7_rests 37 = .ok (.ireturn, 1) := by decide +kernel
theorem dX7_rests_38 : decode cX7_rests 38 = .ok (.iload_n 3, 1) := by decide +kernel
theorem dX7_rests_39 : decode cX7_rests 39 = .ok (.iconst (-1), 1) := by decide +kernel
theorem dX7_rests_40 : decode cX7_rests 40 = .ok (.if_icmp .eq 14, 3) := by decide +kernel
theorem dX7_rests_43 : decode cX7_rests 43 = .ok (.aload_n 0, 1) := by decide +kernel
theorem dX7_rests_44 : decode cX7_rests 44 = .ok (.iload_n 3, 1) := by decide +kernel
theorem dX7_rests_45 : decode cX7_rests 45 = .ok (.invokevirtual 88, 3) := by decide +kernel
theorem dX7_rests_48 : decode cX7_rests 48 = .ok (.ifCond .ne 6, 3) := by decide +kernel
theorem dX7_rests_51 : decode cX7_rests 51 = .ok (.bipush (-2), 2) := by decide +kernel
theorem dX7_rests_53 : decode cX7_rests 53 = .ok (.ireturn, 1) := by decide +kernel
theorem dX7_rests_54 : decode cX7_rests 54 = .ok (.aload_n 0, 1) := by decide +kernel
theorem dX7_rests_55 : decode cX7_rests 55 = .ok (.getfield 28, 3) := by decide +kernel
theorem dX7_rests_58 : decode cX7_rests 58 = .ok (.invokevirtual 173, 3) := by decide +kernel
theorem dX7_rests_61 : decode cX7_rests 61 = .ok (.invokestatic 176, 3) := by decide +kernel
theorem dX7_rests_64 : decode cX7_rests 64 = .ok (.iconst 3, 1) := by decide +kernel
theorem dX7_rests_65 : decode cX7_rests 65 = .ok (.if_icmp .le 6, 3) := by decide +kernel
theorem dX7_rests_68 : decode cX7_rests 68 = .ok (.bipush (-4), 2) := by decide +kernel
theorem dX7_rests_70 : decode cX7_rests 70 = .ok (.ireturn, 1) := by decide +kernel
theorem dX7_rests_71 : decode cX7_rests 71 = .ok (.aload_n 0, 1) := by decide +kernel
theorem dX7_rests_72 : decode cX7_rests 72 = .ok (.getfield 32, 3) := by decide +kernel
theorem dX7_rests_75 : decode cX7_rests 75 = .ok (.aload_n 0, 1) := by decide +kernel
theorem dX7_rests_76 : decode cX7_rests 76 = .ok (.getfield 28, 3) := by decide +kernel
theorem dX7_rests_79 : decode cX7_rests 79 = .ok (.invokevirtual 163, 3) := by decide +kernel
theorem dX7_rests_82 : decode cX7_rests 82 = .ok (.aload_n 0, 1) := by decide +kernel
theorem dX7_rests_83 : decode cX7_rests 83 = .ok (.getfield 40, 3) := by decide +kernel
theorem dX7_rests_86 : decode cX7_rests 86 = .ok (.iload_n 1, 1) := by decide +kernel
theorem dX7_rests_87 : decode cX7_rests 87 = .ok (.invokevirtual 181, 3) := by decide +kernel
theorem dX7_rests_90 : decode cX7_rests 90 = .ok (.aload_n 0, 1) := by decide +kernel
theorem dX7_rests_91 : decode cX7_rests 91 = .ok (.getfield 40, 3) := by decide +kernel
theorem dX7_rests_94 : decode cX7_rests 94 = .ok (.iload_n 2, 1) := by decide +kernel
theorem dX7_rests_95 : decode cX7_rests 95 = .ok (.invokevirtual 185, 3) := by decide +kernel
theorem dX7_rests_98 : decode cX7_rests 98 = .ok (.istore 4, 2) := by decide +kernel
theorem dX7_rests_100 : decode cX7_rests 100 = .ok (.iload_n 3, 1) := by decide +kernel
theorem dX7_rests_101 : decode cX7_rests 101 = .ok (.iconst (-1), 1) := by decide +kernel
theorem dX7_rests_102 : decode cX7_rests 102 = .ok (.if_icmp .ne 6, 3) := by decide +kernel
theorem dX7_rests_105 : decode cX7_rests 105 = .ok (.iload 4, 2) := by decide +kernel
theorem dX7_rests_107 : decode cX7_rests 107 = .ok (.ireturn, 1) := by decide +kernel
theorem dX7_rests_108 : decode cX7_rests 108 = .ok (.iload 4, 2) := by decide +kernel
theorem dX7_rests_110 : decode cX7_rests 110 = .ok (.iload_n 2, 1) := by decide +kernel
theorem dX7_rests_111 : decode cX7_rests 111 = .ok (.if_icmp .le 15, 3) := by decide +kernel
theorem dX7_rests_114 : decode cX7_rests 114 = .ok (.aload_n 0, 1) := by decide +kernel
theorem dX7_rests_115 : decode cX7_rests 115 = .ok (.getfield 32, 3) := by decide +kernel
theorem dX7_rests_118 : decode cX7_rests 118 = .ok (.getfield 85, 3) := by decide +kernel
theorem dX7_rests_121 : decode cX7_rests 121 = .ok (.iload_n 3, 1) := by decide +kernel
theorem dX7_rests_122 : decode cX7_rests 122 = .ok (.iaload, 1) := by decide +kernel
theorem dX7_rests_123 : decode cX7_rests 123 = .ok (.goto 4, 3) := by decide +kernel
theorem dX7_rests_126 : decode cX7_rests 126 = .ok (.iconst (-1), 1) := by decide +kernel
theorem dX7_rests_127 : decode cX7_rests 127 = .ok (.ireturn, 1) := by decide +kernel
theorem dX7_lost_0 : decode cX7_lost 0 = .ok (.iload_n 1, 1) := by decide +kernel
theorem dX7_lost_1 : decode cX7_lost 1 = .ok (.invokestatic 170, 3) := by decide +kernel
theorem dX7_lost_4 : decode cX7_lost 4 = .ok (.ifCond .eq 8, 3) := by decide +kernel
theorem dX7_lost_7 : decode cX7_lost 7 = .ok (.iload_n 2, 1) := by decide +kernel
theorem dX7_lost_8 : decode cX7_lost 8 = .ok (.iconst (-1), 1) := by decide +kernel
theorem dX7_lost_9 : decode cX7_lost 9 = .ok (.if_icmp .ge 7, 3) := by decide +kernel
theorem dX7_lost_12 : decode cX7_lost 12 = .ok (.sipush (-10000), 3) := by decide +kernel
theorem dX7_lost_15 : decode cX7_lost 15 = .ok (.ireturn, 1) := by decide +kernel
theorem dX7_lost_16 : decode cX7_lost 16 = .ok (.aload_n 0, 1) := by decide +kernel
theorem dX7_lost_17 : decode cX7_lost 17 = .ok (.getfield 28, 3) := by decide +kernel
theorem dX7_lost_20 : decode cX7_lost 20 = .ok (.invokevirtual 173, 3) := by decide +kernel
theorem dX7_lost_23 : decode cX7_lost 23 = .ok (.invokestatic 176, 3) := by decide +kernel
theorem dX7_lost_26 : decode cX7_lost 26 = .ok (.iconst 3, 1) := by decide +kernel
theorem dX7_lost_27 : decode cX7_lost 27 = .ok (.if_icmp .le 7, 3) := by decide +kernel
theorem dX7_lost_30 : decode cX7_lost 30 = .ok (.sipush (-10001), 3) := by decide +kernel
theorem dX7_lost_33 : decode cX7_lost 33 = .ok (.ireturn, 1) := by decide +kernel
theorem dX7_lost_34 : decode cX7_lost 34 = .ok (.aload_n 0, 1) := by decide +kernel
theorem dX7_lost_35 : decode cX7_lost 35 = .ok (.getfield 32, 3) := by decide +kernel
theorem dX7_lost_38 : decode cX7_lost 38 = .ok (.aload_n 0, 1) := by decide +kernel
theorem dX7_lost_39 : decode cX7_lost 39 = .ok (.getfield 28, 3) := by decide +kernel
theorem dX7_lost_42 : decode cX7_lost 42 = .ok (.invokevirtual 163, 3) := by decide +kernel
theorem dX7_lost_45 : decode cX7_lost 45 = .ok (.aload_n 0, 1) := by decide +kernel
theorem dX7_lost_46 : decode cX7_lost 46 = .ok (.getfield 40, 3) := by decide +kernel
theorem dX7_lost_49 : decode cX7_lost 49 = .ok (.iload_n 1, 1) := by decide +kernel
theorem dX7_lost_50 : decode cX7_lost 50 = .ok (.invokevirtual 181, 3) := by decide +kernel
theorem dX7_lost_53 : decode cX7_lost 53 = .ok (.iload_n 2, 1) := by decide +kernel
theorem dX7_lost_54 : decode cX7_lost 54 = .ok (.iconst (-1), 1) := by decide +kernel
theorem dX7_lost_55 : decode cX7_lost 55 = .ok (.if_icmp .ne 11, 3) := by decide +kernel
theorem dX7_lost_58 : decode cX7_lost 58 = .ok (.aload_n 0, 1) := by decide +kernel
theorem dX7_lost_59 : decode cX7_lost 59 = .ok (.getfield 40, 3) := by decide +kernel
theorem dX7_lost_62 : decode cX7_lost 62 = .ok (.invokevirtual 188, 3) := by decide +kernel
theorem dX7_lost_65 : decode cX7_lost 65 = .ok (.ireturn, 1) := by decide +kernel
theorem dX7_lost_66 : decode cX7_lost 66 = .ok (.aload_n 0, 1) := by decide +kernel
theorem dX7_lost_67 : decode cX7_lost 67 = .ok (.getfield 40, 3) := by decide +kernel
theorem dX7_lost_70 : decode cX7_lost 70 = .ok (.iload_n 2, 1) := by decide +kernel
theorem dX7_lost_71 : decode cX7_lost 71 = .ok (.invokevirtual 185, 3) := by decide +kernel
theorem dX7_lost_74 : decode cX7_lost 74 = .ok (.iload_n 2, 1) := by decide +kernel
theorem dX7_lost_75 : decode cX7_lost 75 = .ok (.if_icmp .gt 7, 3) := by decide +kernel
theorem dX7_lost_78 : decode cX7_lost 78 = .ok (.sipush (-10002), 3) := by decide +kernel
theorem dX7_lost_81 : decode cX7_lost 81 = .ok (.ireturn, 1) := by decide +kernel
theorem dX7_lost_82 : decode cX7_lost 82 = .ok (.aload_n 0, 1) := by decide +kernel
theorem dX7_lost_83 : decode cX7_lost 83 = .ok (.getfield 32, 3) := by decide +kernel
theorem dX7_lost_86 : decode cX7_lost 86 = .ok (.invokevirtual 149, 3) := by decide +kernel
theorem dX7_lost_89 : decode cX7_lost 89 = .ok (.istore_n 3, 1) := by decide +kernel
theorem dX7_lost_90 : decode cX7_lost 90 = .ok (.iload_n 3, 1) := by decide +kernel
theorem dX7_lost_91 : decode cX7_lost 91 = .ok (.aload_n 0, 1) := by decide +kernel
theorem dX7_lost_92 : decode cX7_lost 92 = .ok (.getfield 40, 3) := by decide +kernel
theorem dX7_lost_95 : decode cX7_lost 95 = .ok (.invokevirtual 188, 3) := by decide +kernel
theorem dX7_lost_98 : decode cX7_lost 98 = .ok (.isub, 1) := by decide +kernel
theorem dX7_lost_99 : decode cX7_lost 99 = .ok (.ireturn, 1) := by decide +kernel
theorem dX7_week_0 : decode cX7_week 0 = .ok (.iload_n 1, 1) := by decide +kernel
theorem dX7_week_1 : decode cX7_week 1 = .ok (.ifCond .lt 9, 3) := by decide +kernel
theorem dX7_week_4 : decode cX7_week 4 = .ok (.iload_n 1, 1) := by decide +kernel
theorem dX7_week_5 : decode cX7_week 5 = .ok (.bipush 60, 2) := by decide +kernel
theorem dX7_week_7 : decode cX7_week 7 = .ok (.if_icmp .le 6, 3) := by decide +kernel
theorem dX7_week_10 : decode cX7_week 10 = .ok (.bipush (-2), 2) := by decide +kernel
theorem dX7_week_12 : decode cX7_week 12 = .ok (.ireturn, 1) := by decide +kernel
theorem dX7_week_13 : decode cX7_week 13 = .ok (.aload_n 0, 1) := by decide +kernel
theorem dX7_week_14 : decode cX7_week 14 = .ok (.getfield 32, 3) := by decide +kernel
theorem dX7_week_17 : decode cX7_week 17 = .ok (.aload_n 0, 1) := by decide +kernel
theorem dX7_week_18 : decode cX7_week 18 = .ok (.getfield 28, 3) := by decide +kernel
theorem dX7_week_21 : decode cX7_week 21 = .ok (.invokevirtual 163, 3) := by decide +kernel
theorem dX7_week_24 : decode cX7_week 24 = .ok (.aload_n 0, 1) := by decide +kernel
theorem dX7_week_25 : decode cX7_week 25 = .ok (.getfield 47, 3) := by decide +kernel
theorem dX7_week_28 : decode cX7_week 28 = .ok (.iload_n 1, 1) := by decide +kernel
theorem dX7_week_29 : decode cX7_week 29 = .ok (.invokevirtual 191, 3) := by decide +kernel
theorem dX7_week_32 : decode cX7_week 32 = .ok (.aload_n 0, 1) := by decide +kernel
theorem dX7_week_33 : decode cX7_week 33 = .ok (.getfield 47, 3) := by decide +kernel
theorem dX7_week_36 : decode cX7_week 36 = .ok (.getfield 194, 3) := by decide +kernel
theorem dX7_week_39 : decode cX7_week 39 = .ok (.iload_n 1, 1) := by decide +kernel
theorem dX7_week_40 : decode cX7_week 40 = .ok (.iaload, 1) := by decide +kernel
theorem dX7_week_41 : decode cX7_week 41 = .ok (.ireturn, 1) := by decide +kernel
theorem dX7_round_0 : decode cX7_round 0 = .ok (.iload_n 1, 1) := by decide +kernel
theorem dX7_round_1 : decode cX7_round 1 = .ok (.ifCond .eq 11, 3) := by decide +kernel
theorem dX7_round_4 : decode cX7_round 4 = .ok (.iload_n 1, 1) := by decide +kernel
theorem dX7_round_5 : decode cX7_round 5 = .ok (.iconst 1, 1) := by decide +kernel
theorem dX7_round_6 : decode cX7_round 6 = .ok (.if_icmp .eq 6, 3) := by decide +kernel
theorem dX7_round_9 : decode cX7_round 9 = .ok (.bipush (-2), 2) := by decide +kernel
theorem dX7_round_11 : decode cX7_round 11 = .ok (.ireturn, 1) := by decide +kernel
theorem dX7_round_12 : decode cX7_round 12 = .ok (.aload_n 0, 1) := by decide +kernel
theorem dX7_round_13 : decode cX7_round 13 = .ok (.getfield 32, 3) := by decide +kernel
theorem dX7_round_16 : decode cX7_round 16 = .ok (.aload_n 0, 1) := by decide +kernel
theorem dX7_round_17 : decode cX7_round 17 = .ok (.getfield 28, 3) := by decide +kernel
theorem dX7_round_20 : decode cX7_round 20 = .ok (.invokevirtual 163, 3) := by decide +kernel
theorem dX7_round_23 : decode cX7_round 23 = .ok (.aload_n 0, 1) := by decide +kernel
theorem dX7_round_24 : decode cX7_round 24 = .ok (.getfield 47, 3) := by decide +kernel
theorem dX7_round_27 : decode cX7_round 27 = .ok (.bipush 60, 2) := by decide +kernel
theorem dX7_round_29 : decode cX7_round 29 = .ok (.invokevirtual 191, 3) := by decide +kernel
theorem dX7_round_32 : decode cX7_round 32 = .ok (.iload_n 1, 1) := by decide +kernel
theorem dX7_round_33 : decode cX7_round 33 = .ok (.ifCond .ne 13, 3) := by decide +kernel
theorem dX7_round_36 : decode cX7_round 36 = .ok (.aload_n 0, 1) := by decide +kernel
theorem dX7_round_37 : decode cX7_round 37 = .ok (.getfield 47, 3) := by decide +kernel
theorem dX7_round_40 : decode cX7_round 40 = .ok (.getfield 197, 3) := by decide +kernel
theorem dX7_round_43 : decode cX7_round 43 = .ok (.goto 10, 3) := by decide +kernel
theorem dX7_round_46 : decode cX7_round 46 = .ok (.aload_n 0, 1) := by decide +kernel
theorem dX7_round_47 : decode cX7_round 47 = .ok (.getfield 47, 3) := by decide +kernel
theorem dX7_round_50 : decode cX7_round 50 = .ok (.getfield 200, 3) := by decide +kernel
theorem dX7_round_53 : decode cX7_round 53 = .ok (.ireturn, 1) := by decide +kernel
theorem dX7_moved_0 : decode cX7_moved 0 = .ok (.iload_n 1, 1) := by decide +kernel
theorem dX7_moved_1 : decode cX7_moved 1 = .ok (.ifCond .lt 9, 3) := by decide +kernel
theorem dX7_moved_4 : decode cX7_moved 4 = .ok (.iload_n 1, 1) := by decide +kernel
theorem dX7_moved_5 : decode cX7_moved 5 = .ok (.bipush 60, 2) := by decide +kernel
theorem dX7_moved_7 : decode cX7_moved 7 = .ok (.if_icmp .lt 6, 3) := by decide +kernel
theorem dX7_moved_10 : decode cX7_moved 10 = .ok (.bipush (-2), 2) := by decide +kernel
theorem dX7_moved_12 : decode cX7_moved 12 = .ok (.ireturn, 1) := by decide +kernel
theorem dX7_moved_13 : decode cX7_moved 13 = .ok (.iconst 0, 1) := by decide +kernel
theorem dX7_moved_14 : decode cX7_moved 14 = .ok (.istore_n 2, 1) := by decide +kernel
theorem dX7_moved_15 : decode cX7_moved 15 = .ok (.bipush 61, 2) := by decide +kernel
theorem dX7_moved_17 : decode cX7_moved 17 = .ok (.istore_n 3, 1) := by decide +kernel
theorem dX7_moved_18 : decode cX7_moved 18 = .ok (.iconst 0, 1) := by decide +kernel
theorem dX7_moved_19 : decode cX7_moved 19 = .ok (.istore 4, 2) := by decide +kernel
theorem dX7_moved_21 : decode cX7_moved 21 = .ok (.iload 4, 2) := by decide +kernel
theorem dX7_moved_23 : decode cX7_moved 23 = .ok (.bipush 60, 2) := by decide +kernel
theorem dX7_moved_25 : decode cX7_moved 25 = .ok (.if_icmp .ge 77, 3) := by decide +kernel
theorem dX7_moved_28 : decode cX7_moved 28 = .ok (.aload_n 0, 1) := by decide +kernel
theorem dX7_moved_29 : decode cX7_moved 29 = .ok (.getfield 32, 3) := by decide +kernel
theorem dX7_moved_32 : decode cX7_moved 32 = .ok (.aload_n 0, 1) := by decide +kernel
theorem dX7_moved_33 : decode cX7_moved 33 = .ok (.getfield 28, 3) := by decide +kernel
theorem dX7_moved_36 : decode cX7_moved 36 = .ok (.invokevirtual 163, 3) := by decide +kernel
theorem dX7_moved_39 : decode cX7_moved 39 = .ok (.aload_n 0, 1) := by decide +kernel
theorem dX7_moved_40 : decode cX7_moved 40 = .ok (.getfield 32, 3) := by decide +kernel
theorem dX7_moved_43 : decode cX7_moved 43 = .ok (.getfield 127, 3) := by decide +kernel
theorem dX7_moved_46 : decode cX7_moved 46 = .ok (.iconst 0, 1) := by decide +kernel
theorem dX7_moved_47 : decode cX7_moved 47 = .ok (.iload 4, 2) := by decide +kernel
theorem dX7_moved_49 : decode cX7_moved 49 = .ok (.iastore, 1) := by decide +kernel
theorem dX7_moved_50 : decode cX7_moved 50 = .ok (.aload_n 0, 1) := by decide +kernel
theorem dX7_moved_51 : decode cX7_moved 51 = .ok (.getfield 32, 3) := by decide +kernel
theorem dX7_moved_54 : decode cX7_moved 54 = .ok (.iconst 0, 1) := by decide +kernel
theorem dX7_moved_55 : decode cX7_moved 55 = .ok (.invokevirtual 166, 3) := by decide +kernel
theorem dX7_moved_58 : decode cX7_moved 58 = .ok (.ifCond .eq 13, 3) := by decide +kernel
theorem dX7_moved_61 : decode cX7_moved 61 = .ok (.aload_n 0, 1) := by decide +kernel
theorem dX7_moved_62 : decode cX7_moved 62 = .ok (.getfield 32, 3) := by decide +kernel
theorem dX7_moved_65 : decode cX7_moved 65 = .ok (.invokevirtual 142, 3) := by decide +kernel
theorem dX7_moved_68 : decode cX7_moved 68 = .ok (.goto 5, 3) := by decide +kernel
theorem dX7_moved_71 : decode cX7_moved 71 = .ok (.bipush 60, 2) := by decide +kernel
theorem dX7_moved_73 : decode cX7_moved 73 = .ok (.istore 5, 2) := by decide +kernel
theorem dX7_moved_75 : decode cX7_moved 75 = .ok (.iload 5, 2) := by decide +kernel
theorem dX7_moved_77 : decode cX7_moved 77 = .ok (.iload_n 1, 1) := by decide +kernel
theorem dX7_moved_78 : decode cX7_moved 78 = .ok (.isub, 1) := by decide +kernel
theorem dX7_moved_79 : decode cX7_moved 79 = .ok (.invokestatic 203, 3) := by decide +kernel
theorem dX7_moved_82 : decode cX7_moved 82 = .ok (.istore 6, 2) := by decide +kernel
theorem dX7_moved_84 : decode cX7_moved 84 = .ok (.iload 6, 2) := by decide +kernel
theorem dX7_moved_86 : decode cX7_moved 86 = .ok (.iload_n 3, 1) := by decide +kernel
theorem dX7_moved_87 : decode cX7_moved 87 = .ok (.if_icmp .ge 9, 3) := by decide +kernel
theorem dX7_moved_90 : decode cX7_moved 90 = .ok (.iload 6, 2) := by decide +kernel
theorem dX7_moved_92 : decode cX7_moved 92 = .ok (.istore_n 3, 1) := by decide +kernel
theorem dX7_moved_93 : decode cX7_moved 93 = .ok (.iload 4, 2) := by decide +kernel
theorem dX7_moved_95 : decode cX7_moved 95 = .ok (.istore_n 2, 1) := by decide +kernel
theorem dX7_moved_96 : decode cX7_moved 96 = .ok (.iinc 4 1, 3) := by decide +kernel
theorem dX7_moved_99 : decode cX7_moved 99 = .ok (.goto (-78), 3) := by decide +kernel
theorem dX7_moved_102 : decode cX7_moved 102 = .ok (.iload_n 2, 1) := by decide +kernel
theorem dX7_moved_103 : decode cX7_moved 103 = .ok (.ireturn, 1) := by decide +kernel
theorem dX7_least_0 : decode cX7_least 0 = .ok (.iconst 0, 1) := by decide +kernel
theorem dX7_least_1 : decode cX7_least 1 = .ok (.istore_n 2, 1) := by decide +kernel
theorem dX7_least_2 : decode cX7_least 2 = .ok (.iload_n 2, 1) := by decide +kernel
theorem dX7_least_3 : decode cX7_least 3 = .ok (.bipush 40, 2) := by decide +kernel
theorem dX7_least_5 : decode cX7_least 5 = .ok (.if_icmp .gt 47, 3) := by decide +kernel
theorem dX7_least_8 : decode cX7_least 8 = .ok (.aload_n 0, 1) := by decide +kernel
theorem dX7_least_9 : decode cX7_least 9 = .ok (.getfield 32, 3) := by decide +kernel
theorem dX7_least_12 : decode cX7_least 12 = .ok (.aload_n 0, 1) := by decide +kernel
theorem dX7_least_13 : decode cX7_least 13 = .ok (.getfield 28, 3) := by decide +kernel
theorem dX7_least_16 : decode cX7_least 16 = .ok (.invokevirtual 163, 3) := by decide +kernel
theorem dX7_least_19 : decode cX7_least 19 = .ok (.aload_n 0, 1) := by decide +kernel
theorem dX7_least_20 : decode cX7_least 20 = .ok (.getfield 32, 3) := by decide +kernel
theorem dX7_least_23 : decode cX7_least 23 = .ok (.getfield 127, 3) := by decide +kernel
theorem dX7_least_26 : decode cX7_least 26 = .ok (.iload_n 1, 1) := by decide +kernel
theorem dX7_least_27 : decode cX7_least 27 = .ok (.ifCond .eq 7, 3) := by decide +kernel
theorem dX7_least_30 : decode cX7_least 30 = .ok (.iconst 2, 1) := by decide +kernel
theorem dX7_least_31 : decode cX7_least 31 = .ok (.goto 4, 3) := by decide +kernel
theorem dX7_least_34 : decode cX7_least 34 = .ok (.iconst 1, 1) := by decide +kernel
theorem dX7_least_35 : decode cX7_least 35 = .ok (.iload_n 2, 1) := by decide +kernel
theorem dX7_least_36 : decode cX7_least 36 = .ok (.iastore, 1) := by decide +kernel
theorem dX7_least_37 : decode cX7_least 37 = .ok (.aload_n 0, 1) := by decide +kernel
theorem dX7_least_38 : decode cX7_least 38 = .ok (.invokevirtual 208, 3) := by decide +kernel
theorem dX7_least_41 : decode cX7_least 41 = .ok (.ifCond .eq 5, 3) := by decide +kernel
theorem dX7_least_44 : decode cX7_least 44 = .ok (.iload_n 2, 1) := by decide +kernel
theorem dX7_least_45 : decode cX7_least 45 = .ok (.ireturn, 1) := by decide +kernel
theorem dX7_least_46 : decode cX7_least 46 = .ok (.iinc 2 1, 3) := by decide +kernel
theorem dX7_least_49 : decode cX7_least 49 = .ok (.goto (-47), 3) := by decide +kernel
theorem dX7_least_52 : decode cX7_least 52 = .ok (.iconst (-1), 1) := by decide +kernel
theorem dX7_least_53 : decode cX7_least 53 = .ok (.ireturn, 1) := by decide +kernel
theorem dX7_keys_0 : decode cX7_keys 0 = .ok (.iload_n 1, 1) := by decide +kernel
theorem dX7_keys_1 : decode cX7_keys 1 = .ok (.ifCond .eq 11, 3) := by decide +kernel
theorem dX7_keys_4 : decode cX7_keys 4 = .ok (.iload_n 1, 1) := by decide +kernel
theorem dX7_keys_5 : decode cX7_keys 5 = .ok (.iconst 1, 1) := by decide +kernel
theorem dX7_keys_6 : decode cX7_keys 6 = .ok (.if_icmp .eq 6, 3) := by decide +kernel
theorem dX7_keys_9 : decode cX7_keys 9 = .ok (.bipush (-2), 2) := by decide +kernel
theorem dX7_keys_11 : decode cX7_keys 11 = .ok (.ireturn, 1) := by decide +kernel
theorem dX7_keys_12 : decode cX7_keys 12 = .ok (.aload_n 0, 1) := by decide +kernel
theorem dX7_keys_13 : decode cX7_keys 13 = .ok (.getfield 28, 3) := by decide +kernel
theorem dX7_keys_16 : decode cX7_keys 16 = .ok (.invokevirtual 142, 3) := by decide +kernel
theorem dX7_keys_19 : decode cX7_keys 19 = .ok (.istore_n 2, 1) := by decide +kernel
theorem dX7_keys_20 : decode cX7_keys 20 = .ok (.iload_n 2, 1) := by decide +kernel
theorem dX7_keys_21 : decode cX7_keys 21 = .ok (.bipush 60, 2) := by decide +kernel
theorem dX7_keys_23 : decode cX7_keys 23 = .ok (.if_icmp .lt 5, 3) := by decide +kernel
theorem dX7_keys_26 : decode cX7_keys 26 = .ok (.iconst 0, 1) := by decide +kernel
theorem dX7_keys_27 : decode cX7_keys 27 = .ok (.ireturn, 1) := by decide +kernel
theorem dX7_keys_28 : decode cX7_keys 28 = .ok (.iload_n 1, 1) := by decide +kernel
theorem dX7_keys_29 : decode cX7_keys 29 = .ok (.ifCond .ne 10, 3) := by decide +kernel
theorem dX7_keys_32 : decode cX7_keys 32 = .ok (.aload_n 0, 1) := by decide +kernel
theorem dX7_keys_33 : decode cX7_keys 33 = .ok (.invokevirtual 212, 3) := by decide +kernel
theorem dX7_keys_36 : decode cX7_keys 36 = .ok (.goto 11, 3) := by decide +kernel
theorem dX7_keys_39 : decode cX7_keys 39 = .ok (.aload_n 0, 1) := by decide +kernel
theorem dX7_keys_40 : decode cX7_keys 40 = .ok (.getfield 28, 3) := by decide +kernel
theorem dX7_keys_43 : decode cX7_keys 43 = .ok (.iload_n 2, 1) := by decide +kernel
theorem dX7_keys_44 : decode cX7_keys 44 = .ok (.invokevirtual 215, 3) := by decide +kernel
theorem dX7_keys_47 : decode cX7_keys 47 = .ok (.ireturn, 1) := by decide +kernel
theorem dX7_guests_0 : decode cX7_guests 0 = .ok (.aload_n 0, 1) := by decide +kernel
theorem dX7_guests_1 : decode cX7_guests 1 = .ok (.getfield 28, 3) := by decide +kernel
theorem dX7_guests_4 : decode cX7_guests 4 = .ok (.invokevirtual 173, 3) := by decide +kernel
theorem dX7_guests_7 : decode cX7_guests 7 = .ok (.istore_n 1, 1) := by decide +kernel
theorem dX7_guests_8 : decode cX7_guests 8 = .ok (.iconst 0, 1) := by decide +kernel
theorem dX7_guests_9 : decode cX7_guests 9 = .ok (.istore_n 2, 1) := by decide +kernel
theorem dX7_guests_10 : decode cX7_guests 10 = .ok (.iload_n 2, 1) := by decide +kernel
theorem dX7_guests_11 : decode cX7_guests 11 = .ok (.iconst 3, 1) := by decide +kernel
theorem dX7_guests_12 : decode cX7_guests 12 = .ok (.if_icmp .gt 71, 3) := by decide +kernel
theorem dX7_guests_15 : decode cX7_guests 15 = .ok (.iconst 0, 1) := by decide +kernel
theorem dX7_guests_16 : decode cX7_guests 16 = .ok (.istore_n 3, 1) := by decide +kernel
theorem dX7_guests_17 : decode cX7_guests 17 = .ok (.iload_n 3, 1) := by decide +kernel
theorem dX7_guests_18 : decode cX7_guests 18 = .ok (.sipush 256, 3) := by decide +kernel
theorem dX7_guests_21 : decode cX7_guests 21 = .ok (.if_icmp .ge 56, 3) := by decide +kernel
theorem dX7_guests_24 : decode cX7_guests 24 = .ok (.iload_n 3, 1) := by decide +kernel
theorem dX7_guests_25 : decode cX7_guests 25 = .ok (.invokestatic 176, 3) := by decide +kernel
theorem dX7_guests_28 : decode cX7_guests 28 = .ok (.iload_n 2, 1) := by decide +kernel
theorem dX7_guests_29 : decode cX7_guests 29 = .ok (.if_icmp .ne 42, 3) := by decide +kernel
theorem dX7_guests_32 : decode cX7_guests 32 = .ok (.iload_n 3, 1) := by decide +kernel
theorem dX7_guests_33 : decode cX7_guests 33 = .ok (.iload_n 1, 1) := by decide +kernel
theorem dX7_guests_34 : decode cX7_guests 34 = .ok (.iconst (-1), 1) := by decide +kernel
theorem dX7_guests_35 : decode cX7_guests 35 = .ok (.ixor, 1) := by decide +kernel
theorem dX7_guests_36 : decode cX7_guests 36 = .ok (.iand, 1) := by decide +kernel
theorem dX7_guests_37 : decode cX7_guests 37 = .ok (.ifCond .eq 6, 3) := by decide +kernel
theorem dX7_guests_40 : decode cX7_guests 40 = .ok (.goto 31, 3) := by decide +kernel
theorem dX7_guests_43 : decode cX7_guests 43 = .ok (.aload_n 0, 1) := by decide +kernel
theorem dX7_guests_44 : decode cX7_guests 44 = .ok (.getfield 32, 3) := by decide +kernel
theorem dX7_guests_47 : decode cX7_guests 47 = .ok (.aload_n 0, 1) := by decide +kernel
theorem dX7_guests_48 : decode cX7_guests 48 = .ok (.getfield 28, 3) := by decide +kernel
theorem dX7_guests_51 : decode cX7_guests 51 = .ok (.invokevirtual 163, 3) := by decide +kernel
theorem dX7_guests_54 : decode cX7_guests 54 = .ok (.aload_n 0, 1) := by decide +kernel
theorem dX7_guests_55 : decode cX7_guests 55 = .ok (.getfield 32, 3) := by decide +kernel
theorem dX7_guests_58 : decode cX7_guests 58 = .ok (.iload_n 3, 1) := by decide +kernel
theorem dX7_guests_59 : decode cX7_guests 59 = .ok (.invokevirtual 218, 3) := by decide +kernel
theorem dX7_guests_62 : decode cX7_guests 62 = .ok (.aload_n 0, 1) := by decide +kernel
theorem dX7_guests_63 : decode cX7_guests 63 = .ok (.invokevirtual 208, 3) := by decide +kernel
theorem dX7_guests_66 : decode cX7_guests 66 = .ok (.ifCond .eq 5, 3) := by decide +kernel
theorem dX7_guests_69 : decode cX7_guests 69 = .ok (.iload_n 3, 1) := by decide +kernel
theorem dX7_guests_70 : decode cX7_guests 70 = .ok (.ireturn, 1) := by decide +kernel
theorem dX7_guests_71 : decode cX7_guests 71 = .ok (.iinc 3 1, 3) := by decide +kernel
theorem dX7_guests_74 : decode cX7_guests 74 = .ok (.goto (-57), 3) := by decide +kernel
theorem dX7_guests_77 : decode cX7_guests 77 = .ok (.iinc 2 1, 3) := by decide +kernel
theorem dX7_guests_80 : decode cX7_guests 80 = .ok (.goto (-70), 3) := by decide +kernel
theorem dX7_guests_83 : decode cX7_guests 83 = .ok (.iconst (-1), 1) := by decide +kernel
theorem dX7_guests_84 : decode cX7_guests 84 = .ok (.ireturn, 1) := by decide +kernel
theorem dX7_odds_0 : decode cX7_odds 0 = .ok (.iload_n 1, 1) := by decide +kernel
theorem dX7_odds_1 : decode cX7_odds 1 = .ok (.ifCond .lt 18, 3) := by decide +kernel
theorem dX7_odds_4 : decode cX7_odds 4 = .ok (.iload_n 1, 1) := by decide +kernel
theorem dX7_odds_5 : decode cX7_odds 5 = .ok (.bipush 60, 2) := by decide +kernel
theorem dX7_odds_7 : decode cX7_odds 7 = .ok (.if_icmp .ge 12, 3) := by decide +kernel
theorem dX7_odds_10 : decode cX7_odds 10 = .ok (.iload_n 2, 1) := by decide +kernel
theorem dX7_odds_11 : decode cX7_odds 11 = .ok (.ifCond .eq 12, 3) := by decide +kernel
theorem dX7_odds_14 : decode cX7_odds 14 = .ok (.iload_n 2, 1) := by decide +kernel
theorem dX7_odds_15 : decode cX7_odds 15 = .ok (.iconst 1, 1) := by decide +kernel
theorem dX7_odds_16 : decode cX7_odds 16 = .ok (.if_icmp .eq 7, 3) := by decide +kernel
theorem dX7_odds_19 : decode cX7_odds 19 = .ok (.ldc2_w 221, 3) := by decide +kernel
theorem dX7_odds_22 : decode cX7_odds 22 = .ok (.lreturn, 1) := by decide +kernel
theorem dX7_odds_23 : decode cX7_odds 23 = .ok (.aload_n 0, 1) := by decide +kernel
theorem dX7_odds_24 : decode cX7_odds 24 = .ok (.getfield 32, 3) := by decide +kernel
theorem dX7_odds_27 : decode cX7_odds 27 = .ok (.aload_n 0, 1) := by decide +kernel
theorem dX7_odds_28 : decode cX7_odds 28 = .ok (.getfield 28, 3) := by decide +kernel
theorem dX7_odds_31 : decode cX7_odds 31 = .ok (.invokevirtual 163, 3) := by decide +kernel
theorem dX7_odds_34 : decode cX7_odds 34 = .ok (.aload_n 0, 1) := by decide +kernel
theorem dX7_odds_35 : decode cX7_odds 35 = .ok (.getfield 56, 3) := by decide +kernel
theorem dX7_odds_38 : decode cX7_odds 38 = .ok (.aload_n 0, 1) := by decide +kernel
theorem dX7_odds_39 : decode cX7_odds 39 = .ok (.getfield 56, 3) := by decide +kernel
theorem dX7_odds_42 : decode cX7_odds 42 = .ok (.iload_n 1, 1) := by decide +kernel
theorem dX7_odds_43 : decode cX7_odds 43 = .ok (.invokevirtual 223, 3) := by decide +kernel
theorem dX7_odds_46 : decode cX7_odds 46 = .ok (.iload_n 2, 1) := by decide +kernel
theorem dX7_odds_47 : decode cX7_odds 47 = .ok (.invokevirtual 227, 3) := by decide +kernel
theorem dX7_odds_50 : decode cX7_odds 50 = .ok (.lreturn, 1) := by decide +kernel
theorem dX7_mean_0 : decode cX7_mean 0 = .ok (.aload_n 0, 1) := by decide +kernel
theorem dX7_mean_1 : decode cX7_mean 1 = .ok (.iload_n 1, 1) := by decide +kernel
theorem dX7_mean_2 : decode cX7_mean 2 = .ok (.invokevirtual 112, 3) := by decide +kernel
theorem dX7_mean_5 : decode cX7_mean 5 = .ok (.ifCond .eq 12, 3) := by decide +kernel
theorem dX7_mean_8 : decode cX7_mean 8 = .ok (.iload_n 2, 1) := by decide +kernel
theorem dX7_mean_9 : decode cX7_mean 9 = .ok (.ifCond .eq 12, 3) := by decide +kernel
theorem dX7_mean_12 : decode cX7_mean 12 = .ok (.iload_n 2, 1) := by decide +kernel
theorem dX7_mean_13 : decode cX7_mean 13 = .ok (.iconst 1, 1) := by decide +kernel
theorem dX7_mean_14 : decode cX7_mean 14 = .ok (.if_icmp .eq 7, 3) := by decide +kernel
theorem dX7_mean_17 : decode cX7_mean 17 = .ok (.ldc2_w 221, 3) := by decide +kernel
theorem dX7_mean_20 : decode cX7_mean 20 = .ok (.lreturn, 1) := by decide +kernel
theorem dX7_mean_21 : decode cX7_mean 21 = .ok (.aload_n 0, 1) := by decide +kernel
theorem dX7_mean_22 : decode cX7_mean 22 = .ok (.getfield 32, 3) := by decide +kernel
theorem dX7_mean_25 : decode cX7_mean 25 = .ok (.aload_n 0, 1) := by decide +kernel
theorem dX7_mean_26 : decode cX7_mean 26 = .ok (.getfield 28, 3) := by decide +kernel
theorem dX7_mean_29 : decode cX7_mean 29 = .ok (.invokevirtual 163, 3) := by decide +kernel
theorem dX7_mean_32 : decode cX7_mean 32 = .ok (.aload_n 0, 1) := by decide +kernel
theorem dX7_mean_33 : decode cX7_mean 33 = .ok (.getfield 56, 3) := by decide +kernel
theorem dX7_mean_36 : decode cX7_mean 36 = .ok (.aload_n 0, 1) := by decide +kernel
theorem dX7_mean_37 : decode cX7_mean 37 = .ok (.getfield 56, 3) := by decide +kernel
theorem dX7_mean_40 : decode cX7_mean 40 = .ok (.iload_n 1, 1) := by decide +kernel
theorem dX7_mean_41 : decode cX7_mean 41 = .ok (.invokevirtual 231, 3) := by decide +kernel
theorem dX7_mean_44 : decode cX7_mean 44 = .ok (.iload_n 2, 1) := by decide +kernel
theorem dX7_mean_45 : decode cX7_mean 45 = .ok (.invokevirtual 227, 3) := by decide +kernel
theorem dX7_mean_48 : decode cX7_mean 48 = .ok (.lreturn, 1) := by decide +kernel
theorem dX7_sure_0 : decode cX7_sure 0 = .ok (.aload_n 0, 1) := by decide +kernel
theorem dX7_sure_1 : decode cX7_sure 1 = .ok (.iload_n 1, 1) := by decide +kernel
theorem dX7_sure_2 : decode cX7_sure 2 = .ok (.invokevirtual 88, 3) := by decide +kernel
theorem dX7_sure_5 : decode cX7_sure 5 = .ok (.ifCond .ne 6, 3) := by decide +kernel
theorem dX7_sure_8 : decode cX7_sure 8 = .ok (.bipush (-2), 2) := by decide +kernel
theorem dX7_sure_10 : decode cX7_sure 10 = .ok (.ireturn, 1) := by decide +kernel
theorem dX7_sure_11 : decode cX7_sure 11 = .ok (.aload_n 0, 1) := by decide +kernel
theorem dX7_sure_12 : decode cX7_sure 12 = .ok (.getfield 32, 3) := by decide +kernel
theorem dX7_sure_15 : decode cX7_sure 15 = .ok (.aload_n 0, 1) := by decide +kernel
theorem dX7_sure_16 : decode cX7_sure 16 = .ok (.getfield 28, 3) := by decide +kernel
theorem dX7_sure_19 : decode cX7_sure 19 = .ok (.invokevirtual 163, 3) := by decide +kernel
theorem dX7_sure_22 : decode cX7_sure 22 = .ok (.iconst 0, 1) := by decide +kernel
theorem dX7_sure_23 : decode cX7_sure 23 = .ok (.istore_n 2, 1) := by decide +kernel
theorem dX7_sure_24 : decode cX7_sure 24 = .ok (.ldc2_w 234, 3) := by decide +kernel
theorem dX7_sure_27 : decode cX7_sure 27 = .ok (.lstore_n 3, 1) := by decide +kernel
theorem dX7_sure_28 : decode cX7_sure 28 = .ok (.iconst 0, 1) := by decide +kernel
theorem dX7_sure_29 : decode cX7_sure 29 = .ok (.istore 5, 2) := by decide +kernel
theorem dX7_sure_31 : decode cX7_sure 31 = .ok (.iload 5, 2) := by decide +kernel
theorem dX7_sure_33 : decode cX7_sure 33 = .ok (.bipush 60, 2) := by decide +kernel
theorem dX7_sure_35 : decode cX7_sure 35 = .ok (.if_icmp .gt 43, 3) := by decide +kernel
theorem dX7_sure_38 : decode cX7_sure 38 = .ok (.aload_n 0, 1) := by decide +kernel
theorem dX7_sure_39 : decode cX7_sure 39 = .ok (.getfield 32, 3) := by decide +kernel
theorem dX7_sure_42 : decode cX7_sure 42 = .ok (.getfield 85, 3) := by decide +kernel
theorem dX7_sure_45 : decode cX7_sure 45 = .ok (.iload_n 1, 1) := by decide +kernel
theorem dX7_sure_46 : decode cX7_sure 46 = .ok (.iload 5, 2) := by decide +kernel
theorem dX7_sure_48 : decode cX7_sure 48 = .ok (.iastore, 1) := by decide +kernel
theorem dX7_sure_49 : decode cX7_sure 49 = .ok (.aload_n 0, 1) := by decide +kernel
theorem dX7_sure_50 : decode cX7_sure 50 = .ok (.getfield 56, 3) := by decide +kernel
theorem dX7_sure_53 : decode cX7_sure 53 = .ok (.iload_n 1, 1) := by decide +kernel
theorem dX7_sure_54 : decode cX7_sure 54 = .ok (.invokevirtual 231, 3) := by decide +kernel
theorem dX7_sure_57 : decode cX7_sure 57 = .ok (.lstore 6, 2) := by decide +kernel
theorem dX7_sure_59 : decode cX7_sure 59 = .ok (.lload 6, 2) := by decide +kernel
theorem dX7_sure_61 : decode cX7_sure 61 = .ok (.lload_n 3, 1) := by decide +kernel
theorem dX7_sure_62 : decode cX7_sure 62 = .ok (.lcmp, 1) := by decide +kernel
theorem dX7_sure_63 : decode cX7_sure 63 = .ok (.ifCond .ge 9, 3) := by decide +kernel
theorem dX7_sure_66 : decode cX7_sure 66 = .ok (.lload 6, 2) := by decide +kernel
theorem dX7_sure_68 : decode cX7_sure 68 = .ok (.lstore_n 3, 1) := by decide +kernel
theorem dX7_sure_69 : decode cX7_sure 69 = .ok (.iload 5, 2) := by decide +kernel
theorem dX7_sure_71 : decode cX7_sure 71 = .ok (.istore_n 2, 1) := by decide +kernel
theorem dX7_sure_72 : decode cX7_sure 72 = .ok (.iinc 5 1, 3) := by decide +kernel
theorem dX7_sure_75 : decode cX7_sure 75 = .ok (.goto (-44), 3) := by decide +kernel
theorem dX7_sure_78 : decode cX7_sure 78 = .ok (.iload_n 2, 1) := by decide +kernel
theorem dX7_sure_79 : decode cX7_sure 79 = .ok (.ireturn, 1) := by decide +kernel
theorem dX7_sheet_0 : decode cX7_sheet 0 = .ok (.iload_n 1, 1) := by decide +kernel
theorem dX7_sheet_1 : decode cX7_sheet 1 = .ok (.invokestatic 95, 3) := by decide +kernel
theorem dX7_sheet_4 : decode cX7_sheet 4 = .ok (.ifCond .eq 16, 3) := by decide +kernel
theorem dX7_sheet_7 : decode cX7_sheet 7 = .ok (.iload_n 2, 1) := by decide +kernel
theorem dX7_sheet_8 : decode cX7_sheet 8 = .ok (.invokestatic 236, 3) := by decide +kernel
theorem dX7_sheet_11 : decode cX7_sheet 11 = .ok (.ifCond .eq 9, 3) := by decide +kernel
theorem dX7_sheet_14 : decode cX7_sheet 14 = .ok (.iload_n 3, 1) := by decide +kernel
theorem dX7_sheet_15 : decode cX7_sheet 15 = .ok (.bipush 64, 2) := by decide +kernel
theorem dX7_sheet_17 : decode cX7_sheet 17 = .ok (.if_icmp .le 6, 3) := by decide +kernel
theorem dX7_sheet_20 : decode cX7_sheet 20 = .ok (.bipush (-2), 2) := by decide +kernel
theorem dX7_sheet_22 : decode cX7_sheet 22 = .ok (.ireturn, 1) := by decide +kernel
theorem dX7_sheet_23 : decode cX7_sheet 23 = .ok (.iload_n 3, 1) := by decide +kernel
theorem dX7_sheet_24 : decode cX7_sheet 24 = .ok (.ifCond .ge 12, 3) := by decide +kernel
theorem dX7_sheet_27 : decode cX7_sheet 27 = .ok (.aload_n 0, 1) := by decide +kernel
theorem dX7_sheet_28 : decode cX7_sheet 28 = .ok (.getfield 63, 3) := by decide +kernel
theorem dX7_sheet_31 : decode cX7_sheet 31 = .ok (.iconst 5, 1) := by decide +kernel
theorem dX7_sheet_32 : decode cX7_sheet 32 = .ok (.invokevirtual 101, 3) := by decide +kernel
theorem dX7_sheet_35 : decode cX7_sheet 35 = .ok (.ireturn, 1) := by decide +kernel
theorem dX7_sheet_36 : decode cX7_sheet 36 = .ok (.aload_n 0, 1) := by decide +kernel
theorem dX7_sheet_37 : decode cX7_sheet 37 = .ok (.getfield 63, 3) := by decide +kernel
theorem dX7_sheet_40 : decode cX7_sheet 40 = .ok (.iload_n 1, 1) := by decide +kernel
theorem dX7_sheet_41 : decode cX7_sheet 41 = .ok (.iload_n 2, 1) := by decide +kernel
theorem dX7_sheet_42 : decode cX7_sheet 42 = .ok (.iload_n 3, 1) := by decide +kernel
theorem dX7_sheet_43 : decode cX7_sheet 43 = .ok (.invokevirtual 239, 3) := by decide +kernel
theorem dX7_sheet_46 : decode cX7_sheet 46 = .ok (.iload_n 3, 1) := by decide +kernel
theorem dX7_sheet_47 : decode cX7_sheet 47 = .ok (.ireturn, 1) := by decide +kernel
theorem dX7_lose_0 : decode cX7_lose 0 = .ok (.iload_n 1, 1) := by decide +kernel
theorem dX7_lose_1 : decode cX7_lose 1 = .ok (.invokestatic 95, 3) := by decide +kernel
theorem dX7_lose_4 : decode cX7_lose 4 = .ok (.ifCond .ne 6, 3) := by decide +kernel
theorem dX7_lose_7 : decode cX7_lose 7 = .ok (.bipush (-2), 2) := by decide +kernel
theorem dX7_lose_9 : decode cX7_lose 9 = .ok (.ireturn, 1) := by decide +kernel
theorem dX7_lose_10 : decode cX7_lose 10 = .ok (.aload_n 0, 1) := by decide +kernel
theorem dX7_lose_11 : decode cX7_lose 11 = .ok (.getfield 63, 3) := by decide +kernel
theorem dX7_lose_14 : decode cX7_lose 14 = .ok (.iload_n 1, 1) := by decide +kernel
theorem dX7_lose_15 : decode cX7_lose 15 = .ok (.invokevirtual 98, 3) := by decide +kernel
theorem dX7_lose_18 : decode cX7_lose 18 = .ok (.ifCond .eq 12, 3) := by decide +kernel
theorem dX7_lose_21 : decode cX7_lose 21 = .ok (.aload_n 0, 1) := by decide +kernel
theorem dX7_lose_22 : decode cX7_lose 22 = .ok (.getfield 63, 3) := by decide +kernel
theorem dX7_lose_25 : decode cX7_lose 25 = .ok (.iconst 1, 1) := by decide +kernel
theorem dX7_lose_26 : decode cX7_lose 26 = .ok (.invokevirtual 101, 3) := by decide +kernel
theorem dX7_lose_29 : decode cX7_lose 29 = .ok (.ireturn, 1) := by decide +kernel
theorem dX7_lose_30 : decode cX7_lose 30 = .ok (.aload_n 0, 1) := by decide +kernel
theorem dX7_lose_31 : decode cX7_lose 31 = .ok (.getfield 63, 3) := by decide +kernel
theorem dX7_lose_34 : decode cX7_lose 34 = .ok (.getfield 105, 3) := by decide +kernel
theorem dX7_lose_37 : decode cX7_lose 37 = .ok (.iload_n 1, 1) := by decide +kernel
theorem dX7_lose_38 : decode cX7_lose 38 = .ok (.iaload, 1) := by decide +kernel
theorem dX7_lose_39 : decode cX7_lose 39 = .ok (.istore_n 2, 1) := by decide +kernel
theorem dX7_lose_40 : decode cX7_lose 40 = .ok (.aload_n 0, 1) := by decide +kernel
theorem dX7_lose_41 : decode cX7_lose 41 = .ok (.getfield 63, 3) := by decide +kernel
theorem dX7_lose_44 : decode cX7_lose 44 = .ok (.iload_n 1, 1) := by decide +kernel
theorem dX7_lose_45 : decode cX7_lose 45 = .ok (.invokevirtual 242, 3) := by decide +kernel
theorem dX7_lose_48 : decode cX7_lose 48 = .ok (.iload_n 2, 1) := by decide +kernel
theorem dX7_lose_49 : decode cX7_lose 49 = .ok (.ireturn, 1) := by decide +kernel
theorem dX7_put_0 : decode cX7_put 0 = .ok (.iload_n 1, 1) := by decide +kernel
theorem dX7_put_1 : decode cX7_put 1 = .ok (.invokestatic 95, 3) := by decide +kernel
theorem dX7_put_4 : decode cX7_put 4 = .ok (.ifCond .eq 10, 3) := by decide +kernel
theorem dX7_put_7 : decode cX7_put 7 = .ok (.iload_n 2, 1) := by decide +kernel
theorem dX7_put_8 : decode cX7_put 8 = .ok (.invokestatic 236, 3) := by decide +kernel
theorem dX7_put_11 : decode cX7_put 11 = .ok (.ifCond .ne 6, 3) := by decide +kernel
theorem dX7_put_14 : decode cX7_put 14 = .ok (.bipush (-2), 2) := by decide +kernel
theorem dX7_put_16 : decode cX7_put 16 = .ok (.ireturn, 1) := by decide +kernel
theorem dX7_put_17 : decode cX7_put 17 = .ok (.aload_n 0, 1) := by decide +kernel
theorem dX7_put_18 : decode cX7_put 18 = .ok (.getfield 63, 3) := by decide +kernel
theorem dX7_put_21 : decode cX7_put 21 = .ok (.iload_n 1, 1) := by decide +kernel
theorem dX7_put_22 : decode cX7_put 22 = .ok (.iload_n 2, 1) := by decide +kernel
theorem dX7_put_23 : decode cX7_put 23 = .ok (.iload_n 3, 1) := by decide +kernel
theorem dX7_put_24 : decode cX7_put 24 = .ok (.invokevirtual 245, 3) := by decide +kernel
theorem dX7_put_27 : decode cX7_put 27 = .ok (.istore 5, 2) := by decide +kernel
theorem dX7_put_29 : decode cX7_put 29 = .ok (.iload 5, 2) := by decide +kernel
theorem dX7_put_31 : decode cX7_put 31 = .ok (.ifCond .eq 13, 3) := by decide +kernel
theorem dX7_put_34 : decode cX7_put 34 = .ok (.aload_n 0, 1) := by decide +kernel
theorem dX7_put_35 : decode cX7_put 35 = .ok (.getfield 63, 3) := by decide +kernel
theorem dX7_put_38 : decode cX7_put 38 = .ok (.iload 5, 2) := by decide +kernel
theorem dX7_put_40 : decode cX7_put 40 = .ok (.invokevirtual 101, 3) := by decide +kernel
theorem dX7_put_43 : decode cX7_put 43 = .ok (.ireturn, 1) := by decide +kernel
theorem dX7_put_44 : decode cX7_put 44 = .ok (.aload_n 0, 1) := by decide +kernel
theorem dX7_put_45 : decode cX7_put 45 = .ok (.getfield 63, 3) := by decide +kernel
theorem dX7_put_48 : decode cX7_put 48 = .ok (.getfield 108, 3) := by decide +kernel
theorem dX7_put_51 : decode cX7_put 51 = .ok (.iload_n 1, 1) := by decide +kernel
theorem dX7_put_52 : decode cX7_put 52 = .ok (.aaload, 1) := by decide +kernel
theorem dX7_put_53 : decode cX7_put 53 = .ok (.iload_n 3, 1) := by decide +kernel
theorem dX7_put_54 : decode cX7_put 54 = .ok (.aload_n 0, 1) := by decide +kernel
theorem dX7_put_55 : decode cX7_put 55 = .ok (.getfield 63, 3) := by decide +kernel
theorem dX7_put_58 : decode cX7_put 58 = .ok (.iload_n 2, 1) := by decide +kernel
theorem dX7_put_59 : decode cX7_put 59 = .ok (.iload 4, 2) := by decide +kernel
theorem dX7_put_61 : decode cX7_put 61 = .ok (.invokevirtual 248, 3) := by decide +kernel
theorem dX7_put_64 : decode cX7_put 64 = .ok (.iastore, 1) := by decide +kernel
theorem dX7_put_65 : decode cX7_put 65 = .ok (.iconst 1, 1) := by decide +kernel
theorem dX7_put_66 : decode cX7_put 66 = .ok (.ireturn, 1) := by decide +kernel
theorem dX7_get_0 : decode cX7_get 0 = .ok (.iload_n 1, 1) := by decide +kernel
theorem dX7_get_1 : decode cX7_get 1 = .ok (.invokestatic 95, 3) := by decide +kernel
theorem dX7_get_4 : decode cX7_get 4 = .ok (.ifCond .eq 10, 3) := by decide +kernel
theorem dX7_get_7 : decode cX7_get 7 = .ok (.iload_n 2, 1) := by decide +kernel
theorem dX7_get_8 : decode cX7_get 8 = .ok (.invokestatic 236, 3) := by decide +kernel
theorem dX7_get_11 : decode cX7_get 11 = .ok (.ifCond .ne 6, 3) := by decide +kernel
theorem dX7_get_14 : decode cX7_get 14 = .ok (.ldc 251, 2) := by decide +kernel
theorem dX7_get_16 : decode cX7_get 16 = .ok (.ireturn, 1) := by decide +kernel
theorem dX7_get_17 : decode cX7_get 17 = .ok (.aload_n 0, 1) := by decide +kernel
theorem dX7_get_18 : decode cX7_get 18 = .ok (.getfield 63, 3) := by decide +kernel
theorem dX7_get_21 : decode cX7_get 21 = .ok (.iload_n 1, 1) := by decide +kernel
theorem dX7_get_22 : decode cX7_get 22 = .ok (.iload_n 2, 1) := by decide +kernel
theorem dX7_get_23 : decode cX7_get 23 = .ok (.iload_n 3, 1) := by decide +kernel
theorem dX7_get_24 : decode cX7_get 24 = .ok (.invokevirtual 245, 3) := by decide +kernel
theorem dX7_get_27 : decode cX7_get 27 = .ok (.istore 4, 2) := by decide +kernel
theorem dX7_get_29 : decode cX7_get 29 = .ok (.iload 4, 2) := by decide +kernel
theorem dX7_get_31 : decode cX7_get 31 = .ok (.ifCond .eq 16, 3) := by decide +kernel
theorem dX7_get_34 : decode cX7_get 34 = .ok (.aload_n 0, 1) := by decide +kernel
theorem dX7_get_35 : decode cX7_get 35 = .ok (.getfield 63, 3) := by decide +kernel
theorem dX7_get_38 : decode cX7_get 38 = .ok (.iload 4, 2) := by decide +kernel
theorem dX7_get_40 : decode cX7_get 40 = .ok (.invokevirtual 101, 3) := by decide +kernel
theorem dX7_get_43 : decode cX7_get 43 = .ok (.pop, 1) := by decide +kernel
theorem dX7_get_44 : decode cX7_get 44 = .ok (.ldc 251, 2) := by decide +kernel
theorem dX7_get_46 : decode cX7_get 46 = .ok (.ireturn, 1) := by decide +kernel
theorem dX7_get_47 : decode cX7_get 47 = .ok (.aload_n 0, 1) := by decide +kernel
theorem dX7_get_48 : decode cX7_get 48 = .ok (.getfield 63, 3) := by decide +kernel
theorem dX7_get_51 : decode cX7_get 51 = .ok (.getfield 108, 3) := by decide +kernel
theorem dX7_get_54 : decode cX7_get 54 = .ok (.iload_n 1, 1) := by decide +kernel
theorem dX7_get_55 : decode cX7_get 55 = .ok (.aaload, 1) := by decide +kernel
theorem dX7_get_56 : decode cX7_get 56 = .ok (.iload_n 3, 1) := by decide +kernel
theorem dX7_get_57 : decode cX7_get 57 = .ok (.iaload, 1) := by decide +kernel
theorem dX7_get_58 : decode cX7_get 58 = .ok (.ireturn, 1) := by decide +kernel
theorem dX7_copy_0 : decode cX7_copy 0 = .ok (.iload_n 1, 1) := by decide +kernel
theorem dX7_copy_1 : decode cX7_copy 1 = .ok (.invokestatic 95, 3) := by decide +kernel
theorem dX7_copy_4 : decode cX7_copy 4 = .ok (.ifCond .eq 10, 3) := by decide +kernel
theorem dX7_copy_7 : decode cX7_copy 7 = .ok (.iload_n 3, 1) := by decide +kernel
theorem dX7_copy_8 : decode cX7_copy 8 = .ok (.invokestatic 95, 3) := by decide +kernel
theorem dX7_copy_11 : decode cX7_copy 11 = .ok (.ifCond .ne 6, 3) := by decide +kernel
theorem dX7_copy_14 : decode cX7_copy 14 = .ok (.bipush (-2), 2) := by decide +kernel
theorem dX7_copy_16 : decode cX7_copy 16 = .ok (.ireturn, 1) := by decide +kernel
theorem dX7_copy_17 : decode cX7_copy 17 = .ok (.aload_n 0, 1) := by decide +kernel
theorem dX7_copy_18 : decode cX7_copy 18 = .ok (.getfield 63, 3) := by decide +kernel
theorem dX7_copy_21 : decode cX7_copy 21 = .ok (.iload_n 1, 1) := by decide +kernel
theorem dX7_copy_22 : decode cX7_copy 22 = .ok (.invokevirtual 98, 3) := by decide +kernel
theorem dX7_copy_25 : decode cX7_copy 25 = .ok (.ifCond .ne 14, 3) := by decide +kernel
theorem dX7_copy_28 : decode cX7_copy 28 = .ok (.aload_n 0, 1) := by decide +kernel
theorem dX7_copy_29 : decode cX7_copy 29 = .ok (.getfield 63, 3) := by decide +kernel
theorem dX7_copy_32 : decode cX7_copy 32 = .ok (.iload_n 3, 1) := by decide +kernel
theorem dX7_copy_33 : decode cX7_copy 33 = .ok (.invokevirtual 98, 3) := by decide +kernel
theorem dX7_copy_36 : decode cX7_copy 36 = .ok (.ifCond .eq 12, 3) := by decide +kernel
theorem dX7_copy_39 : decode cX7_copy 39 = .ok (.aload_n 0, 1) := by decide +kernel
theorem dX7_copy_40 : decode cX7_copy 40 = .ok (.getfield 63, 3) := by decide +kernel
theorem dX7_copy_43 : decode cX7_copy 43 = .ok (.iconst 1, 1) := by decide +kernel
theorem dX7_copy_44 : decode cX7_copy 44 = .ok (.invokevirtual 101, 3) := by decide +kernel
theorem dX7_copy_47 : decode cX7_copy 47 = .ok (.ireturn, 1) := by decide +kernel
theorem dX7_copy_48 : decode cX7_copy 48 = .ok (.aload_n 0, 1) := by decide +kernel
theorem dX7_copy_49 : decode cX7_copy 49 = .ok (.getfield 63, 3) := by decide +kernel
theorem dX7_copy_52 : decode cX7_copy 52 = .ok (.getfield 252, 3) := by decide +kernel
theorem dX7_copy_55 : decode cX7_copy 55 = .ok (.iload_n 1, 1) := by decide +kernel
theorem dX7_copy_56 : decode cX7_copy 56 = .ok (.iaload, 1) := by decide +kernel
theorem dX7_copy_57 : decode cX7_copy 57 = .ok (.aload_n 0, 1) := by decide +kernel
theorem dX7_copy_58 : decode cX7_copy 58 = .ok (.getfield 63, 3) := by decide +kernel
theorem dX7_copy_61 : decode cX7_copy 61 = .ok (.getfield 252, 3) := by decide +kernel
theorem dX7_copy_64 : decode cX7_copy 64 = .ok (.iload_n 3, 1) := by decide +kernel
theorem dX7_copy_65 : decode cX7_copy 65 = .ok (.iaload, 1) := by decide +kernel
theorem dX7_copy_66 : decode cX7_copy 66 = .ok (.if_icmp .eq 12, 3) := by decide +kernel
theorem dX7_copy_69 : decode cX7_copy 69 = .ok (.aload_n 0, 1) := by decide +kernel
theorem dX7_copy_70 : decode cX7_copy 70 = .ok (.getfield 63, 3) := by decide +kernel
theorem dX7_copy_73 : decode cX7_copy 73 = .ok (.iconst 4, 1) := by decide +kernel
theorem dX7_copy_74 : decode cX7_copy 74 = .ok (.invokevirtual 101, 3) := by decide +kernel
theorem dX7_copy_77 : decode cX7_copy 77 = .ok (.ireturn, 1) := by decide +kernel
theorem dX7_copy_78 : decode cX7_copy 78 = .ok (.iload 5, 2) := by decide +kernel
theorem dX7_copy_80 : decode cX7_copy 80 = .ok (.ifCond .lt 32, 3) := by decide +kernel
theorem dX7_copy_83 : decode cX7_copy 83 = .ok (.aload_n 0, 1) := by decide +kernel
theorem dX7_copy_84 : decode cX7_copy 84 = .ok (.getfield 63, 3) := by decide +kernel
theorem dX7_copy_87 : decode cX7_copy 87 = .ok (.iload_n 1, 1) := by decide +kernel
theorem dX7_copy_88 : decode cX7_copy 88 = .ok (.iload_n 2, 1) := by decide +kernel
theorem dX7_copy_89 : decode cX7_copy 89 = .ok (.iload 5, 2) := by decide +kernel
theorem dX7_copy_91 : decode cX7_copy 91 = .ok (.invokevirtual 255, 3) := by decide +kernel
theorem dX7_copy_94 : decode cX7_copy 94 = .ok (.ifCond .eq 18, 3) := by decide +kernel
theorem dX7_copy_97 : decode cX7_copy 97 = .ok (.aload_n 0, 1) := by decide +kernel
theorem dX7_copy_98 : decode cX7_copy 98 = .ok (.getfield 63, 3) := by decide +kernel
theorem dX7_copy_101 : decode cX7_copy 101 = .ok (.iload_n 3, 1) := by decide +kernel
theorem dX7_copy_102 : decode cX7_copy 102 = .ok (.iload 4, 2) := by decide +kernel
theorem dX7_copy_104 : decode cX7_copy 104 = .ok (.iload 5, 2) := by decide +kernel
theorem dX7_copy_106 : decode cX7_copy 106 = .ok (.invokevirtual 255, 3) := by decide +kernel
theorem dX7_copy_109 : decode cX7_copy 109 = .ok (.ifCond .ne 12, 3) := by decide +kernel
theorem dX7_copy_112 : decode cX7_copy 112 = .ok (.aload_n 0, 1) := by decide +kernel
theorem dX7_copy_113 : decode cX7_copy 113 = .ok (.getfield 63, 3) := by decide +kernel
theorem dX7_copy_116 : decode cX7_copy 116 = .ok (.iconst 2, 1) := by decide +kernel
theorem dX7_copy_117 : decode cX7_copy 117 = .ok (.invokevirtual 101, 3) := by decide +kernel
theorem dX7_copy_120 : decode cX7_copy 120 = .ok (.ireturn, 1) := by decide +kernel
theorem dX7_copy_121 : decode cX7_copy 121 = .ok (.aload_n 0, 1) := by decide +kernel
theorem dX7_copy_122 : decode cX7_copy 122 = .ok (.getfield 63, 3) := by decide +kernel
theorem dX7_copy_125 : decode cX7_copy 125 = .ok (.getfield 108, 3) := by decide +kernel
theorem dX7_copy_128 : decode cX7_copy 128 = .ok (.iload_n 1, 1) := by decide +kernel
theorem dX7_copy_129 : decode cX7_copy 129 = .ok (.aaload, 1) := by decide +kernel
theorem dX7_copy_130 : decode cX7_copy 130 = .ok (.iload_n 2, 1) := by decide +kernel
theorem dX7_copy_131 : decode cX7_copy 131 = .ok (.aload_n 0, 1) := by decide +kernel
theorem dX7_copy_132 : decode cX7_copy 132 = .ok (.getfield 63, 3) := by decide +kernel
theorem dX7_copy_135 : decode cX7_copy 135 = .ok (.getfield 108, 3) := by decide +kernel
theorem dX7_copy_138 : decode cX7_copy 138 = .ok (.iload_n 3, 1) := by decide +kernel
theorem dX7_copy_139 : decode cX7_copy 139 = .ok (.aaload, 1) := by decide +kernel
theorem dX7_copy_140 : decode cX7_copy 140 = .ok (.iload 4, 2) := by decide +kernel
theorem dX7_copy_142 : decode cX7_copy 142 = .ok (.iload 5, 2) := by decide +kernel
theorem dX7_copy_144 : decode cX7_copy 144 = .ok (.invokestatic 258, 3) := by decide +kernel
theorem dX7_copy_147 : decode cX7_copy 147 = .ok (.iconst 1, 1) := by decide +kernel
theorem dX7_copy_148 : decode cX7_copy 148 = .ok (.ireturn, 1) := by decide +kernel
theorem dX7_write_0 : decode cX7_write 0 = .ok (.iload_n 1, 1) := by decide +kernel
theorem dX7_write_1 : decode cX7_write 1 = .ok (.invokestatic 95, 3) := by decide +kernel
theorem dX7_write_4 : decode cX7_write 4 = .ok (.ifCond .ne 6, 3) := by decide +kernel
theorem dX7_write_7 : decode cX7_write 7 = .ok (.bipush (-2), 2) := by decide +kernel
theorem dX7_write_9 : decode cX7_write 9 = .ok (.ireturn, 1) := by decide +kernel
theorem dX7_write_10 : decode cX7_write 10 = .ok (.aload_n 0, 1) := by decide +kernel
theorem dX7_write_11 : decode cX7_write 11 = .ok (.getfield 63, 3) := by decide +kernel
theorem dX7_write_14 : decode cX7_write 14 = .ok (.iload_n 1, 1) := by decide +kernel
theorem dX7_write_15 : decode cX7_write 15 = .ok (.invokevirtual 98, 3) := by decide +kernel
theorem dX7_write_18 : decode cX7_write 18 = .ok (.ifCond .eq 12, 3) := by decide +kernel
theorem dX7_write_21 : decode cX7_write 21 = .ok (.aload_n 0, 1) := by decide +kernel
theorem dX7_write_22 : decode cX7_write 22 = .ok (.getfield 63, 3) := by decide +kernel
theorem dX7_write_25 : decode cX7_write 25 = .ok (.iconst 1, 1) := by decide +kernel
theorem dX7_write_26 : decode cX7_write 26 = .ok (.invokevirtual 101, 3) := by decide +kernel
theorem dX7_write_29 : decode cX7_write 29 = .ok (.ireturn, 1) := by decide +kernel
theorem dX7_write_30 : decode cX7_write 30 = .ok (.aload_n 0, 1) := by decide +kernel
theorem dX7_write_31 : decode cX7_write 31 = .ok (.getfield 63, 3) := by decide +kernel
theorem dX7_write_34 : decode cX7_write 34 = .ok (.getfield 105, 3) := by decide +kernel
theorem dX7_write_37 : decode cX7_write 37 = .ok (.iload_n 1, 1) := by decide +kernel
theorem dX7_write_38 : decode cX7_write 38 = .ok (.iaload, 1) := by decide +kernel
theorem dX7_write_39 : decode cX7_write 39 = .ok (.bipush 61, 2) := by decide +kernel
theorem dX7_write_41 : decode cX7_write 41 = .ok (.invokestatic 264, 3) := by decide +kernel
theorem dX7_write_44 : decode cX7_write 44 = .ok (.istore_n 2, 1) := by decide +kernel
theorem dX7_write_45 : decode cX7_write 45 = .ok (.aload_n 0, 1) := by decide +kernel
theorem dX7_write_46 : decode cX7_write 46 = .ok (.getfield 32, 3) := by decide +kernel
theorem dX7_write_49 : decode cX7_write 49 = .ok (.aload_n 0, 1) := by decide +kernel
theorem dX7_write_50 : decode cX7_write 50 = .ok (.getfield 28, 3) := by decide +kernel
theorem dX7_write_53 : decode cX7_write 53 = .ok (.invokevirtual 163, 3) := by decide +kernel
theorem dX7_write_56 : decode cX7_write 56 = .ok (.aload_n 0, 1) := by decide +kernel
theorem dX7_write_57 : decode cX7_write 57 = .ok (.getfield 47, 3) := by decide +kernel
theorem dX7_write_60 : decode cX7_write 60 = .ok (.iload_n 2, 1) := by decide +kernel
theorem dX7_write_61 : decode cX7_write 61 = .ok (.iconst 1, 1) := by decide +kernel
theorem dX7_write_62 : decode cX7_write 62 = .ok (.isub, 1) := by decide +kernel
theorem dX7_write_63 : decode cX7_write 63 = .ok (.invokevirtual 191, 3) := by decide +kernel
theorem dX7_write_66 : decode cX7_write 66 = .ok (.iconst 0, 1) := by decide +kernel
theorem dX7_write_67 : decode cX7_write 67 = .ok (.istore_n 3, 1) := by decide +kernel
theorem dX7_write_68 : decode cX7_write 68 = .ok (.iload_n 3, 1) := by decide +kernel
theorem dX7_write_69 : decode cX7_write 69 = .ok (.iload_n 2, 1) := by decide +kernel
theorem dX7_write_70 : decode cX7_write 70 = .ok (.if_icmp .ge 29, 3) := by decide +kernel
theorem dX7_write_73 : decode cX7_write 73 = .ok (.aload_n 0, 1) := by decide +kernel
theorem dX7_write_74 : decode cX7_write 74 = .ok (.getfield 63, 3) := by decide +kernel
theorem dX7_write_77 : decode cX7_write 77 = .ok (.getfield 108, 3) := by decide +kernel
theorem dX7_write_80 : decode cX7_write 80 = .ok (.iload_n 1, 1) := by decide +kernel
theorem dX7_write_81 : decode cX7_write 81 = .ok (.aaload, 1) := by decide +kernel
theorem dX7_write_82 : decode cX7_write 82 = .ok (.iload_n 3, 1) := by decide +kernel
theorem dX7_write_83 : decode cX7_write 83 = .ok (.aload_n 0, 1) := by decide +kernel
theorem dX7_write_84 : decode cX7_write 84 = .ok (.getfield 47, 3) := by decide +kernel
theorem dX7_write_87 : decode cX7_write 87 = .ok (.getfield 194, 3) := by decide +kernel
theorem dX7_write_90 : decode cX7_write 90 = .ok (.iload_n 3, 1) := by decide +kernel
theorem dX7_write_91 : decode cX7_write 91 = .ok (.iaload, 1) := by decide +kernel
theorem dX7_write_92 : decode cX7_write 92 = .ok (.iastore, 1) := by decide +kernel
theorem dX7_write_93 : decode cX7_write 93 = .ok (.iinc 3 1, 3) := by decide +kernel
theorem dX7_write_96 : decode cX7_write 96 = .ok (.goto (-28), 3) := by decide +kernel
theorem dX7_write_99 : decode cX7_write 99 = .ok (.iload_n 2, 1) := by decide +kernel
theorem dX7_write_100 : decode cX7_write 100 = .ok (.ireturn, 1) := by decide +kernel
theorem dX7_count_0 : decode cX7_count 0 = .ok (.iload_n 1, 1) := by decide +kernel
theorem dX7_count_1 : decode cX7_count 1 = .ok (.tableswitch 129 0 8 #[51, 59, 67, 77, 87, 97, 105, 113, 121], 51) := by decide +kernel
theorem dX7_count_52 : decode cX7_count 52 = .ok (.aload_n 0, 1) := by decide +kernel
theorem dX7_count_53 : decode cX7_count 53 = .ok (.getfield 12, 3) := by decide +kernel
theorem dX7_count_56 : decode cX7_count 56 = .ok (.getfield 71, 3) := by decide +kernel
theorem dX7_count_59 : decode cX7_count 59 = .ok (.ireturn, 1) := by decide +kernel
theorem dX7_count_60 : decode cX7_count 60 = .ok (.aload_n 0, 1) := by decide +kernel
theorem dX7_count_61 : decode cX7_count 61 = .ok (.getfield 28, 3) := by decide +kernel
theorem dX7_count_64 : decode cX7_count 64 = .ok (.invokevirtual 173, 3) := by decide +kernel
theorem dX7_count_67 : decode cX7_count 67 = .ok (.ireturn, 1) := by decide +kernel
theorem dX7_count_68 : decode cX7_count 68 = .ok (.aload_n 0, 1) := by decide +kernel
theorem dX7_count_69 : decode cX7_count 69 = .ok (.getfield 28, 3) := by decide +kernel
theorem dX7_count_72 : decode cX7_count 72 = .ok (.getfield 127, 3) := by decide +kernel
theorem dX7_count_75 : decode cX7_count 75 = .ok (.iconst 0, 1) := by decide +kernel
theorem dX7_count_76 : decode cX7_count 76 = .ok (.iaload, 1) := by decide +kernel
theorem dX7_count_77 : decode cX7_count 77 = .ok (.ireturn, 1) := by decide +kernel
theorem dX7_count_78 : decode cX7_count 78 = .ok (.aload_n 0, 1) := by decide +kernel
theorem dX7_count_79 : decode cX7_count 79 = .ok (.getfield 28, 3) := by decide +kernel
theorem dX7_count_82 : decode cX7_count 82 = .ok (.getfield 127, 3) := by decide +kernel
theorem dX7_count_85 : decode cX7_count 85 = .ok (.iconst 1, 1) := by decide +kernel
theorem dX7_count_86 : decode cX7_count 86 = .ok (.iaload, 1) := by decide +kernel
theorem dX7_count_87 : decode cX7_count 87 = .ok (.ireturn, 1) := by decide +kernel
theorem dX7_count_88 : decode cX7_count 88 = .ok (.aload_n 0, 1) := by decide +kernel
theorem dX7_count_89 : decode cX7_count 89 = .ok (.getfield 28, 3) := by decide +kernel
theorem dX7_count_92 : decode cX7_count 92 = .ok (.getfield 127, 3) := by decide +kernel
theorem dX7_count_95 : decode cX7_count 95 = .ok (.iconst 2, 1) := by decide +kernel
theorem dX7_count_96 : decode cX7_count 96 = .ok (.iaload, 1) := by decide +kernel
theorem dX7_count_97 : decode cX7_count 97 = .ok (.ireturn, 1) := by decide +kernel
theorem dX7_count_98 : decode cX7_count 98 = .ok (.aload_n 0, 1) := by decide +kernel
theorem dX7_count_99 : decode cX7_count 99 = .ok (.getfield 19, 3) := by decide +kernel
theorem dX7_count_102 : decode cX7_count 102 = .ok (.getfield 133, 3) := by decide +kernel
theorem dX7_count_105 : decode cX7_count 105 = .ok (.ireturn, 1) := by decide +kernel
theorem dX7_count_106 : decode cX7_count 106 = .ok (.aload_n 0, 1) := by decide +kernel
theorem dX7_count_107 : decode cX7_count 107 = .ok (.getfield 28, 3) := by decide +kernel
theorem dX7_count_110 : decode cX7_count 110 = .ok (.invokevirtual 267, 3) := by decide +kernel
theorem dX7_count_113 : decode cX7_count 113 = .ok (.ireturn, 1) := by decide +kernel
theorem dX7_count_114 : decode cX7_count 114 = .ok (.aload_n 0, 1) := by decide +kernel
theorem dX7_count_115 : decode cX7_count 115 = .ok (.getfield 12, 3) := by decide +kernel
theorem dX7_count_118 : decode cX7_count 118 = .ok (.invokevirtual 270, 3) := by decide +kernel
theorem dX7_count_121 : decode cX7_count 121 = .ok (.ireturn, 1) := by decide +kernel
theorem dX7_count_122 : decode cX7_count 122 = .ok (.aload_n 0, 1) := by decide +kernel
theorem dX7_count_123 : decode cX7_count 123 = .ok (.getfield 63, 3) := by decide +kernel
theorem dX7_count_126 : decode cX7_count 126 = .ok (.getfield 273, 3) := by decide +kernel
theorem dX7_count_129 : decode cX7_count 129 = .ok (.ireturn, 1) := by decide +kernel
theorem dX7_count_130 : decode cX7_count 130 = .ok (.bipush (-2), 2) := by decide +kernel
theorem dX7_count_132 : decode cX7_count 132 = .ok (.ireturn, 1) := by decide +kernel
theorem dX7_digest_0 : decode cX7_digest 0 = .ok (.ldc2_w 276, 3) := by decide +kernel
theorem dX7_digest_3 : decode cX7_digest 3 = .ok (.lstore_n 1, 1) := by decide +kernel
theorem dX7_digest_4 : decode cX7_digest 4 = .ok (.iconst 0, 1) := by decide +kernel
theorem dX7_digest_5 : decode cX7_digest 5 = .ok (.istore_n 3, 1) := by decide +kernel
theorem dX7_digest_6 : decode cX7_digest 6 = .ok (.iload_n 3, 1) := by decide +kernel
theorem dX7_digest_7 : decode cX7_digest 7 = .ok (.bipush 7, 2) := by decide +kernel
theorem dX7_digest_9 : decode cX7_digest 9 = .ok (.if_icmp .gt 22, 3) := by decide +kernel
theorem dX7_digest_12 : decode cX7_digest 12 = .ok (.ldc2_w 278, 3) := by decide +kernel
theorem dX7_digest_15 : decode cX7_digest 15 = .ok (.lload_n 1, 1) := by decide +kernel
theorem dX7_digest_16 : decode cX7_digest 16 = .ok (.lmul, 1) := by decide +kernel
theorem dX7_digest_17 : decode cX7_digest 17 = .ok (.aload_n 0, 1) := by decide +kernel
theorem dX7_digest_18 : decode cX7_digest 18 = .ok (.iload_n 3, 1) := by decide +kernel
theorem dX7_digest_19 : decode cX7_digest 19 = .ok (.invokevirtual 280, 3) := by decide +kernel
theorem dX7_digest_22 : decode cX7_digest 22 = .ok (.i2l, 1) := by decide +kernel
theorem dX7_digest_23 : decode cX7_digest 23 = .ok (.ladd, 1) := by decide +kernel
theorem dX7_digest_24 : decode cX7_digest 24 = .ok (.lstore_n 1, 1) := by decide +kernel
theorem dX7_digest_25 : decode cX7_digest 25 = .ok (.iinc 3 1, 3) := by decide +kernel
theorem dX7_digest_28 : decode cX7_digest 28 = .ok (.goto (-22), 3) := by decide +kernel
theorem dX7_digest_31 : decode cX7_digest 31 = .ok (.ldc2_w 278, 3) := by decide +kernel
theorem dX7_digest_34 : decode cX7_digest 34 = .ok (.lload_n 1, 1) := by decide +kernel
theorem dX7_digest_35 : decode cX7_digest 35 = .ok (.lmul, 1) := by decide +kernel
theorem dX7_digest_36 : decode cX7_digest 36 = .ok (.aload_n 0, 1) := by decide +kernel
theorem dX7_digest_37 : decode cX7_digest 37 = .ok (.invokevirtual 283, 3) := by decide +kernel
theorem dX7_digest_40 : decode cX7_digest 40 = .ok (.i2l, 1) := by decide +kernel
theorem dX7_digest_41 : decode cX7_digest 41 = .ok (.ladd, 1) := by decide +kernel
theorem dX7_digest_42 : decode cX7_digest 42 = .ok (.lstore_n 1, 1) := by decide +kernel
theorem dX7_digest_43 : decode cX7_digest 43 = .ok (.ldc2_w 278, 3) := by decide +kernel
theorem dX7_digest_46 : decode cX7_digest 46 = .ok (.lload_n 1, 1) := by decide +kernel
theorem dX7_digest_47 : decode cX7_digest 47 = .ok (.lmul, 1) := by decide +kernel
theorem dX7_digest_48 : decode cX7_digest 48 = .ok (.aload_n 0, 1) := by decide +kernel
theorem dX7_digest_49 : decode cX7_digest 49 = .ok (.invokevirtual 286, 3) := by decide +kernel
theorem dX7_digest_52 : decode cX7_digest 52 = .ok (.i2l, 1) := by decide +kernel
theorem dX7_digest_53 : decode cX7_digest 53 = .ok (.ladd, 1) := by decide +kernel
theorem dX7_digest_54 : decode cX7_digest 54 = .ok (.lstore_n 1, 1) := by decide +kernel
theorem dX7_digest_55 : decode cX7_digest 55 = .ok (.iconst 0, 1) := by decide +kernel
theorem dX7_digest_56 : decode cX7_digest 56 = .ok (.istore_n 3, 1) := by decide +kernel
theorem dX7_digest_57 : decode cX7_digest 57 = .ok (.iload_n 3, 1) := by decide +kernel
theorem dX7_digest_58 : decode cX7_digest 58 = .ok (.aload_n 0, 1) := by decide +kernel
theorem dX7_digest_59 : decode cX7_digest 59 = .ok (.getfield 12, 3) := by decide +kernel
theorem dX7_digest_62 : decode cX7_digest 62 = .ok (.getfield 71, 3) := by decide +kernel
theorem dX7_digest_65 : decode cX7_digest 65 = .ok (.if_icmp .ge 35, 3) := by decide +kernel
theorem dX7_digest_68 : decode cX7_digest 68 = .ok (.ldc2_w 278, 3) := by decide +kernel
theorem dX7_digest_71 : decode cX7_digest 71 = .ok (.lload_n 1, 1) := by decide +kernel
theorem dX7_digest_72 : decode cX7_digest 72 = .ok (.lmul, 1) := by decide +kernel
theorem dX7_digest_73 : decode cX7_digest 73 = .ok (.aload_n 0, 1) := by decide +kernel
theorem dX7_digest_74 : decode cX7_digest 74 = .ok (.iload_n 3, 1) := by decide +kernel
theorem dX7_digest_75 : decode cX7_digest 75 = .ok (.invokevirtual 289, 3) := by decide +kernel
theorem dX7_digest_78 : decode cX7_digest 78 = .ok (.i2l, 1) := by decide +kernel
theorem dX7_digest_79 : decode cX7_digest 79 = .ok (.ladd, 1) := by decide +kernel
theorem dX7_digest_80 : decode cX7_digest 80 = .ok (.lstore_n 1, 1) := by decide +kernel
theorem dX7_digest_81 : decode cX7_digest 81 = .ok (.ldc2_w 278, 3) := by decide +kernel
theorem dX7_digest_84 : decode cX7_digest 84 = .ok (.lload_n 1, 1) := by decide +kernel
theorem dX7_digest_85 : decode cX7_digest 85 = .ok (.lmul, 1) := by decide +kernel
theorem dX7_digest_86 : decode cX7_digest 86 = .ok (.aload_n 0, 1) := by decide +kernel
theorem dX7_digest_87 : decode cX7_digest 87 = .ok (.iload_n 3, 1) := by decide +kernel
theorem dX7_digest_88 : decode cX7_digest 88 = .ok (.invokevirtual 292, 3) := by decide +kernel
theorem dX7_digest_91 : decode cX7_digest 91 = .ok (.i2l, 1) := by decide +kernel
theorem dX7_digest_92 : decode cX7_digest 92 = .ok (.ladd, 1) := by decide +kernel
theorem dX7_digest_93 : decode cX7_digest 93 = .ok (.lstore_n 1, 1) := by decide +kernel
theorem dX7_digest_94 : decode cX7_digest 94 = .ok (.iinc 3 1, 3) := by decide +kernel
theorem dX7_digest_97 : decode cX7_digest 97 = .ok (.goto (-40), 3) := by decide +kernel
theorem dX7_digest_100 : decode cX7_digest 100 = .ok (.ldc2_w 278, 3) := by decide +kernel
theorem dX7_digest_103 : decode cX7_digest 103 = .ok (.lload_n 1, 1) := by decide +kernel
theorem dX7_digest_104 : decode cX7_digest 104 = .ok (.lmul, 1) := by decide +kernel
theorem dX7_digest_105 : decode cX7_digest 105 = .ok (.aload_n 0, 1) := by decide +kernel
theorem dX7_digest_106 : decode cX7_digest 106 = .ok (.invokevirtual 295, 3) := by decide +kernel
theorem dX7_digest_109 : decode cX7_digest 109 = .ok (.i2l, 1) := by decide +kernel
theorem dX7_digest_110 : decode cX7_digest 110 = .ok (.ladd, 1) := by decide +kernel
theorem dX7_digest_111 : decode cX7_digest 111 = .ok (.lstore_n 1, 1) := by decide +kernel
theorem dX7_digest_112 : decode cX7_digest 112 = .ok (.ldc2_w 278, 3) := by decide +kernel
theorem dX7_digest_115 : decode cX7_digest 115 = .ok (.lload_n 1, 1) := by decide +kernel
theorem dX7_digest_116 : decode cX7_digest 116 = .ok (.lmul, 1) := by decide +kernel
theorem dX7_digest_117 : decode cX7_digest 117 = .ok (.aload_n 0, 1) := by decide +kernel
theorem dX7_digest_118 : decode cX7_digest 118 = .ok (.iconst 0, 1) := by decide +kernel
theorem dX7_digest_119 : decode cX7_digest 119 = .ok (.iconst (-1), 1) := by decide +kernel
theorem dX7_digest_120 : decode cX7_digest 120 = .ok (.invokevirtual 298, 3) := by decide +kernel
theorem dX7_digest_123 : decode cX7_digest 123 = .ok (.i2l, 1) := by decide +kernel
theorem dX7_digest_124 : decode cX7_digest 124 = .ok (.ladd, 1) := by decide +kernel
theorem dX7_digest_125 : decode cX7_digest 125 = .ok (.lstore_n 1, 1) := by decide +kernel
theorem dX7_digest_126 : decode cX7_digest 126 = .ok (.ldc2_w 278, 3) := by decide +kernel
theorem dX7_digest_129 : decode cX7_digest 129 = .ok (.lload_n 1, 1) := by decide +kernel
theorem dX7_digest_130 : decode cX7_digest 130 = .ok (.lmul, 1) := by decide +kernel
theorem dX7_digest_131 : decode cX7_digest 131 = .ok (.aload_n 0, 1) := by decide +kernel
theorem dX7_digest_132 : decode cX7_digest 132 = .ok (.iconst 1, 1) := by decide +kernel
theorem dX7_digest_133 : decode cX7_digest 133 = .ok (.iconst (-1), 1) := by decide +kernel
theorem dX7_digest_134 : decode cX7_digest 134 = .ok (.invokevirtual 298, 3) := by decide +kernel
theorem dX7_digest_137 : decode cX7_digest 137 = .ok (.i2l, 1) := by decide +kernel
theorem dX7_digest_138 : decode cX7_digest 138 = .ok (.ladd, 1) := by decide +kernel
theorem dX7_digest_139 : decode cX7_digest 139 = .ok (.lstore_n 1, 1) := by decide +kernel
theorem dX7_digest_140 : decode cX7_digest 140 = .ok (.ldc2_w 278, 3) := by decide +kernel
theorem dX7_digest_143 : decode cX7_digest 143 = .ok (.lload_n 1, 1) := by decide +kernel
theorem dX7_digest_144 : decode cX7_digest 144 = .ok (.lmul, 1) := by decide +kernel
theorem dX7_digest_145 : decode cX7_digest 145 = .ok (.aload_n 0, 1) := by decide +kernel
theorem dX7_digest_146 : decode cX7_digest 146 = .ok (.iconst 1, 1) := by decide +kernel
theorem dX7_digest_147 : decode cX7_digest 147 = .ok (.invokevirtual 302, 3) := by decide +kernel
theorem dX7_digest_150 : decode cX7_digest 150 = .ok (.i2l, 1) := by decide +kernel
theorem dX7_digest_151 : decode cX7_digest 151 = .ok (.ladd, 1) := by decide +kernel
theorem dX7_digest_152 : decode cX7_digest 152 = .ok (.lstore_n 1, 1) := by decide +kernel
theorem dX7_digest_153 : decode cX7_digest 153 = .ok (.ldc2_w 278, 3) := by decide +kernel
theorem dX7_digest_156 : decode cX7_digest 156 = .ok (.lload_n 1, 1) := by decide +kernel
theorem dX7_digest_157 : decode cX7_digest 157 = .ok (.lmul, 1) := by decide +kernel
theorem dX7_digest_158 : decode cX7_digest 158 = .ok (.aload_n 0, 1) := by decide +kernel
theorem dX7_digest_159 : decode cX7_digest 159 = .ok (.iconst 2, 1) := by decide +kernel
theorem dX7_digest_160 : decode cX7_digest 160 = .ok (.invokevirtual 302, 3) := by decide +kernel
theorem dX7_digest_163 : decode cX7_digest 163 = .ok (.i2l, 1) := by decide +kernel
theorem dX7_digest_164 : decode cX7_digest 164 = .ok (.ladd, 1) := by decide +kernel
theorem dX7_digest_165 : decode cX7_digest 165 = .ok (.lstore_n 1, 1) := by decide +kernel
theorem dX7_digest_166 : decode cX7_digest 166 = .ok (.ldc2_w 278, 3) := by decide +kernel
theorem dX7_digest_169 : decode cX7_digest 169 = .ok (.lload_n 1, 1) := by decide +kernel
theorem dX7_digest_170 : decode cX7_digest 170 = .ok (.lmul, 1) := by decide +kernel
theorem dX7_digest_171 : decode cX7_digest 171 = .ok (.aload_n 0, 1) := by decide +kernel
theorem dX7_digest_172 : decode cX7_digest 172 = .ok (.iconst 0, 1) := by decide +kernel
theorem dX7_digest_173 : decode cX7_digest 173 = .ok (.invokevirtual 305, 3) := by decide +kernel
theorem dX7_digest_176 : decode cX7_digest 176 = .ok (.i2l, 1) := by decide +kernel
theorem dX7_digest_177 : decode cX7_digest 177 = .ok (.ladd, 1) := by decide +kernel
theorem dX7_digest_178 : decode cX7_digest 178 = .ok (.lstore_n 1, 1) := by decide +kernel
theorem dX7_digest_179 : decode cX7_digest 179 = .ok (.ldc2_w 278, 3) := by decide +kernel
theorem dX7_digest_182 : decode cX7_digest 182 = .ok (.lload_n 1, 1) := by decide +kernel
theorem dX7_digest_183 : decode cX7_digest 183 = .ok (.lmul, 1) := by decide +kernel
theorem dX7_digest_184 : decode cX7_digest 184 = .ok (.aload_n 0, 1) := by decide +kernel
theorem dX7_digest_185 : decode cX7_digest 185 = .ok (.iconst 1, 1) := by decide +kernel
theorem dX7_digest_186 : decode cX7_digest 186 = .ok (.invokevirtual 305, 3) := by decide +kernel
theorem dX7_digest_189 : decode cX7_digest 189 = .ok (.i2l, 1) := by decide +kernel
theorem dX7_digest_190 : decode cX7_digest 190 = .ok (.ladd, 1) := by decide +kernel
theorem dX7_digest_191 : decode cX7_digest 191 = .ok (.lstore_n 1, 1) := by decide +kernel
theorem dX7_digest_192 : decode cX7_digest 192 = .ok (.ldc2_w 278, 3) := by decide +kernel
theorem dX7_digest_195 : decode cX7_digest 195 = .ok (.lload_n 1, 1) := by decide +kernel
theorem dX7_digest_196 : decode cX7_digest 196 = .ok (.lmul, 1) := by decide +kernel
theorem dX7_digest_197 : decode cX7_digest 197 = .ok (.aload_n 0, 1) := by decide +kernel
theorem dX7_digest_198 : decode cX7_digest 198 = .ok (.bipush 30, 2) := by decide +kernel
theorem dX7_digest_200 : decode cX7_digest 200 = .ok (.iconst 0, 1) := by decide +kernel
theorem dX7_digest_201 : decode cX7_digest 201 = .ok (.invokevirtual 308, 3) := by decide +kernel
theorem dX7_digest_204 : decode cX7_digest 204 = .ok (.ladd, 1) := by decide +kernel
theorem dX7_digest_205 : decode cX7_digest 205 = .ok (.lreturn, 1) := by decide +kernel
theorem dX7_mayCome_0 : decode cX7_mayCome 0 = .ok (.iload_n 0, 1) := by decide +kernel
theorem dX7_mayCome_1 : decode cX7_mayCome 1 = .ok (.tableswitch 86 0 2 #[27, 44, 58], 27) := by decide +kernel
theorem dX7_mayCome_28 : decode cX7_mayCome 28 = .ok (.iload_n 1, 1) := by decide +kernel
theorem dX7_mayCome_29 : decode cX7_mayCome 29 = .ok (.invokestatic 92, 3) := by decide +kernel
theorem dX7_mayCome_32 : decode cX7_mayCome 32 = .ok (.ifCond .eq 11, 3) := by decide +kernel
theorem dX7_mayCome_35 : decode cX7_mayCome 35 = .ok (.iload_n 2, 1) := by decide +kernel
theorem dX7_mayCome_36 : decode cX7_mayCome 36 = .ok (.ifCond .ne 7, 3) := by decide +kernel
theorem dX7_mayCome_39 : decode cX7_mayCome 39 = .ok (.iconst 1, 1) := by decide +kernel
theorem dX7_mayCome_40 : decode cX7_mayCome 40 = .ok (.goto 4, 3) := by decide +kernel
theorem dX7_mayCome_43 : decode cX7_mayCome 43 = .ok (.iconst 0, 1) := by decide +kernel
theorem dX7_mayCome_44 : decode cX7_mayCome 44 = .ok (.ireturn, 1) := by decide +kernel
theorem dX7_mayCome_45 : decode cX7_mayCome 45 = .ok (.iload_n 1, 1) := by decide +kernel
theorem dX7_mayCome_46 : decode cX7_mayCome 46 = .ok (.ifCond .ne 11, 3) := by decide +kernel
theorem dX7_mayCome_49 : decode cX7_mayCome 49 = .ok (.iload_n 2, 1) := by decide +kernel
theorem dX7_mayCome_50 : decode cX7_mayCome 50 = .ok (.ifCond .ne 7, 3) := by decide +kernel
theorem dX7_mayCome_53 : decode cX7_mayCome 53 = .ok (.iconst 1, 1) := by decide +kernel
theorem dX7_mayCome_54 : decode cX7_mayCome 54 = .ok (.goto 4, 3) := by decide +kernel
theorem dX7_mayCome_57 : decode cX7_mayCome 57 = .ok (.iconst 0, 1) := by decide +kernel
theorem dX7_mayCome_58 : decode cX7_mayCome 58 = .ok (.ireturn, 1) := by decide +kernel
theorem dX7_mayCome_59 : decode cX7_mayCome 59 = .ok (.iload_n 1, 1) := by decide +kernel
theorem dX7_mayCome_60 : decode cX7_mayCome 60 = .ok (.iconst 1, 1) := by decide +kernel
theorem dX7_mayCome_61 : decode cX7_mayCome 61 = .ok (.if_icmp .lt 24, 3) := by decide +kernel
theorem dX7_mayCome_64 : decode cX7_mayCome 64 = .ok (.iload_n 1, 1) := by decide +kernel
theorem dX7_mayCome_65 : decode cX7_mayCome 65 = .ok (.bipush 30, 2) := by decide +kernel
theorem dX7_mayCome_67 : decode cX7_mayCome 67 = .ok (.if_icmp .gt 18, 3) := by decide +kernel
theorem dX7_mayCome_70 : decode cX7_mayCome 70 = .ok (.iload_n 2, 1) := by decide +kernel
theorem dX7_mayCome_71 : decode cX7_mayCome 71 = .ok (.iconst 1, 1) := by decide +kernel
theorem dX7_mayCome_72 : decode cX7_mayCome 72 = .ok (.if_icmp .lt 13, 3) := by decide +kernel
theorem dX7_mayCome_75 : decode cX7_mayCome 75 = .ok (.iload_n 2, 1) := by decide +kernel
theorem dX7_mayCome_76 : decode cX7_mayCome 76 = .ok (.bipush 7, 2) := by decide +kernel
theorem dX7_mayCome_78 : decode cX7_mayCome 78 = .ok (.if_icmp .gt 7, 3) := by decide +kernel
theorem dX7_mayCome_81 : decode cX7_mayCome 81 = .ok (.iconst 1, 1) := by decide +kernel
theorem dX7_mayCome_82 : decode cX7_mayCome 82 = .ok (.goto 4, 3) := by decide +kernel
theorem dX7_mayCome_85 : decode cX7_mayCome 85 = .ok (.iconst 0, 1) := by decide +kernel
theorem dX7_mayCome_86 : decode cX7_mayCome 86 = .ok (.ireturn, 1) := by decide +kernel
theorem dX7_mayCome_87 : decode cX7_mayCome 87 = .ok (.iconst 0, 1) := by decide +kernel
theorem dX7_mayCome_88 : decode cX7_mayCome 88 = .ok (.ireturn, 1) := by decide +kernel
theorem dX7_mayAim_0 : decode cX7_mayAim 0 = .ok (.iload_n 0, 1) := by decide +kernel
theorem dX7_mayAim_1 : decode cX7_mayAim 1 = .ok (.ifCond .lt 13, 3) := by decide +kernel
theorem dX7_mayAim_4 : decode cX7_mayAim 4 = .ok (.iload_n 0, 1) := by decide +kernel
theorem dX7_mayAim_5 : decode cX7_mayAim 5 = .ok (.bipush 60, 2) := by decide +kernel
theorem dX7_mayAim_7 : decode cX7_mayAim 7 = .ok (.if_icmp .gt 7, 3) := by decide +kernel
theorem dX7_mayAim_10 : decode cX7_mayAim 10 = .ok (.iconst 1, 1) := by decide +kernel
theorem dX7_mayAim_11 : decode cX7_mayAim 11 = .ok (.goto 4, 3) := by decide +kernel
theorem dX7_mayAim_14 : decode cX7_mayAim 14 = .ok (.iconst 0, 1) := by decide +kernel
theorem dX7_mayAim_15 : decode cX7_mayAim 15 = .ok (.ireturn, 1) := by decide +kernel
theorem dX7_isStep_0 : decode cX7_isStep 0 = .ok (.iload_n 0, 1) := by decide +kernel
theorem dX7_isStep_1 : decode cX7_isStep 1 = .ok (.iconst 5, 1) := by decide +kernel
theorem dX7_isStep_2 : decode cX7_isStep 2 = .ok (.if_icmp .lt 13, 3) := by decide +kernel
theorem dX7_isStep_5 : decode cX7_isStep 5 = .ok (.iload_n 0, 1) := by decide +kernel
theorem dX7_isStep_6 : decode cX7_isStep 6 = .ok (.bipush 30, 2) := by decide +kernel
theorem dX7_isStep_8 : decode cX7_isStep 8 = .ok (.if_icmp .gt 7, 3) := by decide +kernel
theorem dX7_isStep_11 : decode cX7_isStep 11 = .ok (.iconst 1, 1) := by decide +kernel
theorem dX7_isStep_12 : decode cX7_isStep 12 = .ok (.goto 4, 3) := by decide +kernel
theorem dX7_isStep_15 : decode cX7_isStep 15 = .ok (.iconst 0, 1) := by decide +kernel
theorem dX7_isStep_16 : decode cX7_isStep 16 = .ok (.ireturn, 1) := by decide +kernel
theorem dX7_isSheet_0 : decode cX7_isSheet 0 = .ok (.iload_n 0, 1) := by decide +kernel
theorem dX7_isSheet_1 : decode cX7_isSheet 1 = .ok (.ifCond .lt 12, 3) := by decide +kernel
theorem dX7_isSheet_4 : decode cX7_isSheet 4 = .ok (.iload_n 0, 1) := by decide +kernel
theorem dX7_isSheet_5 : decode cX7_isSheet 5 = .ok (.iconst 4, 1) := by decide +kernel
theorem dX7_isSheet_6 : decode cX7_isSheet 6 = .ok (.if_icmp .ge 7, 3) := by decide +kernel
theorem dX7_isSheet_9 : decode cX7_isSheet 9 = .ok (.iconst 1, 1) := by decide +kernel
theorem dX7_isSheet_10 : decode cX7_isSheet 10 = .ok (.goto 4, 3) := by decide +kernel
theorem dX7_isSheet_13 : decode cX7_isSheet 13 = .ok (.iconst 0, 1) := by decide +kernel
theorem dX7_isSheet_14 : decode cX7_isSheet 14 = .ok (.ireturn, 1) := by decide +kernel
theorem dX7_isForm_0 : decode cX7_isForm 0 = .ok (.iload_n 0, 1) := by decide +kernel
theorem dX7_isForm_1 : decode cX7_isForm 1 = .ok (.ifCond .lt 12, 3) := by decide +kernel
theorem dX7_isForm_4 : decode cX7_isForm 4 = .ok (.iload_n 0, 1) := by decide +kernel
theorem dX7_isForm_5 : decode cX7_isForm 5 = .ok (.iconst 3, 1) := by decide +kernel
theorem dX7_isForm_6 : decode cX7_isForm 6 = .ok (.if_icmp .ge 7, 3) := by decide +kernel
theorem dX7_isForm_9 : decode cX7_isForm 9 = .ok (.iconst 1, 1) := by decide +kernel
theorem dX7_isForm_10 : decode cX7_isForm 10 = .ok (.goto 4, 3) := by decide +kernel
theorem dX7_isForm_13 : decode cX7_isForm 13 = .ok (.iconst 0, 1) := by decide +kernel
theorem dX7_isForm_14 : decode cX7_isForm 14 = .ok (.ireturn, 1) := by decide +kernel
theorem dX7_isComer_0 : decode cX7_isComer 0 = .ok (.iload_n 1, 1) := by decide +kernel
theorem dX7_isComer_1 : decode cX7_isComer 1 = .ok (.ifCond .lt 26, 3) := by decide +kernel
theorem dX7_isComer_4 : decode cX7_isComer 4 = .ok (.iload_n 1, 1) := by decide +kernel
theorem dX7_isComer_5 : decode cX7_isComer 5 = .ok (.bipush 8, 2) := by decide +kernel
theorem dX7_isComer_7 : decode cX7_isComer 7 = .ok (.if_icmp .ge 20, 3) := by decide +kernel
theorem dX7_isComer_10 : decode cX7_isComer 10 = .ok (.aload_n 0, 1) := by decide +kernel
theorem dX7_isComer_11 : decode cX7_isComer 11 = .ok (.getfield 28, 3) := by decide +kernel
theorem dX7_isComer_14 : decode cX7_isComer 14 = .ok (.getfield 82, 3) := by decide +kernel
theorem dX7_isComer_17 : decode cX7_isComer 17 = .ok (.iload_n 1, 1) := by decide +kernel
theorem dX7_isComer_18 : decode cX7_isComer 18 = .ok (.iaload, 1) := by decide +kernel
theorem dX7_isComer_19 : decode cX7_isComer 19 = .ok (.iconst (-1), 1) := by decide +kernel
theorem dX7_isComer_20 : decode cX7_isComer 20 = .ok (.if_icmp .eq 7, 3) := by decide +kernel
theorem dX7_isComer_23 : decode cX7_isComer 23 = .ok (.iconst 1, 1) := by decide +kernel
theorem dX7_isComer_24 : decode cX7_isComer 24 = .ok (.goto 4, 3) := by decide +kernel
theorem dX7_isComer_27 : decode cX7_isComer 27 = .ok (.iconst 0, 1) := by decide +kernel
theorem dX7_isComer_28 : decode cX7_isComer 28 = .ok (.ireturn, 1) := by decide +kernel
theorem dX7_isPlain_0 : decode cX7_isPlain 0 = .ok (.iload_n 1, 1) := by decide +kernel
theorem dX7_isPlain_1 : decode cX7_isPlain 1 = .ok (.ifCond .lt 25, 3) := by decide +kernel
theorem dX7_isPlain_4 : decode cX7_isPlain 4 = .ok (.iload_n 1, 1) := by decide +kernel
theorem dX7_isPlain_5 : decode cX7_isPlain 5 = .ok (.bipush 8, 2) := by decide +kernel
theorem dX7_isPlain_7 : decode cX7_isPlain 7 = .ok (.if_icmp .ge 19, 3) := by decide +kernel
theorem dX7_isPlain_10 : decode cX7_isPlain 10 = .ok (.aload_n 0, 1) := by decide +kernel
theorem dX7_isPlain_11 : decode cX7_isPlain 11 = .ok (.getfield 28, 3) := by decide +kernel
theorem dX7_isPlain_14 : decode cX7_isPlain 14 = .ok (.getfield 82, 3) := by decide +kernel
theorem dX7_isPlain_17 : decode cX7_isPlain 17 = .ok (.iload_n 1, 1) := by decide +kernel
theorem dX7_isPlain_18 : decode cX7_isPlain 18 = .ok (.iaload, 1) := by decide +kernel
theorem dX7_isPlain_19 : decode cX7_isPlain 19 = .ok (.ifCond .ne 7, 3) := by decide +kernel
theorem dX7_isPlain_22 : decode cX7_isPlain 22 = .ok (.iconst 1, 1) := by decide +kernel
theorem dX7_isPlain_23 : decode cX7_isPlain 23 = .ok (.goto 4, 3) := by decide +kernel
theorem dX7_isPlain_26 : decode cX7_isPlain 26 = .ok (.iconst 0, 1) := by decide +kernel
theorem dX7_isPlain_27 : decode cX7_isPlain 27 = .ok (.ireturn, 1) := by decide +kernel
theorem dX7_trialIsInTime_0 : decode cX7_trialIsInTime 0 = .ok (.aload_n 0, 1) := by decide +kernel
theorem dX7_trialIsInTime_1 : decode cX7_trialIsInTime 1 = .ok (.getfield 32, 3) := by decide +kernel
theorem dX7_trialIsInTime_4 : decode cX7_trialIsInTime 4 = .ok (.iconst 1, 1) := by decide +kernel
theorem dX7_trialIsInTime_5 : decode cX7_trialIsInTime 5 = .ok (.invokevirtual 166, 3) := by decide +kernel
theorem dX7_trialIsInTime_8 : decode cX7_trialIsInTime 8 = .ok (.ifCond .eq 26, 3) := by decide +kernel
theorem dX7_trialIsInTime_11 : decode cX7_trialIsInTime 11 = .ok (.aload_n 0, 1) := by decide +kernel
theorem dX7_trialIsInTime_12 : decode cX7_trialIsInTime 12 = .ok (.getfield 32, 3) := by decide +kernel
theorem dX7_trialIsInTime_15 : decode cX7_trialIsInTime 15 = .ok (.invokevirtual 142, 3) := by decide +kernel
theorem dX7_trialIsInTime_18 : decode cX7_trialIsInTime 18 = .ok (.aload_n 0, 1) := by decide +kernel
theorem dX7_trialIsInTime_19 : decode cX7_trialIsInTime 19 = .ok (.getfield 32, 3) := by decide +kernel
theorem dX7_trialIsInTime_22 : decode cX7_trialIsInTime 22 = .ok (.getfield 127, 3) := by decide +kernel
theorem dX7_trialIsInTime_25 : decode cX7_trialIsInTime 25 = .ok (.iconst 0, 1) := by decide +kernel
theorem dX7_trialIsInTime_26 : decode cX7_trialIsInTime 26 = .ok (.iaload, 1) := by decide +kernel
theorem dX7_trialIsInTime_27 : decode cX7_trialIsInTime 27 = .ok (.if_icmp .gt 7, 3) := by decide +kernel
theorem dX7_trialIsInTime_30 : decode cX7_trialIsInTime 30 = .ok (.iconst 1, 1) := by decide +kernel
theorem dX7_trialIsInTime_31 : decode cX7_trialIsInTime 31 = .ok (.goto 4, 3) := by decide +kernel
theorem dX7_trialIsInTime_34 : decode cX7_trialIsInTime 34 = .ok (.iconst 0, 1) := by decide +kernel
theorem dX7_trialIsInTime_35 : decode cX7_trialIsInTime 35 = .ok (.ireturn, 1) := by decide +kernel
theorem dX7_keyBits_0 : decode cX7_keyBits 0 = .ok (.iconst 0, 1) := by decide +kernel
theorem dX7_keyBits_1 : decode cX7_keyBits 1 = .ok (.istore_n 1, 1) := by decide +kernel
theorem dX7_keyBits_2 : decode cX7_keyBits 2 = .ok (.iconst 0, 1) := by decide +kernel
theorem dX7_keyBits_3 : decode cX7_keyBits 3 = .ok (.istore_n 2, 1) := by decide +kernel
theorem dX7_keyBits_4 : decode cX7_keyBits 4 = .ok (.iload_n 2, 1) := by decide +kernel
theorem dX7_keyBits_5 : decode cX7_keyBits 5 = .ok (.bipush 8, 2) := by decide +kernel
theorem dX7_keyBits_7 : decode cX7_keyBits 7 = .ok (.if_icmp .ge 48, 3) := by decide +kernel
theorem dX7_keyBits_10 : decode cX7_keyBits 10 = .ok (.aload_n 0, 1) := by decide +kernel
theorem dX7_keyBits_11 : decode cX7_keyBits 11 = .ok (.getfield 32, 3) := by decide +kernel
theorem dX7_keyBits_14 : decode cX7_keyBits 14 = .ok (.aload_n 0, 1) := by decide +kernel
theorem dX7_keyBits_15 : decode cX7_keyBits 15 = .ok (.getfield 28, 3) := by decide +kernel
theorem dX7_keyBits_18 : decode cX7_keyBits 18 = .ok (.invokevirtual 163, 3) := by decide +kernel
theorem dX7_keyBits_21 : decode cX7_keyBits 21 = .ok (.aload_n 0, 1) := by decide +kernel
theorem dX7_keyBits_22 : decode cX7_keyBits 22 = .ok (.getfield 32, 3) := by decide +kernel
theorem dX7_keyBits_25 : decode cX7_keyBits 25 = .ok (.iconst 1, 1) := by decide +kernel
theorem dX7_keyBits_26 : decode cX7_keyBits 26 = .ok (.iload_n 2, 1) := by decide +kernel
theorem dX7_keyBits_27 : decode cX7_keyBits 27 = .ok (.ishl, 1) := by decide +kernel
theorem dX7_keyBits_28 : decode cX7_keyBits 28 = .ok (.putfield 312, 3) := by decide +kernel
theorem dX7_keyBits_31 : decode cX7_keyBits 31 = .ok (.aload_n 0, 1) := by decide +kernel
theorem dX7_keyBits_32 : decode cX7_keyBits 32 = .ok (.getfield 32, 3) := by decide +kernel
theorem dX7_keyBits_35 : decode cX7_keyBits 35 = .ok (.invokevirtual 142, 3) := by decide +kernel
theorem dX7_keyBits_38 : decode cX7_keyBits 38 = .ok (.bipush 60, 2) := by decide +kernel
theorem dX7_keyBits_40 : decode cX7_keyBits 40 = .ok (.if_icmp .lt 9, 3) := by decide +kernel
theorem dX7_keyBits_43 : decode cX7_keyBits 43 = .ok (.iload_n 1, 1) := by decide +kernel
theorem dX7_keyBits_44 : decode cX7_keyBits 44 = .ok (.iconst 1, 1) := by decide +kernel
theorem dX7_keyBits_45 : decode cX7_keyBits 45 = .ok (.iload_n 2, 1) := by decide +kernel
theorem dX7_keyBits_46 : decode cX7_keyBits 46 = .ok (.ishl, 1) := by decide +kernel
theorem dX7_keyBits_47 : decode cX7_keyBits 47 = .ok (.ior, 1) := by decide +kernel
theorem dX7_keyBits_48 : decode cX7_keyBits 48 = .ok (.istore_n 1, 1) := by decide +kernel
theorem dX7_keyBits_49 : decode cX7_keyBits 49 = .ok (.iinc 2 1, 3) := by decide +kernel
theorem dX7_keyBits_52 : decode cX7_keyBits 52 = .ok (.goto (-48), 3) := by decide +kernel
theorem dX7_keyBits_55 : decode cX7_keyBits 55 = .ok (.iload_n 1, 1) := by decide +kernel
theorem dX7_keyBits_56 : decode cX7_keyBits 56 = .ok (.ireturn, 1) := by decide +kernel
theorem dL_law_0 : decode cL_law 0 = .ok (.new 7, 3) := by decide +kernel
theorem dL_law_3 : decode cL_law 3 = .ok (.dup, 1) := by decide +kernel
theorem dL_law_4 : decode cL_law 4 = .ok (.invokespecial 9, 3) := by decide +kernel
theorem dL_law_7 : decode cL_law 7 = .ok (.astore_n 1, 1) := by decide +kernel
theorem dL_law_8 : decode cL_law 8 = .ok (.new 10, 3) := by decide +kernel
theorem dL_law_11 : decode cL_law 11 = .ok (.dup, 1) := by decide +kernel
theorem dL_law_12 : decode cL_law 12 = .ok (.invokespecial 12, 3) := by decide +kernel
theorem dL_law_15 : decode cL_law 15 = .ok (.astore_n 2, 1) := by decide +kernel
theorem dL_law_16 : decode cL_law 16 = .ok (.iconst 0, 1) := by decide +kernel
theorem dL_law_17 : decode cL_law 17 = .ok (.istore_n 3, 1) := by decide +kernel
theorem dL_law_18 : decode cL_law 18 = .ok (.iload_n 3, 1) := by decide +kernel
theorem dL_law_19 : decode cL_law 19 = .ok (.aload_n 0, 1) := by decide +kernel
theorem dL_law_20 : decode cL_law 20 = .ok (.arraylength, 1) := by decide +kernel
theorem dL_law_21 : decode cL_law 21 = .ok (.bipush 6, 2) := by decide +kernel
theorem dL_law_23 : decode cL_law 23 = .ok (.isub, 1) := by decide +kernel
theorem dL_law_24 : decode cL_law 24 = .ok (.if_icmp .gt 1152, 3) := by decide +kernel
theorem dL_law_27 : decode cL_law 27 = .ok (.aload_n 0, 1) := by decide +kernel
theorem dL_law_28 : decode cL_law 28 = .ok (.iload_n 3, 1) := by decide +kernel
theorem dL_law_29 : decode cL_law 29 = .ok (.iaload, 1) := by decide +kernel
theorem dL_law_30 : decode cL_law 30 = .ok (.bipush 63, 2) := by decide +kernel
theorem dL_law_32 : decode cL_law 32 = .ok (.iand, 1) := by decide +kernel
theorem dL_law_33 : decode cL_law 33 = .ok (.tableswitch 1137 0 32 #[147, 190, 223, 246, 289, 322, 345, 358, 371, 384, 407, 430, 479, 492, 541, 584, 617, 640, 663, 686, 725, 748, 761, 795, 829, 852, 895, 918, 971, 1014, 1077, 1100, 1123], 147) := by decide +kernel
theorem dL_law_180 : decode cL_law 180 = .ok (.aload_n 1, 1) := by decide +kernel
theorem dL_law_181 : decode cL_law 181 = .ok (.aload_n 0, 1) := by decide +kernel
theorem dL_law_182 : decode cL_law 182 = .ok (.iload_n 3, 1) := by decide +kernel
theorem dL_law_183 : decode cL_law 183 = .ok (.iconst 1, 1) := by decide +kernel
theorem dL_law_184 : decode cL_law 184 = .ok (.iadd, 1) := by decide +kernel
theorem dL_law_185 : decode cL_law 185 = .ok (.iaload, 1) := by decide +kernel
theorem dL_law_186 : decode cL_law 186 = .ok (.aload_n 0, 1) := by decide +kernel
theorem dL_law_187 : decode cL_law 187 = .ok (.iload_n 3, 1) := by decide +kernel
theorem dL_law_188 : decode cL_law 188 = .ok (.iconst 2, 1) := by decide +kernel
theorem dL_law_189 : decode cL_law 189 = .ok (.iadd, 1) := by decide +kernel
theorem dL_law_190 : decode cL_law 190 = .ok (.iaload, 1) := by decide +kernel
theorem dL_law_191 : decode cL_law 191 = .ok (.aload_n 0, 1) := by decide +kernel
theorem dL_law_192 : decode cL_law 192 = .ok (.iload_n 3, 1) := by decide +kernel
theorem dL_law_193 : decode cL_law 193 = .ok (.iconst 3, 1) := by decide +kernel
theorem dL_law_194 : decode cL_law 194 = .ok (.iadd, 1) := by decide +kernel
theorem dL_law_195 : decode cL_law 195 = .ok (.iaload, 1) := by decide +kernel
theorem dL_law_196 : decode cL_law 196 = .ok (.invokevirtual 13, 3) := by decide +kernel
theorem dL_law_199 : decode cL_law 199 = .ok (.aload_n 2, 1) := by decide +kernel
theorem dL_law_200 : decode cL_law 200 = .ok (.aload_n 0, 1) := by decide +kernel
theorem dL_law_201 : decode cL_law 201 = .ok (.iload_n 3, 1) := by decide +kernel
theorem dL_law_202 : decode cL_law 202 = .ok (.iconst 1, 1) := by decide +kernel
theorem dL_law_203 : decode cL_law 203 = .ok (.iadd, 1) := by decide +kernel
theorem dL_law_204 : decode cL_law 204 = .ok (.iaload, 1) := by decide +kernel
theorem dL_law_205 : decode cL_law 205 = .ok (.aload_n 0, 1) := by decide +kernel
theorem dL_law_206 : decode cL_law 206 = .ok (.iload_n 3, 1) := by decide +kernel
theorem dL_law_207 : decode cL_law 207 = .ok (.iconst 2, 1) := by decide +kernel
theorem dL_law_208 : decode cL_law 208 = .ok (.iadd, 1) := by decide +kernel
theorem dL_law_209 : decode cL_law 209 = .ok (.iaload, 1) := by decide +kernel
theorem dL_law_210 : decode cL_law 210 = .ok (.aload_n 0, 1) := by decide +kernel
theorem dL_law_211 : decode cL_law 211 = .ok (.iload_n 3, 1) := by decide +kernel
theorem dL_law_212 : decode cL_law 212 = .ok (.iconst 3, 1) := by decide +kernel
theorem dL_law_213 : decode cL_law 213 = .ok (.iadd, 1) := by decide +kernel
theorem dL_law_214 : decode cL_law 214 = .ok (.iaload, 1) := by decide +kernel
theorem dL_law_215 : decode cL_law 215 = .ok (.invokevirtual 17, 3) := by decide +kernel
theorem dL_law_218 : decode cL_law 218 = .ok (.if_icmp .eq 952, 3) := by decide +kernel
theorem dL_law_221 : decode cL_law 221 = .ok (.iconst 0, 1) := by decide +kernel
theorem dL_law_222 : decode cL_law 222 = .ok (.ireturn, 1) := by decide +kernel
theorem dL_law_223 : decode cL_law 223 = .ok (.aload_n 1, 1) := by decide +kernel
theorem dL_law_224 : decode cL_law 224 = .ok (.aload_n 0, 1) := by decide +kernel
theorem dL_law_225 : decode cL_law 225 = .ok (.iload_n 3, 1) := by decide +kernel
theorem dL_law_226 : decode cL_law 226 = .ok (.iconst 1, 1) := by decide +kernel
theorem dL_law_227 : decode cL_law 227 = .ok (.iadd, 1) := by decide +kernel
theorem dL_law_228 : decode cL_law 228 = .ok (.iaload, 1) := by decide +kernel
theorem dL_law_229 : decode cL_law 229 = .ok (.aload_n 0, 1) := by decide +kernel
theorem dL_law_230 : decode cL_law 230 = .ok (.iload_n 3, 1) := by decide +kernel
theorem dL_law_231 : decode cL_law 231 = .ok (.iconst 2, 1) := by decide +kernel
theorem dL_law_232 : decode cL_law 232 = .ok (.iadd, 1) := by decide +kernel
theorem dL_law_233 : decode cL_law 233 = .ok (.iaload, 1) := by decide +kernel
theorem dL_law_234 : decode cL_law 234 = .ok (.invokevirtual 18, 3) := by decide +kernel
theorem dL_law_237 : decode cL_law 237 = .ok (.aload_n 2, 1) := by decide +kernel
theorem dL_law_238 : decode cL_law 238 = .ok (.aload_n 0, 1) := by decide +kernel
theorem dL_law_239 : decode cL_law 239 = .ok (.iload_n 3, 1) := by decide +kernel
theorem dL_law_240 : decode cL_law 240 = .ok (.iconst 1, 1) := by decide +kernel
theorem dL_law_241 : decode cL_law 241 = .ok (.iadd, 1) := by decide +kernel
theorem dL_law_242 : decode cL_law 242 = .ok (.iaload, 1) := by decide +kernel
theorem dL_law_243 : decode cL_law 243 = .ok (.aload_n 0, 1) := by decide +kernel
theorem dL_law_244 : decode cL_law 244 = .ok (.iload_n 3, 1) := by decide +kernel
theorem dL_law_245 : decode cL_law 245 = .ok (.iconst 2, 1) := by decide +kernel
theorem dL_law_246 : decode cL_law 246 = .ok (.iadd, 1) := by decide +kernel
theorem dL_law_247 : decode cL_law 247 = .ok (.iaload, 1) := by decide +kernel
theorem dL_law_248 : decode cL_law 248 = .ok (.invokevirtual 22, 3) := by decide +kernel
theorem dL_law_251 : decode cL_law 251 = .ok (.if_icmp .eq 919, 3) := by decide +kernel
theorem dL_law_254 : decode cL_law 254 = .ok (.iconst 0, 1) := by decide +kernel
theorem dL_law_255 : decode cL_law 255 = .ok (.ireturn, 1) := by decide +kernel
theorem dL_law_256 : decode cL_law 256 = .ok (.aload_n 1, 1) := by decide +kernel
theorem dL_law_257 : decode cL_law 257 = .ok (.aload_n 0, 1) := by decide +kernel
theorem dL_law_258 : decode cL_law 258 = .ok (.iload_n 3, 1) := by decide +kernel
theorem dL_law_259 : decode cL_law 259 = .ok (.iconst 1, 1) := by decide +kernel
theorem dL_law_260 : decode cL_law 260 = .ok (.iadd, 1) := by decide +kernel
theorem dL_law_261 : decode cL_law 261 = .ok (.iaload, 1) := by decide +kernel
theorem dL_law_262 : decode cL_law 262 = .ok (.invokevirtual 23, 3) := by decide +kernel
theorem dL_law_265 : decode cL_law 265 = .ok (.aload_n 2, 1) := by decide +kernel
theorem dL_law_266 : decode cL_law 266 = .ok (.aload_n 0, 1) := by decide +kernel
theorem dL_law_267 : decode cL_law 267 = .ok (.iload_n 3, 1) := by decide +kernel
theorem dL_law_268 : decode cL_law 268 = .ok (.iconst 1, 1) := by decide +kernel
theorem dL_law_269 : decode cL_law 269 = .ok (.iadd, 1) := by decide +kernel
theorem dL_law_270 : decode cL_law 270 = .ok (.iaload, 1) := by decide +kernel
theorem dL_law_271 : decode cL_law 271 = .ok (.invokevirtual 27, 3) := by decide +kernel
theorem dL_law_274 : decode cL_law 274 = .ok (.if_icmp .eq 896, 3) := by decide +kernel
theorem dL_law_277 : decode cL_law 277 = .ok (.iconst 0, 1) := by decide +kernel
theorem dL_law_278 : decode cL_law 278 = .ok (.ireturn, 1) := by decide +kernel
theorem dL_law_279 : decode cL_law 279 = .ok (.aload_n 1, 1) := by decide +kernel
theorem dL_law_280 : decode cL_law 280 = .ok (.aload_n 0, 1) := by decide +kernel
theorem dL_law_281 : decode cL_law 281 = .ok (.iload_n 3, 1) := by decide +kernel
theorem dL_law_282 : decode cL_law 282 = .ok (.iconst 1, 1) := by decide +kernel
theorem dL_law_283 : decode cL_law 283 = .ok (.iadd, 1) := by decide +kernel
theorem dL_law_284 : decode cL_law 284 = .ok (.iaload, 1) := by decide +kernel
theorem dL_law_285 : decode cL_law 285 = .ok (.aload_n 0, 1) := by decide +kernel
theorem dL_law_286 : decode cL_law 286 = .ok (.iload_n 3, 1) := by decide +kernel
theorem dL_law_287 : decode cL_law 287 = .ok (.iconst 2, 1) := by decide +kernel
theorem dL_law_288 : decode cL_law 288 = .ok (.iadd, 1) := by decide +kernel
theorem dL_law_289 : decode cL_law 289 = .ok (.iaload, 1) := by decide +kernel
theorem dL_law_290 : decode cL_law 290 = .ok (.aload_n 0, 1) := by decide +kernel
theorem dL_law_291 : decode cL_law 291 = .ok (.iload_n 3, 1) := by decide +kernel
theorem dL_law_292 : decode cL_law 292 = .ok (.iconst 3, 1) := by decide +kernel
theorem dL_law_293 : decode cL_law 293 = .ok (.iadd, 1) := by decide +kernel
theorem dL_law_294 : decode cL_law 294 = .ok (.iaload, 1) := by decide +kernel
theorem dL_law_295 : decode cL_law 295 = .ok (.invokevirtual 28, 3) := by decide +kernel
theorem dL_law_298 : decode cL_law 298 = .ok (.aload_n 2, 1) := by decide +kernel
theorem dL_law_299 : decode cL_law 299 = .ok (.aload_n 0, 1) := by decide +kernel
theorem dL_law_300 : decode cL_law 300 = .ok (.iload_n 3, 1) := by decide +kernel
theorem dL_law_301 : decode cL_law 301 = .ok (.iconst 1, 1) := by decide +kernel
theorem dL_law_302 : decode cL_law 302 = .ok (.iadd, 1) := by decide +kernel
theorem dL_law_303 : decode cL_law 303 = .ok (.iaload, 1) := by decide +kernel
theorem dL_law_304 : decode cL_law 304 = .ok (.aload_n 0, 1) := by decide +kernel
theorem dL_law_305 : decode cL_law 305 = .ok (.iload_n 3, 1) := by decide +kernel
theorem dL_law_306 : decode cL_law 306 = .ok (.iconst 2, 1) := by decide +kernel
theorem dL_law_307 : decode cL_law 307 = .ok (.iadd, 1) := by decide +kernel
theorem dL_law_308 : decode cL_law 308 = .ok (.iaload, 1) := by decide +kernel
theorem dL_law_309 : decode cL_law 309 = .ok (.aload_n 0, 1) := by decide +kernel
theorem dL_law_310 : decode cL_law 310 = .ok (.iload_n 3, 1) := by decide +kernel
theorem dL_law_311 : decode cL_law 311 = .ok (.iconst 3, 1) := by decide +kernel
theorem dL_law_312 : decode cL_law 312 = .ok (.iadd, 1) := by decide +kernel
theorem dL_law_313 : decode cL_law 313 = .ok (.iaload, 1) := by decide +kernel
theorem dL_law_314 : decode cL_law 314 = .ok (.invokevirtual 31, 3) := by decide +kernel
theorem dL_law_317 : decode cL_law 317 = .ok (.if_icmp .eq 853, 3) := by decide +kernel
theorem dL_law_320 : decode cL_law 320 = .ok (.iconst 0, 1) := by decide +kernel
theorem dL_law_321 : decode cL_law 321 = .ok (.ireturn, 1) := by decide +kernel
theorem dL_law_322 : decode cL_law 322 = .ok (.aload_n 1, 1) := by decide +kernel
theorem dL_law_323 : decode cL_law 323 = .ok (.aload_n 0, 1) := by decide +kernel
theorem dL_law_324 : decode cL_law 324 = .ok (.iload_n 3, 1) := by decide +kernel
theorem dL_law_325 : decode cL_law 325 = .ok (.iconst 1, 1) := by decide +kernel
theorem dL_law_326 : decode cL_law 326 = .ok (.iadd, 1) := by decide +kernel
theorem dL_law_327 : decode cL_law 327 = .ok (.iaload, 1) := by decide +kernel
theorem dL_law_328 : decode cL_law 328 = .ok (.aload_n 0, 1) := by decide +kernel
theorem dL_law_329 : decode cL_law 329 = .ok (.iload_n 3, 1) := by decide +kernel
theorem dL_law_330 : decode cL_law 330 = .ok (.iconst 2, 1) := by decide +kernel
theorem dL_law_331 : decode cL_law 331 = .ok (.iadd, 1) := by decide +kernel
theorem dL_law_332 : decode cL_law 332 = .ok (.iaload, 1) := by decide +kernel
theorem dL_law_333 : decode cL_law 333 = .ok (.invokevirtual 32, 3) := by decide +kernel
theorem dL_law_336 : decode cL_law 336 = .ok (.aload_n 2, 1) := by decide +kernel
theorem dL_law_337 : decode cL_law 337 = .ok (.aload_n 0, 1) := by decide +kernel
theorem dL_law_338 : decode cL_law 338 = .ok (.iload_n 3, 1) := by decide +kernel
theorem dL_law_339 : decode cL_law 339 = .ok (.iconst 1, 1) := by decide +kernel
theorem dL_law_340 : decode cL_law 340 = .ok (.iadd, 1) := by decide +kernel
theorem dL_law_341 : decode cL_law 341 = .ok (.iaload, 1) := by decide +kernel
theorem dL_law_342 : decode cL_law 342 = .ok (.aload_n 0, 1) := by decide +kernel
theorem dL_law_343 : decode cL_law 343 = .ok (.iload_n 3, 1) := by decide +kernel
theorem dL_law_344 : decode cL_law 344 = .ok (.iconst 2, 1) := by decide +kernel
theorem dL_law_345 : decode cL_law 345 = .ok (.iadd, 1) := by decide +kernel
theorem dL_law_346 : decode cL_law 346 = .ok (.iaload, 1) := by decide +kernel
theorem dL_law_347 : decode cL_law 347 = .ok (.invokevirtual 35, 3) := by decide +kernel
theorem dL_law_350 : decode cL_law 350 = .ok (.if_icmp .eq 820, 3) := by decide +kernel
theorem dL_law_353 : decode cL_law 353 = .ok (.iconst 0, 1) := by decide +kernel
theorem dL_law_354 : decode cL_law 354 = .ok (.ireturn, 1) := by decide +kernel
theorem dL_law_355 : decode cL_law 355 = .ok (.aload_n 1, 1) := by decide +kernel
theorem dL_law_356 : decode cL_law 356 = .ok (.aload_n 0, 1) := by decide +kernel
theorem dL_law_357 : decode cL_law 357 = .ok (.iload_n 3, 1) := by decide +kernel
theorem dL_law_358 : decode cL_law 358 = .ok (.iconst 1, 1) := by decide +kernel
theorem dL_law_359 : decode cL_law 359 = .ok (.iadd, 1) := by decide +kernel
theorem dL_law_360 : decode cL_law 360 = .ok (.iaload, 1) := by decide +kernel
theorem dL_law_361 : decode cL_law 361 = .ok (.invokevirtual 36, 3) := by decide +kernel
theorem dL_law_364 : decode cL_law 364 = .ok (.aload_n 2, 1) := by decide +kernel
theorem dL_law_365 : decode cL_law 365 = .ok (.aload_n 0, 1) := by decide +kernel
theorem dL_law_366 : decode cL_law 366 = .ok (.iload_n 3, 1) := by decide +kernel
theorem dL_law_367 : decode cL_law 367 = .ok (.iconst 1, 1) := by decide +kernel
theorem dL_law_368 : decode cL_law 368 = .ok (.iadd, 1) := by decide +kernel
theorem dL_law_369 : decode cL_law 369 = .ok (.iaload, 1) := by decide +kernel
theorem dL_law_370 : decode cL_law 370 = .ok (.invokevirtual 39, 3) := by decide +kernel
theorem dL_law_373 : decode cL_law 373 = .ok (.if_icmp .eq 797, 3) := by decide +kernel
theorem dL_law_376 : decode cL_law 376 = .ok (.iconst 0, 1) := by decide +kernel
theorem dL_law_377 : decode cL_law 377 = .ok (.ireturn, 1) := by decide +kernel
theorem dL_law_378 : decode cL_law 378 = .ok (.aload_n 1, 1) := by decide +kernel
theorem dL_law_379 : decode cL_law 379 = .ok (.invokevirtual 40, 3) := by decide +kernel
theorem dL_law_382 : decode cL_law 382 = .ok (.aload_n 2, 1) := by decide +kernel
theorem dL_law_383 : decode cL_law 383 = .ok (.invokevirtual 44, 3) := by decide +kernel
theorem dL_law_386 : decode cL_law 386 = .ok (.if_icmp .eq 784, 3) := by decide +kernel
theorem dL_law_389 : decode cL_law 389 = .ok (.iconst 0, 1) := by decide +kernel
theorem dL_law_390 : decode cL_law 390 = .ok (.ireturn, 1) := by decide +kernel
theorem dL_law_391 : decode cL_law 391 = .ok (.aload_n 1, 1) := by decide +kernel
theorem dL_law_392 : decode cL_law 392 = .ok (.invokevirtual 45, 3) := by decide +kernel
theorem dL_law_395 : decode cL_law 395 = .ok (.aload_n 2, 1) := by decide +kernel
theorem dL_law_396 : decode cL_law 396 = .ok (.invokevirtual 48, 3) := by decide +kernel
theorem dL_law_399 : decode cL_law 399 = .ok (.if_icmp .eq 771, 3) := by decide +kernel
theorem dL_law_402 : decode cL_law 402 = .ok (.iconst 0, 1) := by decide +kernel
theorem dL_law_403 : decode cL_law 403 = .ok (.ireturn, 1) := by decide +kernel
theorem dL_law_404 : decode cL_law 404 = .ok (.aload_n 1, 1) := by decide +kernel
theorem dL_law_405 : decode cL_law 405 = .ok (.invokevirtual 49, 3) := by decide +kernel
theorem dL_law_408 : decode cL_law 408 = .ok (.aload_n 2, 1) := by decide +kernel
theorem dL_law_409 : decode cL_law 409 = .ok (.invokevirtual 52, 3) := by decide +kernel
theorem dL_law_412 : decode cL_law 412 = .ok (.if_icmp .eq 758, 3) := by decide +kernel
theorem dL_law_415 : decode cL_law 415 = .ok (.iconst 0, 1) := by decide +kernel
theorem dL_law_416 : decode cL_law 416 = .ok (.ireturn, 1) := by decide +kernel
theorem dL_law_417 : decode cL_law 417 = .ok (.aload_n 1, 1) := by decide +kernel
theorem dL_law_418 : decode cL_law 418 = .ok (.aload_n 0, 1) := by decide +kernel
theorem dL_law_419 : decode cL_law 419 = .ok (.iload_n 3, 1) := by decide +kernel
theorem dL_law_420 : decode cL_law 420 = .ok (.iconst 1, 1) := by decide +kernel
theorem dL_law_421 : decode cL_law 421 = .ok (.iadd, 1) := by decide +kernel
theorem dL_law_422 : decode cL_law 422 = .ok (.iaload, 1) := by decide +kernel
theorem dL_law_423 : decode cL_law 423 = .ok (.invokevirtual 53, 3) := by decide +kernel
theorem dL_law_426 : decode cL_law 426 = .ok (.aload_n 2, 1) := by decide +kernel
theorem dL_law_427 : decode cL_law 427 = .ok (.aload_n 0, 1) := by decide +kernel
theorem dL_law_428 : decode cL_law 428 = .ok (.iload_n 3, 1) := by decide +kernel
theorem dL_law_429 : decode cL_law 429 = .ok (.iconst 1, 1) := by decide +kernel
theorem dL_law_430 : decode cL_law 430 = .ok (.iadd, 1) := by decide +kernel
theorem dL_law_431 : decode cL_law 431 = .ok (.iaload, 1) := by decide +kernel
theorem dL_law_432 : decode cL_law 432 = .ok (.invokevirtual 56, 3) := by decide +kernel
theorem dL_law_435 : decode cL_law 435 = .ok (.if_icmp .eq 735, 3) := by decide +kernel
theorem dL_law_438 : decode cL_law 438 = .ok (.iconst 0, 1) := by decide +kernel
theorem dL_law_439 : decode cL_law 439 = .ok (.ireturn, 1) := by decide +kernel
theorem dL_law_440 : decode cL_law 440 = .ok (.aload_n 1, 1) := by decide +kernel
theorem dL_law_441 : decode cL_law 441 = .ok (.aload_n 0, 1) := by decide +kernel
theorem dL_law_442 : decode cL_law 442 = .ok (.iload_n 3, 1) := by decide +kernel
theorem dL_law_443 : decode cL_law 443 = .ok (.iconst 1, 1) := by decide +kernel
theorem dL_law_444 : decode cL_law 444 = .ok (.iadd, 1) := by decide +kernel
theorem dL_law_445 : decode cL_law 445 = .ok (.iaload, 1) := by decide +kernel
theorem dL_law_446 : decode cL_law 446 = .ok (.invokevirtual 57, 3) := by decide +kernel
theorem dL_law_449 : decode cL_law 449 = .ok (.aload_n 2, 1) := by decide +kernel
theorem dL_law_450 : decode cL_law 450 = .ok (.aload_n 0, 1) := by decide +kernel
theorem dL_law_451 : decode cL_law 451 = .ok (.iload_n 3, 1) := by decide +kernel
theorem dL_law_452 : decode cL_law 452 = .ok (.iconst 1, 1) := by decide +kernel
theorem dL_law_453 : decode cL_law 453 = .ok (.iadd, 1) := by decide +kernel
theorem dL_law_454 : decode cL_law 454 = .ok (.iaload, 1) := by decide +kernel
theorem dL_law_455 : decode cL_law 455 = .ok (.invokevirtual 60, 3) := by decide +kernel
theorem dL_law_458 : decode cL_law 458 = .ok (.if_icmp .eq 712, 3) := by decide +kernel
theorem dL_law_461 : decode cL_law 461 = .ok (.iconst 0, 1) := by decide +kernel
theorem dL_law_462 : decode cL_law 462 = .ok (.ireturn, 1) := by decide +kernel
theorem dL_law_463 : decode cL_law 463 = .ok (.aload_n 1, 1) := by decide +kernel
theorem dL_law_464 : decode cL_law 464 = .ok (.aload_n 0, 1) := by decide +kernel
theorem dL_law_465 : decode cL_law 465 = .ok (.iload_n 3, 1) := by decide +kernel
theorem dL_law_466 : decode cL_law 466 = .ok (.iconst 1, 1) := by decide +kernel
theorem dL_law_467 : decode cL_law 467 = .ok (.iadd, 1) := by decide +kernel
theorem dL_law_468 : decode cL_law 468 = .ok (.iaload, 1) := by decide +kernel
theorem dL_law_469 : decode cL_law 469 = .ok (.aload_n 0, 1) := by decide +kernel
theorem dL_law_470 : decode cL_law 470 = .ok (.iload_n 3, 1) := by decide +kernel
theorem dL_law_471 : decode cL_law 471 = .ok (.iconst 2, 1) := by decide +kernel
theorem dL_law_472 : decode cL_law 472 = .ok (.iadd, 1) := by decide +kernel
theorem dL_law_473 : decode cL_law 473 = .ok (.iaload, 1) := by decide +kernel
theorem dL_law_474 : decode cL_law 474 = .ok (.ifCond .eq 7, 3) := by decide +kernel
theorem dL_law_477 : decode cL_law 477 = .ok (.iconst 1, 1) := by decide +kernel
theorem dL_law_478 : decode cL_law 478 = .ok (.goto 4, 3) := by decide +kernel
theorem dL_law_481 : decode cL_law 481 = .ok (.iconst 0, 1) := by decide +kernel
theorem dL_law_482 : decode cL_law 482 = .ok (.invokevirtual 61, 3) := by decide +kernel
theorem dL_law_485 : decode cL_law 485 = .ok (.aload_n 2, 1) := by decide +kernel
theorem dL_law_486 : decode cL_law 486 = .ok (.aload_n 0, 1) := by decide +kernel
theorem dL_law_487 : decode cL_law 487 = .ok (.iload_n 3, 1) := by decide +kernel
theorem dL_law_488 : decode cL_law 488 = .ok (.iconst 1, 1) := by decide +kernel
theorem dL_law_489 : decode cL_law 489 = .ok (.iadd, 1) := by decide +kernel
theorem dL_law_490 : decode cL_law 490 = .ok (.iaload, 1) := by decide +kernel
theorem dL_law_491 : decode cL_law 491 = .ok (.aload_n 0, 1) := by decide +kernel
theorem dL_law_492 : decode cL_law 492 = .ok (.iload_n 3, 1) := by decide +kernel
theorem dL_law_493 : decode cL_law 493 = .ok (.iconst 2, 1) := by decide +kernel
theorem dL_law_494 : decode cL_law 494 = .ok (.iadd, 1) := by decide +kernel
theorem dL_law_495 : decode cL_law 495 = .ok (.iaload, 1) := by decide +kernel
theorem dL_law_496 : decode cL_law 496 = .ok (.ifCond .eq 7, 3) := by decide +kernel
theorem dL_law_499 : decode cL_law 499 = .ok (.iconst 1, 1) := by decide +kernel
theorem dL_law_500 : decode cL_law 500 = .ok (.goto 4, 3) := by decide +kernel
theorem dL_law_503 : decode cL_law 503 = .ok (.iconst 0, 1) := by decide +kernel
theorem dL_law_504 : decode cL_law 504 = .ok (.invokevirtual 65, 3) := by decide +kernel
theorem dL_law_507 : decode cL_law 507 = .ok (.if_icmp .eq 663, 3) := by decide +kernel
theorem dL_law_510 : decode cL_law 510 = .ok (.iconst 0, 1) := by decide +kernel
theorem dL_law_511 : decode cL_law 511 = .ok (.ireturn, 1) := by decide +kernel
theorem dL_law_512 : decode cL_law 512 = .ok (.aload_n 1, 1) := by decide +kernel
theorem dL_law_513 : decode cL_law 513 = .ok (.invokevirtual 66, 3) := by decide +kernel
theorem dL_law_516 : decode cL_law 516 = .ok (.aload_n 2, 1) := by decide +kernel
theorem dL_law_517 : decode cL_law 517 = .ok (.invokevirtual 69, 3) := by decide +kernel
theorem dL_law_520 : decode cL_law 520 = .ok (.if_icmp .eq 650, 3) := by decide +kernel
theorem dL_law_523 : decode cL_law 523 = .ok (.iconst 0, 1) := by decide +kernel
theorem dL_law_524 : decode cL_law 524 = .ok (.ireturn, 1) := by decide +kernel
theorem dL_law_525 : decode cL_law 525 = .ok (.aload_n 1, 1) := by decide +kernel
theorem dL_law_526 : decode cL_law 526 = .ok (.aload_n 0, 1) := by decide +kernel
theorem dL_law_527 : decode cL_law 527 = .ok (.iload_n 3, 1) := by decide +kernel
theorem dL_law_528 : decode cL_law 528 = .ok (.iconst 1, 1) := by decide +kernel
theorem dL_law_529 : decode cL_law 529 = .ok (.iadd, 1) := by decide +kernel
theorem dL_law_530 : decode cL_law 530 = .ok (.iaload, 1) := by decide +kernel
theorem dL_law_531 : decode cL_law 531 = .ok (.ifCond .eq 7, 3) := by decide +kernel
theorem dL_law_534 : decode cL_law 534 = .ok (.iconst 1, 1) := by decide +kernel
theorem dL_law_535 : decode cL_law 535 = .ok (.goto 4, 3) := by decide +kernel
theorem dL_law_538 : decode cL_law 538 = .ok (.iconst 0, 1) := by decide +kernel
theorem dL_law_539 : decode cL_law 539 = .ok (.aload_n 0, 1) := by decide +kernel
theorem dL_law_540 : decode cL_law 540 = .ok (.iload_n 3, 1) := by decide +kernel
theorem dL_law_541 : decode cL_law 541 = .ok (.iconst 2, 1) := by decide +kernel
theorem dL_law_542 : decode cL_law 542 = .ok (.iadd, 1) := by decide +kernel
theorem dL_law_543 : decode cL_law 543 = .ok (.iaload, 1) := by decide +kernel
theorem dL_law_544 : decode cL_law 544 = .ok (.invokevirtual 70, 3) := by decide +kernel
theorem dL_law_547 : decode cL_law 547 = .ok (.aload_n 2, 1) := by decide +kernel
theorem dL_law_548 : decode cL_law 548 = .ok (.aload_n 0, 1) := by decide +kernel
theorem dL_law_549 : decode cL_law 549 = .ok (.iload_n 3, 1) := by decide +kernel
theorem dL_law_550 : decode cL_law 550 = .ok (.iconst 1, 1) := by decide +kernel
theorem dL_law_551 : decode cL_law 551 = .ok (.iadd, 1) := by decide +kernel
theorem dL_law_552 : decode cL_law 552 = .ok (.iaload, 1) := by decide +kernel
theorem dL_law_553 : decode cL_law 553 = .ok (.ifCond .eq 7, 3) := by decide +kernel
theorem dL_law_556 : decode cL_law 556 = .ok (.iconst 1, 1) := by decide +kernel
theorem dL_law_557 : decode cL_law 557 = .ok (.goto 4, 3) := by decide +kernel
theorem dL_law_560 : decode cL_law 560 = .ok (.iconst 0, 1) := by decide +kernel
theorem dL_law_561 : decode cL_law 561 = .ok (.aload_n 0, 1) := by decide +kernel
theorem dL_law_562 : decode cL_law 562 = .ok (.iload_n 3, 1) := by decide +kernel
theorem dL_law_563 : decode cL_law 563 = .ok (.iconst 2, 1) := by decide +kernel
theorem dL_law_564 : decode cL_law 564 = .ok (.iadd, 1) := by decide +kernel
theorem dL_law_565 : decode cL_law 565 = .ok (.iaload, 1) := by decide +kernel
theorem dL_law_566 : decode cL_law 566 = .ok (.invokevirtual 74, 3) := by decide +kernel
theorem dL_law_569 : decode cL_law 569 = .ok (.if_icmp .eq 601, 3) := by decide +kernel
theorem dL_law_572 : decode cL_law 572 = .ok (.iconst 0, 1) := by decide +kernel
theorem dL_law_573 : decode cL_law 573 = .ok (.ireturn, 1) := by decide +kernel
theorem dL_law_574 : decode cL_law 574 = .ok (.aload_n 1, 1) := by decide +kernel
theorem dL_law_575 : decode cL_law 575 = .ok (.aload_n 0, 1) := by decide +kernel
theorem dL_law_576 : decode cL_law 576 = .ok (.iload_n 3, 1) := by decide +kernel
theorem dL_law_577 : decode cL_law 577 = .ok (.iconst 1, 1) := by decide +kernel
theorem dL_law_578 : decode cL_law 578 = .ok (.iadd, 1) := by decide +kernel
theorem dL_law_579 : decode cL_law 579 = .ok (.iaload, 1) := by decide +kernel
theorem dL_law_580 : decode cL_law 580 = .ok (.aload_n 0, 1) := by decide +kernel
theorem dL_law_581 : decode cL_law 581 = .ok (.iload_n 3, 1) := by decide +kernel
theorem dL_law_582 : decode cL_law 582 = .ok (.iconst 2, 1) := by decide +kernel
theorem dL_law_583 : decode cL_law 583 = .ok (.iadd, 1) := by decide +kernel
theorem dL_law_584 : decode cL_law 584 = .ok (.iaload, 1) := by decide +kernel
theorem dL_law_585 : decode cL_law 585 = .ok (.aload_n 0, 1) := by decide +kernel
theorem dL_law_586 : decode cL_law 586 = .ok (.iload_n 3, 1) := by decide +kernel
theorem dL_law_587 : decode cL_law 587 = .ok (.iconst 3, 1) := by decide +kernel
theorem dL_law_588 : decode cL_law 588 = .ok (.iadd, 1) := by decide +kernel
theorem dL_law_589 : decode cL_law 589 = .ok (.iaload, 1) := by decide +kernel
theorem dL_law_590 : decode cL_law 590 = .ok (.invokevirtual 75, 3) := by decide +kernel
theorem dL_law_593 : decode cL_law 593 = .ok (.aload_n 2, 1) := by decide +kernel
theorem dL_law_594 : decode cL_law 594 = .ok (.aload_n 0, 1) := by decide +kernel
theorem dL_law_595 : decode cL_law 595 = .ok (.iload_n 3, 1) := by decide +kernel
theorem dL_law_596 : decode cL_law 596 = .ok (.iconst 1, 1) := by decide +kernel
theorem dL_law_597 : decode cL_law 597 = .ok (.iadd, 1) := by decide +kernel
theorem dL_law_598 : decode cL_law 598 = .ok (.iaload, 1) := by decide +kernel
theorem dL_law_599 : decode cL_law 599 = .ok (.aload_n 0, 1) := by decide +kernel
theorem dL_law_600 : decode cL_law 600 = .ok (.iload_n 3, 1) := by decide +kernel
theorem dL_law_601 : decode cL_law 601 = .ok (.iconst 2, 1) := by decide +kernel
theorem dL_law_602 : decode cL_law 602 = .ok (.iadd, 1) := by decide +kernel
theorem dL_law_603 : decode cL_law 603 = .ok (.iaload, 1) := by decide +kernel
theorem dL_law_604 : decode cL_law 604 = .ok (.aload_n 0, 1) := by decide +kernel
theorem dL_law_605 : decode cL_law 605 = .ok (.iload_n 3, 1) := by decide +kernel
theorem dL_law_606 : decode cL_law 606 = .ok (.iconst 3, 1) := by decide +kernel
theorem dL_law_607 : decode cL_law 607 = .ok (.iadd, 1) := by decide +kernel
theorem dL_law_608 : decode cL_law 608 = .ok (.iaload, 1) := by decide +kernel
theorem dL_law_609 : decode cL_law 609 = .ok (.invokevirtual 78, 3) := by decide +kernel
theorem dL_law_612 : decode cL_law 612 = .ok (.if_icmp .eq 558, 3) := by decide +kernel
theorem dL_law_615 : decode cL_law 615 = .ok (.iconst 0, 1) := by decide +kernel
theorem dL_law_616 : decode cL_law 616 = .ok (.ireturn, 1) := by decide +kernel
theorem dL_law_617 : decode cL_law 617 = .ok (.aload_n 1, 1) := by decide +kernel
theorem dL_law_618 : decode cL_law 618 = .ok (.aload_n 0, 1) := by decide +kernel
theorem dL_law_619 : decode cL_law 619 = .ok (.iload_n 3, 1) := by decide +kernel
theorem dL_law_620 : decode cL_law 620 = .ok (.iconst 1, 1) := by decide +kernel
theorem dL_law_621 : decode cL_law 621 = .ok (.iadd, 1) := by decide +kernel
theorem dL_law_622 : decode cL_law 622 = .ok (.iaload, 1) := by decide +kernel
theorem dL_law_623 : decode cL_law 623 = .ok (.aload_n 0, 1) := by decide +kernel
theorem dL_law_624 : decode cL_law 624 = .ok (.iload_n 3, 1) := by decide +kernel
theorem dL_law_625 : decode cL_law 625 = .ok (.iconst 2, 1) := by decide +kernel
theorem dL_law_626 : decode cL_law 626 = .ok (.iadd, 1) := by decide +kernel
theorem dL_law_627 : decode cL_law 627 = .ok (.iaload, 1) := by decide +kernel
theorem dL_law_628 : decode cL_law 628 = .ok (.invokevirtual 79, 3) := by decide +kernel
theorem dL_law_631 : decode cL_law 631 = .ok (.aload_n 2, 1) := by decide +kernel
theorem dL_law_632 : decode cL_law 632 = .ok (.aload_n 0, 1) := by decide +kernel
theorem dL_law_633 : decode cL_law 633 = .ok (.iload_n 3, 1) := by decide +kernel
theorem dL_law_634 : decode cL_law 634 = .ok (.iconst 1, 1) := by decide +kernel
theorem dL_law_635 : decode cL_law 635 = .ok (.iadd, 1) := by decide +kernel
theorem dL_law_636 : decode cL_law 636 = .ok (.iaload, 1) := by decide +kernel
theorem dL_law_637 : decode cL_law 637 = .ok (.aload_n 0, 1) := by decide +kernel
theorem dL_law_638 : decode cL_law 638 = .ok (.iload_n 3, 1) := by decide +kernel
theorem dL_law_639 : decode cL_law 639 = .ok (.iconst 2, 1) := by decide +kernel
theorem dL_law_640 : decode cL_law 640 = .ok (.iadd, 1) := by decide +kernel
theorem dL_law_641 : decode cL_law 641 = .ok (.iaload, 1) := by decide +kernel
theorem dL_law_642 : decode cL_law 642 = .ok (.invokevirtual 82, 3) := by decide +kernel
theorem dL_law_645 : decode cL_law 645 = .ok (.if_icmp .eq 525, 3) := by decide +kernel
theorem dL_law_648 : decode cL_law 648 = .ok (.iconst 0, 1) := by decide +kernel
theorem dL_law_649 : decode cL_law 649 = .ok (.ireturn, 1) := by decide +kernel
theorem dL_law_650 : decode cL_law 650 = .ok (.aload_n 1, 1) := by decide +kernel
theorem dL_law_651 : decode cL_law 651 = .ok (.aload_n 0, 1) := by decide +kernel
theorem dL_law_652 : decode cL_law 652 = .ok (.iload_n 3, 1) := by decide +kernel
theorem dL_law_653 : decode cL_law 653 = .ok (.iconst 1, 1) := by decide +kernel
theorem dL_law_654 : decode cL_law 654 = .ok (.iadd, 1) := by decide +kernel
theorem dL_law_655 : decode cL_law 655 = .ok (.iaload, 1) := by decide +kernel
theorem dL_law_656 : decode cL_law 656 = .ok (.invokevirtual 83, 3) := by decide +kernel
theorem dL_law_659 : decode cL_law 659 = .ok (.aload_n 2, 1) := by decide +kernel
theorem dL_law_660 : decode cL_law 660 = .ok (.aload_n 0, 1) := by decide +kernel
theorem dL_law_661 : decode cL_law 661 = .ok (.iload_n 3, 1) := by decide +kernel
theorem dL_law_662 : decode cL_law 662 = .ok (.iconst 1, 1) := by decide +kernel
theorem dL_law_663 : decode cL_law 663 = .ok (.iadd, 1) := by decide +kernel
theorem dL_law_664 : decode cL_law 664 = .ok (.iaload, 1) := by decide +kernel
theorem dL_law_665 : decode cL_law 665 = .ok (.invokevirtual 86, 3) := by decide +kernel
theorem dL_law_668 : decode cL_law 668 = .ok (.if_icmp .eq 502, 3) := by decide +kernel
theorem dL_law_671 : decode cL_law 671 = .ok (.iconst 0, 1) := by decide +kernel
theorem dL_law_672 : decode cL_law 672 = .ok (.ireturn, 1) := by decide +kernel
theorem dL_law_673 : decode cL_law 673 = .ok (.aload_n 1, 1) := by decide +kernel
theorem dL_law_674 : decode cL_law 674 = .ok (.aload_n 0, 1) := by decide +kernel
theorem dL_law_675 : decode cL_law 675 = .ok (.iload_n 3, 1) := by decide +kernel
theorem dL_law_676 : decode cL_law 676 = .ok (.iconst 1, 1) := by decide +kernel
theorem dL_law_677 : decode cL_law 677 = .ok (.iadd, 1) := by decide +kernel
theorem dL_law_678 : decode cL_law 678 = .ok (.iaload, 1) := by decide +kernel
theorem dL_law_679 : decode cL_law 679 = .ok (.invokevirtual 87, 3) := by decide +kernel
theorem dL_law_682 : decode cL_law 682 = .ok (.aload_n 2, 1) := by decide +kernel
theorem dL_law_683 : decode cL_law 683 = .ok (.aload_n 0, 1) := by decide +kernel
theorem dL_law_684 : decode cL_law 684 = .ok (.iload_n 3, 1) := by decide +kernel
theorem dL_law_685 : decode cL_law 685 = .ok (.iconst 1, 1) := by decide +kernel
theorem dL_law_686 : decode cL_law 686 = .ok (.iadd, 1) := by decide +kernel
theorem dL_law_687 : decode cL_law 687 = .ok (.iaload, 1) := by decide +kernel
theorem dL_law_688 : decode cL_law 688 = .ok (.invokevirtual 90, 3) := by decide +kernel
theorem dL_law_691 : decode cL_law 691 = .ok (.if_icmp .eq 479, 3) := by decide +kernel
theorem dL_law_694 : decode cL_law 694 = .ok (.iconst 0, 1) := by decide +kernel
theorem dL_law_695 : decode cL_law 695 = .ok (.ireturn, 1) := by decide +kernel
theorem dL_law_696 : decode cL_law 696 = .ok (.aload_n 1, 1) := by decide +kernel
theorem dL_law_697 : decode cL_law 697 = .ok (.aload_n 0, 1) := by decide +kernel
theorem dL_law_698 : decode cL_law 698 = .ok (.iload_n 3, 1) := by decide +kernel
theorem dL_law_699 : decode cL_law 699 = .ok (.iconst 1, 1) := by decide +kernel
theorem dL_law_700 : decode cL_law 700 = .ok (.iadd, 1) := by decide +kernel
theorem dL_law_701 : decode cL_law 701 = .ok (.iaload, 1) := by decide +kernel
theorem dL_law_702 : decode cL_law 702 = .ok (.invokevirtual 91, 3) := by decide +kernel
theorem dL_law_705 : decode cL_law 705 = .ok (.aload_n 2, 1) := by decide +kernel
theorem dL_law_706 : decode cL_law 706 = .ok (.aload_n 0, 1) := by decide +kernel
theorem dL_law_707 : decode cL_law 707 = .ok (.iload_n 3, 1) := by decide +kernel
theorem dL_law_708 : decode cL_law 708 = .ok (.iconst 1, 1) := by decide +kernel
theorem dL_law_709 : decode cL_law 709 = .ok (.iadd, 1) := by decide +kernel
theorem dL_law_710 : decode cL_law 710 = .ok (.iaload, 1) := by decide +kernel
theorem dL_law_711 : decode cL_law 711 = .ok (.invokevirtual 94, 3) := by decide +kernel
theorem dL_law_714 : decode cL_law 714 = .ok (.if_icmp .eq 456, 3) := by decide +kernel
theorem dL_law_717 : decode cL_law 717 = .ok (.iconst 0, 1) := by decide +kernel
theorem dL_law_718 : decode cL_law 718 = .ok (.ireturn, 1) := by decide +kernel
theorem dL_law_719 : decode cL_law 719 = .ok (.aload_n 1, 1) := by decide +kernel
theorem dL_law_720 : decode cL_law 720 = .ok (.aload_n 0, 1) := by decide +kernel
theorem dL_law_721 : decode cL_law 721 = .ok (.iload_n 3, 1) := by decide +kernel
theorem dL_law_722 : decode cL_law 722 = .ok (.iconst 1, 1) := by decide +kernel
theorem dL_law_723 : decode cL_law 723 = .ok (.iadd, 1) := by decide +kernel
theorem dL_law_724 : decode cL_law 724 = .ok (.iaload, 1) := by decide +kernel
theorem dL_law_725 : decode cL_law 725 = .ok (.ifCond .eq 7, 3) := by decide +kernel
theorem dL_law_728 : decode cL_law 728 = .ok (.iconst 1, 1) := by decide +kernel
theorem dL_law_729 : decode cL_law 729 = .ok (.goto 4, 3) := by decide +kernel
theorem dL_law_732 : decode cL_law 732 = .ok (.iconst 0, 1) := by decide +kernel
theorem dL_law_733 : decode cL_law 733 = .ok (.invokevirtual 95, 3) := by decide +kernel
theorem dL_law_736 : decode cL_law 736 = .ok (.aload_n 2, 1) := by decide +kernel
theorem dL_law_737 : decode cL_law 737 = .ok (.aload_n 0, 1) := by decide +kernel
theorem dL_law_738 : decode cL_law 738 = .ok (.iload_n 3, 1) := by decide +kernel
theorem dL_law_739 : decode cL_law 739 = .ok (.iconst 1, 1) := by decide +kernel
theorem dL_law_740 : decode cL_law 740 = .ok (.iadd, 1) := by decide +kernel
theorem dL_law_741 : decode cL_law 741 = .ok (.iaload, 1) := by decide +kernel
theorem dL_law_742 : decode cL_law 742 = .ok (.ifCond .eq 7, 3) := by decide +kernel
theorem dL_law_745 : decode cL_law 745 = .ok (.iconst 1, 1) := by decide +kernel
theorem dL_law_746 : decode cL_law 746 = .ok (.goto 4, 3) := by decide +kernel
theorem dL_law_749 : decode cL_law 749 = .ok (.iconst 0, 1) := by decide +kernel
theorem dL_law_750 : decode cL_law 750 = .ok (.invokevirtual 99, 3) := by decide +kernel
theorem dL_law_753 : decode cL_law 753 = .ok (.if_icmp .eq 417, 3) := by decide +kernel
theorem dL_law_756 : decode cL_law 756 = .ok (.iconst 0, 1) := by decide +kernel
theorem dL_law_757 : decode cL_law 757 = .ok (.ireturn, 1) := by decide +kernel
theorem dL_law_758 : decode cL_law 758 = .ok (.aload_n 1, 1) := by decide +kernel
theorem dL_law_759 : decode cL_law 759 = .ok (.aload_n 0, 1) := by decide +kernel
theorem dL_law_760 : decode cL_law 760 = .ok (.iload_n 3, 1) := by decide +kernel
theorem dL_law_761 : decode cL_law 761 = .ok (.iconst 1, 1) := by decide +kernel
theorem dL_law_762 : decode cL_law 762 = .ok (.iadd, 1) := by decide +kernel
theorem dL_law_763 : decode cL_law 763 = .ok (.iaload, 1) := by decide +kernel
theorem dL_law_764 : decode cL_law 764 = .ok (.invokevirtual 100, 3) := by decide +kernel
theorem dL_law_767 : decode cL_law 767 = .ok (.aload_n 2, 1) := by decide +kernel
theorem dL_law_768 : decode cL_law 768 = .ok (.aload_n 0, 1) := by decide +kernel
theorem dL_law_769 : decode cL_law 769 = .ok (.iload_n 3, 1) := by decide +kernel
theorem dL_law_770 : decode cL_law 770 = .ok (.iconst 1, 1) := by decide +kernel
theorem dL_law_771 : decode cL_law 771 = .ok (.iadd, 1) := by decide +kernel
theorem dL_law_772 : decode cL_law 772 = .ok (.iaload, 1) := by decide +kernel
theorem dL_law_773 : decode cL_law 773 = .ok (.invokevirtual 103, 3) := by decide +kernel
theorem dL_law_776 : decode cL_law 776 = .ok (.if_icmp .eq 394, 3) := by decide +kernel
theorem dL_law_779 : decode cL_law 779 = .ok (.iconst 0, 1) := by decide +kernel
theorem dL_law_780 : decode cL_law 780 = .ok (.ireturn, 1) := by decide +kernel
theorem dL_law_781 : decode cL_law 781 = .ok (.aload_n 1, 1) := by decide +kernel
theorem dL_law_782 : decode cL_law 782 = .ok (.invokevirtual 104, 3) := by decide +kernel
theorem dL_law_785 : decode cL_law 785 = .ok (.aload_n 2, 1) := by decide +kernel
theorem dL_law_786 : decode cL_law 786 = .ok (.invokevirtual 107, 3) := by decide +kernel
theorem dL_law_789 : decode cL_law 789 = .ok (.if_icmp .eq 381, 3) := by decide +kernel
theorem dL_law_792 : decode cL_law 792 = .ok (.iconst 0, 1) := by decide +kernel
theorem dL_law_793 : decode cL_law 793 = .ok (.ireturn, 1) := by decide +kernel
theorem dL_law_794 : decode cL_law 794 = .ok (.aload_n 1, 1) := by decide +kernel
theorem dL_law_795 : decode cL_law 795 = .ok (.aload_n 0, 1) := by decide +kernel
theorem dL_law_796 : decode cL_law 796 = .ok (.iload_n 3, 1) := by decide +kernel
theorem dL_law_797 : decode cL_law 797 = .ok (.iconst 1, 1) := by decide +kernel
theorem dL_law_798 : decode cL_law 798 = .ok (.iadd, 1) := by decide +kernel
theorem dL_law_799 : decode cL_law 799 = .ok (.iaload, 1) := by decide +kernel
theorem dL_law_800 : decode cL_law 800 = .ok (.aload_n 0, 1) := by decide +kernel
theorem dL_law_801 : decode cL_law 801 = .ok (.iload_n 3, 1) := by decide +kernel
theorem dL_law_802 : decode cL_law 802 = .ok (.iconst 2, 1) := by decide +kernel
theorem dL_law_803 : decode cL_law 803 = .ok (.iadd, 1) := by decide +kernel
theorem dL_law_804 : decode cL_law 804 = .ok (.iaload, 1) := by decide +kernel
theorem dL_law_805 : decode cL_law 805 = .ok (.invokevirtual 108, 3) := by decide +kernel
theorem dL_law_808 : decode cL_law 808 = .ok (.aload_n 2, 1) := by decide +kernel
theorem dL_law_809 : decode cL_law 809 = .ok (.aload_n 0, 1) := by decide +kernel
theorem dL_law_810 : decode cL_law 810 = .ok (.iload_n 3, 1) := by decide +kernel
theorem dL_law_811 : decode cL_law 811 = .ok (.iconst 1, 1) := by decide +kernel
theorem dL_law_812 : decode cL_law 812 = .ok (.iadd, 1) := by decide +kernel
theorem dL_law_813 : decode cL_law 813 = .ok (.iaload, 1) := by decide +kernel
theorem dL_law_814 : decode cL_law 814 = .ok (.aload_n 0, 1) := by decide +kernel
theorem dL_law_815 : decode cL_law 815 = .ok (.iload_n 3, 1) := by decide +kernel
theorem dL_law_816 : decode cL_law 816 = .ok (.iconst 2, 1) := by decide +kernel
theorem dL_law_817 : decode cL_law 817 = .ok (.iadd, 1) := by decide +kernel
theorem dL_law_818 : decode cL_law 818 = .ok (.iaload, 1) := by decide +kernel
theorem dL_law_819 : decode cL_law 819 = .ok (.invokevirtual 112, 3) := by decide +kernel
theorem dL_law_822 : decode cL_law 822 = .ok (.lcmp, 1) := by decide +kernel
theorem dL_law_823 : decode cL_law 823 = .ok (.ifCond .eq 347, 3) := by decide +kernel
theorem dL_law_826 : decode cL_law 826 = .ok (.iconst 0, 1) := by decide +kernel
theorem dL_law_827 : decode cL_law 827 = .ok (.ireturn, 1) := by decide +kernel
theorem dL_law_828 : decode cL_law 828 = .ok (.aload_n 1, 1) := by decide +kernel
theorem dL_law_829 : decode cL_law 829 = .ok (.aload_n 0, 1) := by decide +kernel
theorem dL_law_830 : decode cL_law 830 = .ok (.iload_n 3, 1) := by decide +kernel
theorem dL_law_831 : decode cL_law 831 = .ok (.iconst 1, 1) := by decide +kernel
theorem dL_law_832 : decode cL_law 832 = .ok (.iadd, 1) := by decide +kernel
theorem dL_law_833 : decode cL_law 833 = .ok (.iaload, 1) := by decide +kernel
theorem dL_law_834 : decode cL_law 834 = .ok (.aload_n 0, 1) := by decide +kernel
theorem dL_law_835 : decode cL_law 835 = .ok (.iload_n 3, 1) := by decide +kernel
theorem dL_law_836 : decode cL_law 836 = .ok (.iconst 2, 1) := by decide +kernel
theorem dL_law_837 : decode cL_law 837 = .ok (.iadd, 1) := by decide +kernel
theorem dL_law_838 : decode cL_law 838 = .ok (.iaload, 1) := by decide +kernel
theorem dL_law_839 : decode cL_law 839 = .ok (.invokevirtual 113, 3) := by decide +kernel
theorem dL_law_842 : decode cL_law 842 = .ok (.aload_n 2, 1) := by decide +kernel
theorem dL_law_843 : decode cL_law 843 = .ok (.aload_n 0, 1) := by decide +kernel
theorem dL_law_844 : decode cL_law 844 = .ok (.iload_n 3, 1) := by decide +kernel
theorem dL_law_845 : decode cL_law 845 = .ok (.iconst 1, 1) := by decide +kernel
theorem dL_law_846 : decode cL_law 846 = .ok (.iadd, 1) := by decide +kernel
theorem dL_law_847 : decode cL_law 847 = .ok (.iaload, 1) := by decide +kernel
theorem dL_law_848 : decode cL_law 848 = .ok (.aload_n 0, 1) := by decide +kernel
theorem dL_law_849 : decode cL_law 849 = .ok (.iload_n 3, 1) := by decide +kernel
theorem dL_law_850 : decode cL_law 850 = .ok (.iconst 2, 1) := by decide +kernel
theorem dL_law_851 : decode cL_law 851 = .ok (.iadd, 1) := by decide +kernel
theorem dL_law_852 : decode cL_law 852 = .ok (.iaload, 1) := by decide +kernel
theorem dL_law_853 : decode cL_law 853 = .ok (.invokevirtual 116, 3) := by decide +kernel
theorem dL_law_856 : decode cL_law 856 = .ok (.lcmp, 1) := by decide +kernel
theorem dL_law_857 : decode cL_law 857 = .ok (.ifCond .eq 313, 3) := by decide +kernel
theorem dL_law_860 : decode cL_law 860 = .ok (.iconst 0, 1) := by decide +kernel
theorem dL_law_861 : decode cL_law 861 = .ok (.ireturn, 1) := by decide +kernel
theorem dL_law_862 : decode cL_law 862 = .ok (.aload_n 1, 1) := by decide +kernel
theorem dL_law_863 : decode cL_law 863 = .ok (.aload_n 0, 1) := by decide +kernel
theorem dL_law_864 : decode cL_law 864 = .ok (.iload_n 3, 1) := by decide +kernel
theorem dL_law_865 : decode cL_law 865 = .ok (.iconst 1, 1) := by decide +kernel
theorem dL_law_866 : decode cL_law 866 = .ok (.iadd, 1) := by decide +kernel
theorem dL_law_867 : decode cL_law 867 = .ok (.iaload, 1) := by decide +kernel
theorem dL_law_868 : decode cL_law 868 = .ok (.invokevirtual 117, 3) := by decide +kernel
theorem dL_law_871 : decode cL_law 871 = .ok (.aload_n 2, 1) := by decide +kernel
theorem dL_law_872 : decode cL_law 872 = .ok (.aload_n 0, 1) := by decide +kernel
theorem dL_law_873 : decode cL_law 873 = .ok (.iload_n 3, 1) := by decide +kernel
theorem dL_law_874 : decode cL_law 874 = .ok (.iconst 1, 1) := by decide +kernel
theorem dL_law_875 : decode cL_law 875 = .ok (.iadd, 1) := by decide +kernel
theorem dL_law_876 : decode cL_law 876 = .ok (.iaload, 1) := by decide +kernel
theorem dL_law_877 : decode cL_law 877 = .ok (.invokevirtual 120, 3) := by decide +kernel
theorem dL_law_880 : decode cL_law 880 = .ok (.if_icmp .eq 290, 3) := by decide +kernel
theorem dL_law_883 : decode cL_law 883 = .ok (.iconst 0, 1) := by decide +kernel
theorem dL_law_884 : decode cL_law 884 = .ok (.ireturn, 1) := by decide +kernel
theorem dL_law_885 : decode cL_law 885 = .ok (.aload_n 1, 1) := by decide +kernel
theorem dL_law_886 : decode cL_law 886 = .ok (.aload_n 0, 1) := by decide +kernel
theorem dL_law_887 : decode cL_law 887 = .ok (.iload_n 3, 1) := by decide +kernel
theorem dL_law_888 : decode cL_law 888 = .ok (.iconst 1, 1) := by decide +kernel
theorem dL_law_889 : decode cL_law 889 = .ok (.iadd, 1) := by decide +kernel
theorem dL_law_890 : decode cL_law 890 = .ok (.iaload, 1) := by decide +kernel
theorem dL_law_891 : decode cL_law 891 = .ok (.aload_n 0, 1) := by decide +kernel
theorem dL_law_892 : decode cL_law 892 = .ok (.iload_n 3, 1) := by decide +kernel
theorem dL_law_893 : decode cL_law 893 = .ok (.iconst 2, 1) := by decide +kernel
theorem dL_law_894 : decode cL_law 894 = .ok (.iadd, 1) := by decide +kernel
theorem dL_law_895 : decode cL_law 895 = .ok (.iaload, 1) := by decide +kernel
theorem dL_law_896 : decode cL_law 896 = .ok (.aload_n 0, 1) := by decide +kernel
theorem dL_law_897 : decode cL_law 897 = .ok (.iload_n 3, 1) := by decide +kernel
theorem dL_law_898 : decode cL_law 898 = .ok (.iconst 3, 1) := by decide +kernel
theorem dL_law_899 : decode cL_law 899 = .ok (.iadd, 1) := by decide +kernel
theorem dL_law_900 : decode cL_law 900 = .ok (.iaload, 1) := by decide +kernel
theorem dL_law_901 : decode cL_law 901 = .ok (.invokevirtual 121, 3) := by decide +kernel
theorem dL_law_904 : decode cL_law 904 = .ok (.aload_n 2, 1) := by decide +kernel
theorem dL_law_905 : decode cL_law 905 = .ok (.aload_n 0, 1) := by decide +kernel
theorem dL_law_906 : decode cL_law 906 = .ok (.iload_n 3, 1) := by decide +kernel
theorem dL_law_907 : decode cL_law 907 = .ok (.iconst 1, 1) := by decide +kernel
theorem dL_law_908 : decode cL_law 908 = .ok (.iadd, 1) := by decide +kernel
theorem dL_law_909 : decode cL_law 909 = .ok (.iaload, 1) := by decide +kernel
theorem dL_law_910 : decode cL_law 910 = .ok (.aload_n 0, 1) := by decide +kernel
theorem dL_law_911 : decode cL_law 911 = .ok (.iload_n 3, 1) := by decide +kernel
theorem dL_law_912 : decode cL_law 912 = .ok (.iconst 2, 1) := by decide +kernel
theorem dL_law_913 : decode cL_law 913 = .ok (.iadd, 1) := by decide +kernel
theorem dL_law_914 : decode cL_law 914 = .ok (.iaload, 1) := by decide +kernel
theorem dL_law_915 : decode cL_law 915 = .ok (.aload_n 0, 1) := by decide +kernel
theorem dL_law_916 : decode cL_law 916 = .ok (.iload_n 3, 1) := by decide +kernel
theorem dL_law_917 : decode cL_law 917 = .ok (.iconst 3, 1) := by decide +kernel
theorem dL_law_918 : decode cL_law 918 = .ok (.iadd, 1) := by decide +kernel
theorem dL_law_919 : decode cL_law 919 = .ok (.iaload, 1) := by decide +kernel
theorem dL_law_920 : decode cL_law 920 = .ok (.invokevirtual 124, 3) := by decide +kernel
theorem dL_law_923 : decode cL_law 923 = .ok (.if_icmp .eq 247, 3) := by decide +kernel
theorem dL_law_926 : decode cL_law 926 = .ok (.iconst 0, 1) := by decide +kernel
theorem dL_law_927 : decode cL_law 927 = .ok (.ireturn, 1) := by decide +kernel
theorem dL_law_928 : decode cL_law 928 = .ok (.aload_n 1, 1) := by decide +kernel
theorem dL_law_929 : decode cL_law 929 = .ok (.aload_n 0, 1) := by decide +kernel
theorem dL_law_930 : decode cL_law 930 = .ok (.iload_n 3, 1) := by decide +kernel
theorem dL_law_931 : decode cL_law 931 = .ok (.iconst 1, 1) := by decide +kernel
theorem dL_law_932 : decode cL_law 932 = .ok (.iadd, 1) := by decide +kernel
theorem dL_law_933 : decode cL_law 933 = .ok (.iaload, 1) := by decide +kernel
theorem dL_law_934 : decode cL_law 934 = .ok (.invokevirtual 125, 3) := by decide +kernel
theorem dL_law_937 : decode cL_law 937 = .ok (.aload_n 2, 1) := by decide +kernel
theorem dL_law_938 : decode cL_law 938 = .ok (.aload_n 0, 1) := by decide +kernel
theorem dL_law_939 : decode cL_law 939 = .ok (.iload_n 3, 1) := by decide +kernel
theorem dL_law_940 : decode cL_law 940 = .ok (.iconst 1, 1) := by decide +kernel
theorem dL_law_941 : decode cL_law 941 = .ok (.iadd, 1) := by decide +kernel
theorem dL_law_942 : decode cL_law 942 = .ok (.iaload, 1) := by decide +kernel
theorem dL_law_943 : decode cL_law 943 = .ok (.invokevirtual 128, 3) := by decide +kernel
theorem dL_law_946 : decode cL_law 946 = .ok (.if_icmp .eq 224, 3) := by decide +kernel
theorem dL_law_949 : decode cL_law 949 = .ok (.iconst 0, 1) := by decide +kernel
theorem dL_law_950 : decode cL_law 950 = .ok (.ireturn, 1) := by decide +kernel
theorem dL_law_951 : decode cL_law 951 = .ok (.aload_n 1, 1) := by decide +kernel
theorem dL_law_952 : decode cL_law 952 = .ok (.aload_n 0, 1) := by decide +kernel
theorem dL_law_953 : decode cL_law 953 = .ok (.iload_n 3, 1) := by decide +kernel
theorem dL_law_954 : decode cL_law 954 = .ok (.iconst 1, 1) := by decide +kernel
theorem dL_law_955 : decode cL_law 955 = .ok (.iadd, 1) := by decide +kernel
theorem dL_law_956 : decode cL_law 956 = .ok (.iaload, 1) := by decide +kernel
theorem dL_law_957 : decode cL_law 957 = .ok (.aload_n 0, 1) := by decide +kernel
theorem dL_law_958 : decode cL_law 958 = .ok (.iload_n 3, 1) := by decide +kernel
theorem dL_law_959 : decode cL_law 959 = .ok (.iconst 2, 1) := by decide +kernel
theorem dL_law_960 : decode cL_law 960 = .ok (.iadd, 1) := by decide +kernel
theorem dL_law_961 : decode cL_law 961 = .ok (.iaload, 1) := by decide +kernel
theorem dL_law_962 : decode cL_law 962 = .ok (.aload_n 0, 1) := by decide +kernel
theorem dL_law_963 : decode cL_law 963 = .ok (.iload_n 3, 1) := by decide +kernel
theorem dL_law_964 : decode cL_law 964 = .ok (.iconst 3, 1) := by decide +kernel
theorem dL_law_965 : decode cL_law 965 = .ok (.iadd, 1) := by decide +kernel
theorem dL_law_966 : decode cL_law 966 = .ok (.iaload, 1) := by decide +kernel
theorem dL_law_967 : decode cL_law 967 = .ok (.aload_n 0, 1) := by decide +kernel
theorem dL_law_968 : decode cL_law 968 = .ok (.iload_n 3, 1) := by decide +kernel
theorem dL_law_969 : decode cL_law 969 = .ok (.iconst 4, 1) := by decide +kernel
theorem dL_law_970 : decode cL_law 970 = .ok (.iadd, 1) := by decide +kernel
theorem dL_law_971 : decode cL_law 971 = .ok (.iaload, 1) := by decide +kernel
theorem dL_law_972 : decode cL_law 972 = .ok (.invokevirtual 129, 3) := by decide +kernel
theorem dL_law_975 : decode cL_law 975 = .ok (.aload_n 2, 1) := by decide +kernel
theorem dL_law_976 : decode cL_law 976 = .ok (.aload_n 0, 1) := by decide +kernel
theorem dL_law_977 : decode cL_law 977 = .ok (.iload_n 3, 1) := by decide +kernel
theorem dL_law_978 : decode cL_law 978 = .ok (.iconst 1, 1) := by decide +kernel
theorem dL_law_979 : decode cL_law 979 = .ok (.iadd, 1) := by decide +kernel
theorem dL_law_980 : decode cL_law 980 = .ok (.iaload, 1) := by decide +kernel
theorem dL_law_981 : decode cL_law 981 = .ok (.aload_n 0, 1) := by decide +kernel
theorem dL_law_982 : decode cL_law 982 = .ok (.iload_n 3, 1) := by decide +kernel
theorem dL_law_983 : decode cL_law 983 = .ok (.iconst 2, 1) := by decide +kernel
theorem dL_law_984 : decode cL_law 984 = .ok (.iadd, 1) := by decide +kernel
theorem dL_law_985 : decode cL_law 985 = .ok (.iaload, 1) := by decide +kernel
theorem dL_law_986 : decode cL_law 986 = .ok (.aload_n 0, 1) := by decide +kernel
theorem dL_law_987 : decode cL_law 987 = .ok (.iload_n 3, 1) := by decide +kernel
theorem dL_law_988 : decode cL_law 988 = .ok (.iconst 3, 1) := by decide +kernel
theorem dL_law_989 : decode cL_law 989 = .ok (.iadd, 1) := by decide +kernel
theorem dL_law_990 : decode cL_law 990 = .ok (.iaload, 1) := by decide +kernel
theorem dL_law_991 : decode cL_law 991 = .ok (.aload_n 0, 1) := by decide +kernel
theorem dL_law_992 : decode cL_law 992 = .ok (.iload_n 3, 1) := by decide +kernel
theorem dL_law_993 : decode cL_law 993 = .ok (.iconst 4, 1) := by decide +kernel
theorem dL_law_994 : decode cL_law 994 = .ok (.iadd, 1) := by decide +kernel
theorem dL_law_995 : decode cL_law 995 = .ok (.iaload, 1) := by decide +kernel
theorem dL_law_996 : decode cL_law 996 = .ok (.invokevirtual 133, 3) := by decide +kernel
theorem dL_law_999 : decode cL_law 999 = .ok (.if_icmp .eq 171, 3) := by decide +kernel
theorem dL_law_1002 : decode cL_law 1002 = .ok (.iconst 0, 1) := by decide +kernel
theorem dL_law_1003 : decode cL_law 1003 = .ok (.ireturn, 1) := by decide +kernel
theorem dL_law_1004 : decode cL_law 1004 = .ok (.aload_n 1, 1) := by decide +kernel
theorem dL_law_1005 : decode cL_law 1005 = .ok (.aload_n 0, 1) := by decide +kernel
theorem dL_law_1006 : decode cL_law 1006 = .ok (.iload_n 3, 1) := by decide +kernel
theorem dL_law_1007 : decode cL_law 1007 = .ok (.iconst 1, 1) := by decide +kernel
theorem dL_law_1008 : decode cL_law 1008 = .ok (.iadd, 1) := by decide +kernel
theorem dL_law_1009 : decode cL_law 1009 = .ok (.iaload, 1) := by decide +kernel
theorem dL_law_1010 : decode cL_law 1010 = .ok (.aload_n 0, 1) := by decide +kernel
theorem dL_law_1011 : decode cL_law 1011 = .ok (.iload_n 3, 1) := by decide +kernel
theorem dL_law_1012 : decode cL_law 1012 = .ok (.iconst 2, 1) := by decide +kernel
theorem dL_law_1013 : decode cL_law 1013 = .ok (.iadd, 1) := by decide +kernel
theorem dL_law_1014 : decode cL_law 1014 = .ok (.iaload, 1) := by decide +kernel
theorem dL_law_1015 : decode cL_law 1015 = .ok (.aload_n 0, 1) := by decide +kernel
theorem dL_law_1016 : decode cL_law 1016 = .ok (.iload_n 3, 1) := by decide +kernel
theorem dL_law_1017 : decode cL_law 1017 = .ok (.iconst 3, 1) := by decide +kernel
theorem dL_law_1018 : decode cL_law 1018 = .ok (.iadd, 1) := by decide +kernel
theorem dL_law_1019 : decode cL_law 1019 = .ok (.iaload, 1) := by decide +kernel
theorem dL_law_1020 : decode cL_law 1020 = .ok (.invokevirtual 134, 3) := by decide +kernel
theorem dL_law_1023 : decode cL_law 1023 = .ok (.aload_n 2, 1) := by decide +kernel
theorem dL_law_1024 : decode cL_law 1024 = .ok (.aload_n 0, 1) := by decide +kernel
theorem dL_law_1025 : decode cL_law 1025 = .ok (.iload_n 3, 1) := by decide +kernel
theorem dL_law_1026 : decode cL_law 1026 = .ok (.iconst 1, 1) := by decide +kernel
theorem dL_law_1027 : decode cL_law 1027 = .ok (.iadd, 1) := by decide +kernel
theorem dL_law_1028 : decode cL_law 1028 = .ok (.iaload, 1) := by decide +kernel
theorem dL_law_1029 : decode cL_law 1029 = .ok (.aload_n 0, 1) := by decide +kernel
theorem dL_law_1030 : decode cL_law 1030 = .ok (.iload_n 3, 1) := by decide +kernel
theorem dL_law_1031 : decode cL_law 1031 = .ok (.iconst 2, 1) := by decide +kernel
theorem dL_law_1032 : decode cL_law 1032 = .ok (.iadd, 1) := by decide +kernel
theorem dL_law_1033 : decode cL_law 1033 = .ok (.iaload, 1) := by decide +kernel
theorem dL_law_1034 : decode cL_law 1034 = .ok (.aload_n 0, 1) := by decide +kernel
theorem dL_law_1035 : decode cL_law 1035 = .ok (.iload_n 3, 1) := by decide +kernel
theorem dL_law_1036 : decode cL_law 1036 = .ok (.iconst 3, 1) := by decide +kernel
theorem dL_law_1037 : decode cL_law 1037 = .ok (.iadd, 1) := by decide +kernel
theorem dL_law_1038 : decode cL_law 1038 = .ok (.iaload, 1) := by decide +kernel
theorem dL_law_1039 : decode cL_law 1039 = .ok (.invokevirtual 137, 3) := by decide +kernel
theorem dL_law_1042 : decode cL_law 1042 = .ok (.if_icmp .eq 128, 3) := by decide +kernel
theorem dL_law_1045 : decode cL_law 1045 = .ok (.iconst 0, 1) := by decide +kernel
theorem dL_law_1046 : decode cL_law 1046 = .ok (.ireturn, 1) := by decide +kernel
theorem dL_law_1047 : decode cL_law 1047 = .ok (.aload_n 1, 1) := by decide +kernel
theorem dL_law_1048 : decode cL_law 1048 = .ok (.aload_n 0, 1) := by decide +kernel
theorem dL_law_1049 : decode cL_law 1049 = .ok (.iload_n 3, 1) := by decide +kernel
theorem dL_law_1050 : decode cL_law 1050 = .ok (.iconst 1, 1) := by decide +kernel
theorem dL_law_1051 : decode cL_law 1051 = .ok (.iadd, 1) := by decide +kernel
theorem dL_law_1052 : decode cL_law 1052 = .ok (.iaload, 1) := by decide +kernel
theorem dL_law_1053 : decode cL_law 1053 = .ok (.aload_n 0, 1) := by decide +kernel
theorem dL_law_1054 : decode cL_law 1054 = .ok (.iload_n 3, 1) := by decide +kernel
theorem dL_law_1055 : decode cL_law 1055 = .ok (.iconst 2, 1) := by decide +kernel
theorem dL_law_1056 : decode cL_law 1056 = .ok (.iadd, 1) := by decide +kernel
theorem dL_law_1057 : decode cL_law 1057 = .ok (.iaload, 1) := by decide +kernel
theorem dL_law_1058 : decode cL_law 1058 = .ok (.aload_n 0, 1) := by decide +kernel
theorem dL_law_1059 : decode cL_law 1059 = .ok (.iload_n 3, 1) := by decide +kernel
theorem dL_law_1060 : decode cL_law 1060 = .ok (.iconst 3, 1) := by decide +kernel
theorem dL_law_1061 : decode cL_law 1061 = .ok (.iadd, 1) := by decide +kernel
theorem dL_law_1062 : decode cL_law 1062 = .ok (.iaload, 1) := by decide +kernel
theorem dL_law_1063 : decode cL_law 1063 = .ok (.aload_n 0, 1) := by decide +kernel
theorem dL_law_1064 : decode cL_law 1064 = .ok (.iload_n 3, 1) := by decide +kernel
theorem dL_law_1065 : decode cL_law 1065 = .ok (.iconst 4, 1) := by decide +kernel
theorem dL_law_1066 : decode cL_law 1066 = .ok (.iadd, 1) := by decide +kernel
theorem dL_law_1067 : decode cL_law 1067 = .ok (.iaload, 1) := by decide +kernel
theorem dL_law_1068 : decode cL_law 1068 = .ok (.aload_n 0, 1) := by decide +kernel
theorem dL_law_1069 : decode cL_law 1069 = .ok (.iload_n 3, 1) := by decide +kernel
theorem dL_law_1070 : decode cL_law 1070 = .ok (.iconst 5, 1) := by decide +kernel
theorem dL_law_1071 : decode cL_law 1071 = .ok (.iadd, 1) := by decide +kernel
theorem dL_law_1072 : decode cL_law 1072 = .ok (.iaload, 1) := by decide +kernel
theorem dL_law_1073 : decode cL_law 1073 = .ok (.invokevirtual 138, 3) := by decide +kernel
theorem dL_law_1076 : decode cL_law 1076 = .ok (.aload_n 2, 1) := by decide +kernel
theorem dL_law_1077 : decode cL_law 1077 = .ok (.aload_n 0, 1) := by decide +kernel
theorem dL_law_1078 : decode cL_law 1078 = .ok (.iload_n 3, 1) := by decide +kernel
theorem dL_law_1079 : decode cL_law 1079 = .ok (.iconst 1, 1) := by decide +kernel
theorem dL_law_1080 : decode cL_law 1080 = .ok (.iadd, 1) := by decide +kernel
theorem dL_law_1081 : decode cL_law 1081 = .ok (.iaload, 1) := by decide +kernel
theorem dL_law_1082 : decode cL_law 1082 = .ok (.aload_n 0, 1) := by decide +kernel
theorem dL_law_1083 : decode cL_law 1083 = .ok (.iload_n 3, 1) := by decide +kernel
theorem dL_law_1084 : decode cL_law 1084 = .ok (.iconst 2, 1) := by decide +kernel
theorem dL_law_1085 : decode cL_law 1085 = .ok (.iadd, 1) := by decide +kernel
theorem dL_law_1086 : decode cL_law 1086 = .ok (.iaload, 1) := by decide +kernel
theorem dL_law_1087 : decode cL_law 1087 = .ok (.aload_n 0, 1) := by decide +kernel
theorem dL_law_1088 : decode cL_law 1088 = .ok (.iload_n 3, 1) := by decide +kernel
theorem dL_law_1089 : decode cL_law 1089 = .ok (.iconst 3, 1) := by decide +kernel
theorem dL_law_1090 : decode cL_law 1090 = .ok (.iadd, 1) := by decide +kernel
theorem dL_law_1091 : decode cL_law 1091 = .ok (.iaload, 1) := by decide +kernel
theorem dL_law_1092 : decode cL_law 1092 = .ok (.aload_n 0, 1) := by decide +kernel
theorem dL_law_1093 : decode cL_law 1093 = .ok (.iload_n 3, 1) := by decide +kernel
theorem dL_law_1094 : decode cL_law 1094 = .ok (.iconst 4, 1) := by decide +kernel
theorem dL_law_1095 : decode cL_law 1095 = .ok (.iadd, 1) := by decide +kernel
theorem dL_law_1096 : decode cL_law 1096 = .ok (.iaload, 1) := by decide +kernel
theorem dL_law_1097 : decode cL_law 1097 = .ok (.aload_n 0, 1) := by decide +kernel
theorem dL_law_1098 : decode cL_law 1098 = .ok (.iload_n 3, 1) := by decide +kernel
theorem dL_law_1099 : decode cL_law 1099 = .ok (.iconst 5, 1) := by decide +kernel
theorem dL_law_1100 : decode cL_law 1100 = .ok (.iadd, 1) := by decide +kernel
theorem dL_law_1101 : decode cL_law 1101 = .ok (.iaload, 1) := by decide +kernel
theorem dL_law_1102 : decode cL_law 1102 = .ok (.invokevirtual 142, 3) := by decide +kernel
theorem dL_law_1105 : decode cL_law 1105 = .ok (.if_icmp .eq 65, 3) := by decide +kernel
theorem dL_law_1108 : decode cL_law 1108 = .ok (.iconst 0, 1) := by decide +kernel
theorem dL_law_1109 : decode cL_law 1109 = .ok (.ireturn, 1) := by decide +kernel
theorem dL_law_1110 : decode cL_law 1110 = .ok (.aload_n 1, 1) := by decide +kernel
theorem dL_law_1111 : decode cL_law 1111 = .ok (.aload_n 0, 1) := by decide +kernel
theorem dL_law_1112 : decode cL_law 1112 = .ok (.iload_n 3, 1) := by decide +kernel
theorem dL_law_1113 : decode cL_law 1113 = .ok (.iconst 1, 1) := by decide +kernel
theorem dL_law_1114 : decode cL_law 1114 = .ok (.iadd, 1) := by decide +kernel
theorem dL_law_1115 : decode cL_law 1115 = .ok (.iaload, 1) := by decide +kernel
theorem dL_law_1116 : decode cL_law 1116 = .ok (.invokevirtual 143, 3) := by decide +kernel
theorem dL_law_1119 : decode cL_law 1119 = .ok (.aload_n 2, 1) := by decide +kernel
theorem dL_law_1120 : decode cL_law 1120 = .ok (.aload_n 0, 1) := by decide +kernel
theorem dL_law_1121 : decode cL_law 1121 = .ok (.iload_n 3, 1) := by decide +kernel
theorem dL_law_1122 : decode cL_law 1122 = .ok (.iconst 1, 1) := by decide +kernel
theorem dL_law_1123 : decode cL_law 1123 = .ok (.iadd, 1) := by decide +kernel
theorem dL_law_1124 : decode cL_law 1124 = .ok (.iaload, 1) := by decide +kernel
theorem dL_law_1125 : decode cL_law 1125 = .ok (.invokevirtual 146, 3) := by decide +kernel
theorem dL_law_1128 : decode cL_law 1128 = .ok (.if_icmp .eq 42, 3) := by decide +kernel
theorem dL_law_1131 : decode cL_law 1131 = .ok (.iconst 0, 1) := by decide +kernel
theorem dL_law_1132 : decode cL_law 1132 = .ok (.ireturn, 1) := by decide +kernel
theorem dL_law_1133 : decode cL_law 1133 = .ok (.aload_n 1, 1) := by decide +kernel
theorem dL_law_1134 : decode cL_law 1134 = .ok (.aload_n 0, 1) := by decide +kernel
theorem dL_law_1135 : decode cL_law 1135 = .ok (.iload_n 3, 1) := by decide +kernel
theorem dL_law_1136 : decode cL_law 1136 = .ok (.iconst 1, 1) := by decide +kernel
theorem dL_law_1137 : decode cL_law 1137 = .ok (.iadd, 1) := by decide +kernel
theorem dL_law_1138 : decode cL_law 1138 = .ok (.iaload, 1) := by decide +kernel
theorem dL_law_1139 : decode cL_law 1139 = .ok (.invokevirtual 147, 3) := by decide +kernel
theorem dL_law_1142 : decode cL_law 1142 = .ok (.aload_n 2, 1) := by decide +kernel
theorem dL_law_1143 : decode cL_law 1143 = .ok (.aload_n 0, 1) := by decide +kernel
theorem dL_law_1144 : decode cL_law 1144 = .ok (.iload_n 3, 1) := by decide +kernel
theorem dL_law_1145 : decode cL_law 1145 = .ok (.iconst 1, 1) := by decide +kernel
theorem dL_law_1146 : decode cL_law 1146 = .ok (.iadd, 1) := by decide +kernel
theorem dL_law_1147 : decode cL_law 1147 = .ok (.iaload, 1) := by decide +kernel
theorem dL_law_1148 : decode cL_law 1148 = .ok (.invokevirtual 150, 3) := by decide +kernel
theorem dL_law_1151 : decode cL_law 1151 = .ok (.if_icmp .eq 19, 3) := by decide +kernel
theorem dL_law_1154 : decode cL_law 1154 = .ok (.iconst 0, 1) := by decide +kernel
theorem dL_law_1155 : decode cL_law 1155 = .ok (.ireturn, 1) := by decide +kernel
theorem dL_law_1156 : decode cL_law 1156 = .ok (.aload_n 1, 1) := by decide +kernel
theorem dL_law_1157 : decode cL_law 1157 = .ok (.invokevirtual 151, 3) := by decide +kernel
theorem dL_law_1160 : decode cL_law 1160 = .ok (.aload_n 2, 1) := by decide +kernel
theorem dL_law_1161 : decode cL_law 1161 = .ok (.invokevirtual 155, 3) := by decide +kernel
theorem dL_law_1164 : decode cL_law 1164 = .ok (.lcmp, 1) := by decide +kernel
theorem dL_law_1165 : decode cL_law 1165 = .ok (.ifCond .eq 5, 3) := by decide +kernel
theorem dL_law_1168 : decode cL_law 1168 = .ok (.iconst 0, 1) := by decide +kernel
theorem dL_law_1169 : decode cL_law 1169 = .ok (.ireturn, 1) := by decide +kernel
theorem dL_law_1170 : decode cL_law 1170 = .ok (.iinc 3 6, 3) := by decide +kernel
theorem dL_law_1173 : decode cL_law 1173 = .ok (.goto (-1155), 3) := by decide +kernel
theorem dL_law_1176 : decode cL_law 1176 = .ok (.iconst 1, 1) := by decide +kernel
theorem dL_law_1177 : decode cL_law 1177 = .ok (.ireturn, 1) := by decide +kernel
