theorem dX0_init_0 : decode cX0_init 0 = .ok (.aload_n 0, 1) := by decide +kernel
theorem dX0_init_1 : decode cX0_init 1 = .ok (.invokespecial 3, 3) := by decide +kernel
theorem dX0_init_4 : decode cX0_init 4 = .ok (.return_, 1) := by decide +kernel
theorem dX0_copyFrom_0 : decode cX0_copyFrom 0 = .ok (.aload_n 0, 1) := by decide +kernel
theorem dX0_copyFrom_1 : decode cX0_copyFrom 1 = .ok (.aload_n 1, 1) := by decide +kernel
theorem dX0_copyFrom_2 : decode cX0_copyFrom 2 = .ok (.getfield 9, 3) := by decide +kernel
theorem dX0_copyFrom_5 : decode cX0_copyFrom 5 = .ok (.putfield 9, 3) := by decide +kernel
theorem dX0_copyFrom_8 : decode cX0_copyFrom 8 = .ok (.aload_n 0, 1) := by decide +kernel
theorem dX0_copyFrom_9 : decode cX0_copyFrom 9 = .ok (.aload_n 1, 1) := by decide +kernel
theorem dX0_copyFrom_10 : decode cX0_copyFrom 10 = .ok (.getfield 15, 3) := by decide +kernel
theorem dX0_copyFrom_13 : decode cX0_copyFrom 13 = .ok (.putfield 15, 3) := by decide +kernel
theorem dX0_copyFrom_16 : decode cX0_copyFrom 16 = .ok (.aload_n 0, 1) := by decide +kernel
theorem dX0_copyFrom_17 : decode cX0_copyFrom 17 = .ok (.aload_n 1, 1) := by decide +kernel
theorem dX0_copyFrom_18 : decode cX0_copyFrom 18 = .ok (.getfield 18, 3) := by decide +kernel
theorem dX0_copyFrom_21 : decode cX0_copyFrom 21 = .ok (.putfield 18, 3) := by decide +kernel
theorem dX0_copyFrom_24 : decode cX0_copyFrom 24 = .ok (.return_, 1) := by decide +kernel
theorem dX0_burn_0 : decode cX0_burn 0 = .ok (.aload_n 0, 1) := by decide +kernel
theorem dX0_burn_1 : decode cX0_burn 1 = .ok (.getfield 18, 3) := by decide +kernel
theorem dX0_burn_4 : decode cX0_burn 4 = .ok (.aload_n 0, 1) := by decide +kernel
theorem dX0_burn_5 : decode cX0_burn 5 = .ok (.getfield 9, 3) := by decide +kernel
theorem dX0_burn_8 : decode cX0_burn 8 = .ok (.ifCond .le 7, 3) := by decide +kernel
theorem dX0_burn_11 : decode cX0_burn 11 = .ok (.iconst 1, 1) := by decide +kernel
theorem dX0_burn_12 : decode cX0_burn 12 = .ok (.goto 4, 3) := by decide +kernel
theorem dX0_burn_15 : decode cX0_burn 15 = .ok (.iconst (-1), 1) := by decide +kernel
theorem dX0_burn_16 : decode cX0_burn 16 = .ok (.iadd, 1) := by decide +kernel
theorem dX0_burn_17 : decode cX0_burn 17 = .ok (.istore_n 2, 1) := by decide +kernel
theorem dX0_burn_18 : decode cX0_burn 18 = .ok (.aload_n 0, 1) := by decide +kernel
theorem dX0_burn_19 : decode cX0_burn 19 = .ok (.getfield 9, 3) := by decide +kernel
theorem dX0_burn_22 : decode cX0_burn 22 = .ok (.ifCond .le 19, 3) := by decide +kernel
theorem dX0_burn_25 : decode cX0_burn 25 = .ok (.iload_n 1, 1) := by decide +kernel
theorem dX0_burn_26 : decode cX0_burn 26 = .ok (.iconst 5, 1) := by decide +kernel
theorem dX0_burn_27 : decode cX0_burn 27 = .ok (.irem, 1) := by decide +kernel
theorem dX0_burn_28 : decode cX0_burn 28 = .ok (.ifCond .ne 13, 3) := by decide +kernel
theorem dX0_burn_31 : decode cX0_burn 31 = .ok (.aload_n 0, 1) := by decide +kernel
theorem dX0_burn_32 : decode cX0_burn 32 = .ok (.dup, 1) := by decide +kernel
theorem dX0_burn_33 : decode cX0_burn 33 = .ok (.getfield 9, 3) := by decide +kernel
theorem dX0_burn_36 : decode cX0_burn 36 = .ok (.iconst 1, 1) := by decide +kernel
theorem dX0_burn_37 : decode cX0_burn 37 = .ok (.isub, 1) := by decide +kernel
theorem dX0_burn_38 : decode cX0_burn 38 = .ok (.putfield 9, 3) := by decide +kernel
theorem dX0_burn_41 : decode cX0_burn 41 = .ok (.aload_n 0, 1) := by decide +kernel
theorem dX0_burn_42 : decode cX0_burn 42 = .ok (.iconst 0, 1) := by decide +kernel
theorem dX0_burn_43 : decode cX0_burn 43 = .ok (.bipush 9, 2) := by decide +kernel
theorem dX0_burn_45 : decode cX0_burn 45 = .ok (.aload_n 0, 1) := by decide +kernel
theorem dX0_burn_46 : decode cX0_burn 46 = .ok (.getfield 15, 3) := by decide +kernel
theorem dX0_burn_49 : decode cX0_burn 49 = .ok (.iload_n 2, 1) := by decide +kernel
theorem dX0_burn_50 : decode cX0_burn 50 = .ok (.iadd, 1) := by decide +kernel
theorem dX0_burn_51 : decode cX0_burn 51 = .ok (.invokestatic 21, 3) := by decide +kernel
theorem dX0_burn_54 : decode cX0_burn 54 = .ok (.invokestatic 27, 3) := by decide +kernel
theorem dX0_burn_57 : decode cX0_burn 57 = .ok (.putfield 15, 3) := by decide +kernel
theorem dX0_burn_60 : decode cX0_burn 60 = .ok (.aload_n 0, 1) := by decide +kernel
theorem dX0_burn_61 : decode cX0_burn 61 = .ok (.iconst 0, 1) := by decide +kernel
theorem dX0_burn_62 : decode cX0_burn 62 = .ok (.putfield 18, 3) := by decide +kernel
theorem dX0_burn_65 : decode cX0_burn 65 = .ok (.return_, 1) := by decide +kernel
theorem dX1_init_0 : decode cX1_init 0 = .ok (.aload_n 0, 1) := by decide +kernel
theorem dX1_init_1 : decode cX1_init 1 = .ok (.invokespecial 3, 3) := by decide +kernel
theorem dX1_init_4 : decode cX1_init 4 = .ok (.aload_n 0, 1) := by decide +kernel
theorem dX1_init_5 : decode cX1_init 5 = .ok (.iconst 3, 1) := by decide +kernel
theorem dX1_init_6 : decode cX1_init 6 = .ok (.anewarray 9, 3) := by decide +kernel
theorem dX1_init_9 : decode cX1_init 9 = .ok (.putfield 11, 3) := by decide +kernel
theorem dX1_init_12 : decode cX1_init 12 = .ok (.aload_n 0, 1) := by decide +kernel
theorem dX1_init_13 : decode cX1_init 13 = .ok (.bipush 6, 2) := by decide +kernel
theorem dX1_init_15 : decode cX1_init 15 = .ok (.anewarray 17, 3) := by decide +kernel
theorem dX1_init_18 : decode cX1_init 18 = .ok (.putfield 19, 3) := by decide +kernel
theorem dX1_init_21 : decode cX1_init 21 = .ok (.aload_n 0, 1) := by decide +kernel
theorem dX1_init_22 : decode cX1_init 22 = .ok (.bipush 16, 2) := by decide +kernel
theorem dX1_init_24 : decode cX1_init 24 = .ok (.anewarray 23, 3) := by decide +kernel
theorem dX1_init_27 : decode cX1_init 27 = .ok (.putfield 25, 3) := by decide +kernel
theorem dX1_init_30 : decode cX1_init 30 = .ok (.aload_n 0, 1) := by decide +kernel
theorem dX1_init_31 : decode cX1_init 31 = .ok (.bipush 120, 2) := by decide +kernel
theorem dX1_init_33 : decode cX1_init 33 = .ok (.putfield 29, 3) := by decide +kernel
theorem dX1_init_36 : decode cX1_init 36 = .ok (.iconst 0, 1) := by decide +kernel
theorem dX1_init_37 : decode cX1_init 37 = .ok (.istore_n 1, 1) := by decide +kernel
theorem dX1_init_38 : decode cX1_init 38 = .ok (.iload_n 1, 1) := by decide +kernel
theorem dX1_init_39 : decode cX1_init 39 = .ok (.aload_n 0, 1) := by decide +kernel
theorem dX1_init_40 : decode cX1_init 40 = .ok (.getfield 11, 3) := by decide +kernel
theorem dX1_init_43 : decode cX1_init 43 = .ok (.arraylength, 1) := by decide +kernel
theorem dX1_init_44 : decode cX1_init 44 = .ok (.if_icmp .ge 22, 3) := by decide +kernel
theorem dX1_init_47 : decode cX1_init 47 = .ok (.aload_n 0, 1) := by decide +kernel
theorem dX1_init_48 : decode cX1_init 48 = .ok (.getfield 11, 3) := by decide +kernel
theorem dX1_init_51 : decode cX1_init 51 = .ok (.iload_n 1, 1) := by decide +kernel
theorem dX1_init_52 : decode cX1_init 52 = .ok (.new 9, 3) := by decide +kernel
theorem dX1_init_55 : decode cX1_init 55 = .ok (.dup, 1) := by decide +kernel
theorem dX1_init_56 : decode cX1_init 56 = .ok (.invokespecial 33, 3) := by decide +kernel
theorem dX1_init_59 : decode cX1_init 59 = .ok (.aastore, 1) := by decide +kernel
theorem dX1_init_60 : decode cX1_init 60 = .ok (.iinc 1 1, 3) := by decide +kernel
theorem dX1_init_63 : decode cX1_init 63 = .ok (.goto (-25), 3) := by decide +kernel
theorem dX1_init_66 : decode cX1_init 66 = .ok (.iconst 0, 1) := by decide +kernel
theorem dX1_init_67 : decode cX1_init 67 = .ok (.istore_n 1, 1) := by decide +kernel
theorem dX1_init_68 : decode cX1_init 68 = .ok (.iload_n 1, 1) := by decide +kernel
theorem dX1_init_69 : decode cX1_init 69 = .ok (.aload_n 0, 1) := by decide +kernel
theorem dX1_init_70 : decode cX1_init 70 = .ok (.getfield 19, 3) := by decide +kernel
theorem dX1_init_73 : decode cX1_init 73 = .ok (.arraylength, 1) := by decide +kernel
theorem dX1_init_74 : decode cX1_init 74 = .ok (.if_icmp .ge 22, 3) := by decide +kernel
theorem dX1_init_77 : decode cX1_init 77 = .ok (.aload_n 0, 1) := by decide +kernel
theorem dX1_init_78 : decode cX1_init 78 = .ok (.getfield 19, 3) := by decide +kernel
theorem dX1_init_81 : decode cX1_init 81 = .ok (.iload_n 1, 1) := by decide +kernel
theorem dX1_init_82 : decode cX1_init 82 = .ok (.new 17, 3) := by decide +kernel
theorem dX1_init_85 : decode cX1_init 85 = .ok (.dup, 1) := by decide +kernel
theorem dX1_init_86 : decode cX1_init 86 = .ok (.invokespecial 34, 3) := by decide +kernel
theorem dX1_init_89 : decode cX1_init 89 = .ok (.aastore, 1) := by decide +kernel
theorem dX1_init_90 : decode cX1_init 90 = .ok (.iinc 1 1, 3) := by decide +kernel
theorem dX1_init_93 : decode cX1_init 93 = .ok (.goto (-25), 3) := by decide +kernel
theorem dX1_init_96 : decode cX1_init 96 = .ok (.iconst 0, 1) := by decide +kernel
theorem dX1_init_97 : decode cX1_init 97 = .ok (.istore_n 1, 1) := by decide +kernel
theorem dX1_init_98 : decode cX1_init 98 = .ok (.iload_n 1, 1) := by decide +kernel
theorem dX1_init_99 : decode cX1_init 99 = .ok (.aload_n 0, 1) := by decide +kernel
theorem dX1_init_100 : decode cX1_init 100 = .ok (.getfield 25, 3) := by decide +kernel
theorem dX1_init_103 : decode cX1_init 103 = .ok (.arraylength, 1) := by decide +kernel
theorem dX1_init_104 : decode cX1_init 104 = .ok (.if_icmp .ge 22, 3) := by decide +kernel
theorem dX1_init_107 : decode cX1_init 107 = .ok (.aload_n 0, 1) := by decide +kernel
theorem dX1_init_108 : decode cX1_init 108 = .ok (.getfield 25, 3) := by decide +kernel
theorem dX1_init_111 : decode cX1_init 111 = .ok (.iload_n 1, 1) := by decide +kernel
theorem dX1_init_112 : decode cX1_init 112 = .ok (.new 23, 3) := by decide +kernel
theorem dX1_init_115 : decode cX1_init 115 = .ok (.dup, 1) := by decide +kernel
theorem dX1_init_116 : decode cX1_init 116 = .ok (.invokespecial 35, 3) := by decide +kernel
theorem dX1_init_119 : decode cX1_init 119 = .ok (.aastore, 1) := by decide +kernel
theorem dX1_init_120 : decode cX1_init 120 = .ok (.iinc 1 1, 3) := by decide +kernel
theorem dX1_init_123 : decode cX1_init 123 = .ok (.goto (-25), 3) := by decide +kernel
theorem dX1_init_126 : decode cX1_init 126 = .ok (.return_, 1) := by decide +kernel
theorem dX1_copyFrom_0 : decode cX1_copyFrom 0 = .ok (.iconst 0, 1) := by decide +kernel
theorem dX1_copyFrom_1 : decode cX1_copyFrom 1 = .ok (.istore_n 2, 1) := by decide +kernel
theorem dX1_copyFrom_2 : decode cX1_copyFrom 2 = .ok (.iload_n 2, 1) := by decide +kernel
theorem dX1_copyFrom_3 : decode cX1_copyFrom 3 = .ok (.aload_n 0, 1) := by decide +kernel
theorem dX1_copyFrom_4 : decode cX1_copyFrom 4 = .ok (.getfield 11, 3) := by decide +kernel
theorem dX1_copyFrom_7 : decode cX1_copyFrom 7 = .ok (.arraylength, 1) := by decide +kernel
theorem dX1_copyFrom_8 : decode cX1_copyFrom 8 = .ok (.if_icmp .ge 33, 3) := by decide +kernel
theorem dX1_copyFrom_11 : decode cX1_copyFrom 11 = .ok (.iload_n 2, 1) := by decide +kernel
theorem dX1_copyFrom_12 : decode cX1_copyFrom 12 = .ok (.aload_n 1, 1) := by decide +kernel
theorem dX1_copyFrom_13 : decode cX1_copyFrom 13 = .ok (.getfield 11, 3) := by decide +kernel
theorem dX1_copyFrom_16 : decode cX1_copyFrom 16 = .ok (.arraylength, 1) := by decide +kernel
theorem dX1_copyFrom_17 : decode cX1_copyFrom 17 = .ok (.if_icmp .ge 24, 3) := by decide +kernel
theorem dX1_copyFrom_20 : decode cX1_copyFrom 20 = .ok (.aload_n 0, 1) := by decide +kernel
theorem dX1_copyFrom_21 : decode cX1_copyFrom 21 = .ok (.getfield 11, 3) := by decide +kernel
theorem dX1_copyFrom_24 : decode cX1_copyFrom 24 = .ok (.iload_n 2, 1) := by decide +kernel
theorem dX1_copyFrom_25 : decode cX1_copyFrom 25 = .ok (.aaload, 1) := by decide +kernel
theorem dX1_copyFrom_26 : decode cX1_copyFrom 26 = .ok (.aload_n 1, 1) := by decide +kernel
theorem dX1_copyFrom_27 : decode cX1_copyFrom 27 = .ok (.getfield 11, 3) := by decide +kernel
theorem dX1_copyFrom_30 : decode cX1_copyFrom 30 = .ok (.iload_n 2, 1) := by decide +kernel
theorem dX1_copyFrom_31 : decode cX1_copyFrom 31 = .ok (.aaload, 1) := by decide +kernel
theorem dX1_copyFrom_32 : decode cX1_copyFrom 32 = .ok (.invokevirtual 36, 3) := by decide +kernel
theorem dX1_copyFrom_35 : decode cX1_copyFrom 35 = .ok (.iinc 2 1, 3) := by decide +kernel
theorem dX1_copyFrom_38 : decode cX1_copyFrom 38 = .ok (.goto (-36), 3) := by decide +kernel
theorem dX1_copyFrom_41 : decode cX1_copyFrom 41 = .ok (.iconst 0, 1) := by decide +kernel
theorem dX1_copyFrom_42 : decode cX1_copyFrom 42 = .ok (.istore_n 2, 1) := by decide +kernel
theorem dX1_copyFrom_43 : decode cX1_copyFrom 43 = .ok (.iload_n 2, 1) := by decide +kernel
theorem dX1_copyFrom_44 : decode cX1_copyFrom 44 = .ok (.aload_n 0, 1) := by decide +kernel
theorem dX1_copyFrom_45 : decode cX1_copyFrom 45 = .ok (.getfield 19, 3) := by decide +kernel
theorem dX1_copyFrom_48 : decode cX1_copyFrom 48 = .ok (.arraylength, 1) := by decide +kernel
theorem dX1_copyFrom_49 : decode cX1_copyFrom 49 = .ok (.if_icmp .ge 33, 3) := by decide +kernel
theorem dX1_copyFrom_52 : decode cX1_copyFrom 52 = .ok (.iload_n 2, 1) := by decide +kernel
theorem dX1_copyFrom_53 : decode cX1_copyFrom 53 = .ok (.aload_n 1, 1) := by decide +kernel
theorem dX1_copyFrom_54 : decode cX1_copyFrom 54 = .ok (.getfield 19, 3) := by decide +kernel
theorem dX1_copyFrom_57 : decode cX1_copyFrom 57 = .ok (.arraylength, 1) := by decide +kernel
theorem dX1_copyFrom_58 : decode cX1_copyFrom 58 = .ok (.if_icmp .ge 24, 3) := by decide +kernel
theorem dX1_copyFrom_61 : decode cX1_copyFrom 61 = .ok (.aload_n 0, 1) := by decide +kernel
theorem dX1_copyFrom_62 : decode cX1_copyFrom 62 = .ok (.getfield 19, 3) := by decide +kernel
theorem dX1_copyFrom_65 : decode cX1_copyFrom 65 = .ok (.iload_n 2, 1) := by decide +kernel
theorem dX1_copyFrom_66 : decode cX1_copyFrom 66 = .ok (.aaload, 1) := by decide +kernel
theorem dX1_copyFrom_67 : decode cX1_copyFrom 67 = .ok (.aload_n 1, 1) := by decide +kernel
theorem dX1_copyFrom_68 : decode cX1_copyFrom 68 = .ok (.getfield 19, 3) := by decide +kernel
theorem dX1_copyFrom_71 : decode cX1_copyFrom 71 = .ok (.iload_n 2, 1) := by decide +kernel
theorem dX1_copyFrom_72 : decode cX1_copyFrom 72 = .ok (.aaload, 1) := by decide +kernel
theorem dX1_copyFrom_73 : decode cX1_copyFrom 73 = .ok (.invokevirtual 40, 3) := by decide +kernel
theorem dX1_copyFrom_76 : decode cX1_copyFrom 76 = .ok (.iinc 2 1, 3) := by decide +kernel
theorem dX1_copyFrom_79 : decode cX1_copyFrom 79 = .ok (.goto (-36), 3) := by decide +kernel
theorem dX1_copyFrom_82 : decode cX1_copyFrom 82 = .ok (.iconst 0, 1) := by decide +kernel
theorem dX1_copyFrom_83 : decode cX1_copyFrom 83 = .ok (.istore_n 2, 1) := by decide +kernel
theorem dX1_copyFrom_84 : decode cX1_copyFrom 84 = .ok (.iload_n 2, 1) := by decide +kernel
theorem dX1_copyFrom_85 : decode cX1_copyFrom 85 = .ok (.aload_n 0, 1) := by decide +kernel
theorem dX1_copyFrom_86 : decode cX1_copyFrom 86 = .ok (.getfield 25, 3) := by decide +kernel
theorem dX1_copyFrom_89 : decode cX1_copyFrom 89 = .ok (.arraylength, 1) := by decide +kernel
theorem dX1_copyFrom_90 : decode cX1_copyFrom 90 = .ok (.if_icmp .ge 33, 3) := by decide +kernel
theorem dX1_copyFrom_93 : decode cX1_copyFrom 93 = .ok (.iload_n 2, 1) := by decide +kernel
theorem dX1_copyFrom_94 : decode cX1_copyFrom 94 = .ok (.aload_n 1, 1) := by decide +kernel
theorem dX1_copyFrom_95 : decode cX1_copyFrom 95 = .ok (.getfield 25, 3) := by decide +kernel
theorem dX1_copyFrom_98 : decode cX1_copyFrom 98 = .ok (.arraylength, 1) := by decide +kernel
theorem dX1_copyFrom_99 : decode cX1_copyFrom 99 = .ok (.if_icmp .ge 24, 3) := by decide +kernel
theorem dX1_copyFrom_102 : decode cX1_copyFrom 102 = .ok (.aload_n 0, 1) := by decide +kernel
theorem dX1_copyFrom_103 : decode cX1_copyFrom 103 = .ok (.getfield 25, 3) := by decide +kernel
theorem dX1_copyFrom_106 : decode cX1_copyFrom 106 = .ok (.iload_n 2, 1) := by decide +kernel
theorem dX1_copyFrom_107 : decode cX1_copyFrom 107 = .ok (.aaload, 1) := by decide +kernel
theorem dX1_copyFrom_108 : decode cX1_copyFrom 108 = .ok (.aload_n 1, 1) := by decide +kernel
theorem dX1_copyFrom_109 : decode cX1_copyFrom 109 = .ok (.getfield 25, 3) := by decide +kernel
theorem dX1_copyFrom_112 : decode cX1_copyFrom 112 = .ok (.iload_n 2, 1) := by decide +kernel
theorem dX1_copyFrom_113 : decode cX1_copyFrom 113 = .ok (.aaload, 1) := by decide +kernel
theorem dX1_copyFrom_114 : decode cX1_copyFrom 114 = .ok (.invokevirtual 43, 3) := by decide +kernel
theorem dX1_copyFrom_117 : decode cX1_copyFrom 117 = .ok (.iinc 2 1, 3) := by decide +kernel
theorem dX1_copyFrom_120 : decode cX1_copyFrom 120 = .ok (.goto (-36), 3) := by decide +kernel
theorem dX1_copyFrom_123 : decode cX1_copyFrom 123 = .ok (.aload_n 0, 1) := by decide +kernel
theorem dX1_copyFrom_124 : decode cX1_copyFrom 124 = .ok (.aload_n 1, 1) := by decide +kernel
theorem dX1_copyFrom_125 : decode cX1_copyFrom 125 = .ok (.getfield 46, 3) := by decide +kernel
theorem dX1_copyFrom_128 : decode cX1_copyFrom 128 = .ok (.putfield 46, 3) := by decide +kernel
theorem dX1_copyFrom_131 : decode cX1_copyFrom 131 = .ok (.aload_n 0, 1) := by decide +kernel
theorem dX1_copyFrom_132 : decode cX1_copyFrom 132 = .ok (.aload_n 1, 1) := by decide +kernel
theorem dX1_copyFrom_133 : decode cX1_copyFrom 133 = .ok (.getfield 49, 3) := by decide +kernel
theorem dX1_copyFrom_136 : decode cX1_copyFrom 136 = .ok (.putfield 49, 3) := by decide +kernel
theorem dX1_copyFrom_139 : decode cX1_copyFrom 139 = .ok (.aload_n 0, 1) := by decide +kernel
theorem dX1_copyFrom_140 : decode cX1_copyFrom 140 = .ok (.aload_n 1, 1) := by decide +kernel
theorem dX1_copyFrom_141 : decode cX1_copyFrom 141 = .ok (.getfield 52, 3) := by decide +kernel
theorem dX1_copyFrom_144 : decode cX1_copyFrom 144 = .ok (.putfield 52, 3) := by decide +kernel
theorem dX1_copyFrom_147 : decode cX1_copyFrom 147 = .ok (.aload_n 0, 1) := by decide +kernel
theorem dX1_copyFrom_148 : decode cX1_copyFrom 148 = .ok (.aload_n 1, 1) := by decide +kernel
theorem dX1_copyFrom_149 : decode cX1_copyFrom 149 = .ok (.getfield 55, 3) := by decide +kernel
theorem dX1_copyFrom_152 : decode cX1_copyFrom 152 = .ok (.putfield 55, 3) := by decide +kernel
theorem dX1_copyFrom_155 : decode cX1_copyFrom 155 = .ok (.aload_n 0, 1) := by decide +kernel
theorem dX1_copyFrom_156 : decode cX1_copyFrom 156 = .ok (.aload_n 1, 1) := by decide +kernel
theorem dX1_copyFrom_157 : decode cX1_copyFrom 157 = .ok (.getfield 29, 3) := by decide +kernel
theorem dX1_copyFrom_160 : decode cX1_copyFrom 160 = .ok (.putfield 29, 3) := by decide +kernel
theorem dX1_copyFrom_163 : decode cX1_copyFrom 163 = .ok (.return_, 1) := by decide +kernel
theorem dX1_fireAt_0 : decode cX1_fireAt 0 = .ok (.iload_n 1, 1) := by decide +kernel
theorem dX1_fireAt_1 : decode cX1_fireAt 1 = .ok (.ifCond .lt 29, 3) := by decide +kernel
theorem dX1_fireAt_4 : decode cX1_fireAt 4 = .ok (.iload_n 1, 1) := by decide +kernel
theorem dX1_fireAt_5 : decode cX1_fireAt 5 = .ok (.aload_n 0, 1) := by decide +kernel
theorem dX1_fireAt_6 : decode cX1_fireAt 6 = .ok (.getfield 46, 3) := by decide +kernel
theorem dX1_fireAt_9 : decode cX1_fireAt 9 = .ok (.if_icmp .ge 21, 3) := by decide +kernel
theorem dX1_fireAt_12 : decode cX1_fireAt 12 = .ok (.iload_n 1, 1) := by decide +kernel
theorem dX1_fireAt_13 : decode cX1_fireAt 13 = .ok (.aload_n 0, 1) := by decide +kernel
theorem dX1_fireAt_14 : decode cX1_fireAt 14 = .ok (.getfield 11, 3) := by decide +kernel
theorem dX1_fireAt_17 : decode cX1_fireAt 17 = .ok (.arraylength, 1) := by decide +kernel
theorem dX1_fireAt_18 : decode cX1_fireAt 18 = .ok (.if_icmp .ge 12, 3) := by decide +kernel
theorem dX1_fireAt_21 : decode cX1_fireAt 21 = .ok (.aload_n 0, 1) := by decide +kernel
theorem dX1_fireAt_22 : decode cX1_fireAt 22 = .ok (.getfield 11, 3) := by decide +kernel
theorem dX1_fireAt_25 : decode cX1_fireAt 25 = .ok (.iload_n 1, 1) := by decide +kernel
theorem dX1_fireAt_26 : decode cX1_fireAt 26 = .ok (.aaload, 1) := by decide +kernel
theorem dX1_fireAt_27 : decode cX1_fireAt 27 = .ok (.goto 4, 3) := by decide +kernel
theorem dX1_fireAt_30 : decode cX1_fireAt 30 = .ok (.aconst_null, 1) := by decide +kernel
theorem dX1_fireAt_31 : decode cX1_fireAt 31 = .ok (.areturn, 1) := by decide +kernel
theorem dX1_spitAt_0 : decode cX1_spitAt 0 = .ok (.iload_n 1, 1) := by decide +kernel
theorem dX1_spitAt_1 : decode cX1_spitAt 1 = .ok (.ifCond .lt 29, 3) := by decide +kernel
theorem dX1_spitAt_4 : decode cX1_spitAt 4 = .ok (.iload_n 1, 1) := by decide +kernel
theorem dX1_spitAt_5 : decode cX1_spitAt 5 = .ok (.aload_n 0, 1) := by decide +kernel
theorem dX1_spitAt_6 : decode cX1_spitAt 6 = .ok (.getfield 49, 3) := by decide +kernel
theorem dX1_spitAt_9 : decode cX1_spitAt 9 = .ok (.if_icmp .ge 21, 3) := by decide +kernel
theorem dX1_spitAt_12 : decode cX1_spitAt 12 = .ok (.iload_n 1, 1) := by decide +kernel
theorem dX1_spitAt_13 : decode cX1_spitAt 13 = .ok (.aload_n 0, 1) := by decide +kernel
theorem dX1_spitAt_14 : decode cX1_spitAt 14 = .ok (.getfield 19, 3) := by decide +kernel
theorem dX1_spitAt_17 : decode cX1_spitAt 17 = .ok (.arraylength, 1) := by decide +kernel
theorem dX1_spitAt_18 : decode cX1_spitAt 18 = .ok (.if_icmp .ge 12, 3) := by decide +kernel
theorem dX1_spitAt_21 : decode cX1_spitAt 21 = .ok (.aload_n 0, 1) := by decide +kernel
theorem dX1_spitAt_22 : decode cX1_spitAt 22 = .ok (.getfield 19, 3) := by decide +kernel
theorem dX1_spitAt_25 : decode cX1_spitAt 25 = .ok (.iload_n 1, 1) := by decide +kernel
theorem dX1_spitAt_26 : decode cX1_spitAt 26 = .ok (.aaload, 1) := by decide +kernel
theorem dX1_spitAt_27 : decode cX1_spitAt 27 = .ok (.goto 4, 3) := by decide +kernel
theorem dX1_spitAt_30 : decode cX1_spitAt 30 = .ok (.aconst_null, 1) := by decide +kernel
theorem dX1_spitAt_31 : decode cX1_spitAt 31 = .ok (.areturn, 1) := by decide +kernel
theorem dX1_roastAt_0 : decode cX1_roastAt 0 = .ok (.iload_n 1, 1) := by decide +kernel
theorem dX1_roastAt_1 : decode cX1_roastAt 1 = .ok (.ifCond .lt 29, 3) := by decide +kernel
theorem dX1_roastAt_4 : decode cX1_roastAt 4 = .ok (.iload_n 1, 1) := by decide +kernel
theorem dX1_roastAt_5 : decode cX1_roastAt 5 = .ok (.aload_n 0, 1) := by decide +kernel
theorem dX1_roastAt_6 : decode cX1_roastAt 6 = .ok (.getfield 52, 3) := by decide +kernel
theorem dX1_roastAt_9 : decode cX1_roastAt 9 = .ok (.if_icmp .ge 21, 3) := by decide +kernel
theorem dX1_roastAt_12 : decode cX1_roastAt 12 = .ok (.iload_n 1, 1) := by decide +kernel
theorem dX1_roastAt_13 : decode cX1_roastAt 13 = .ok (.aload_n 0, 1) := by decide +kernel
theorem dX1_roastAt_14 : decode cX1_roastAt 14 = .ok (.getfield 25, 3) := by decide +kernel
theorem dX1_roastAt_17 : decode cX1_roastAt 17 = .ok (.arraylength, 1) := by decide +kernel
theorem dX1_roastAt_18 : decode cX1_roastAt 18 = .ok (.if_icmp .ge 12, 3) := by decide +kernel
theorem dX1_roastAt_21 : decode cX1_roastAt 21 = .ok (.aload_n 0, 1) := by decide +kernel
theorem dX1_roastAt_22 : decode cX1_roastAt 22 = .ok (.getfield 25, 3) := by decide +kernel
theorem dX1_roastAt_25 : decode cX1_roastAt 25 = .ok (.iload_n 1, 1) := by decide +kernel
theorem dX1_roastAt_26 : decode cX1_roastAt 26 = .ok (.aaload, 1) := by decide +kernel
theorem dX1_roastAt_27 : decode cX1_roastAt 27 = .ok (.goto 4, 3) := by decide +kernel
theorem dX1_roastAt_30 : decode cX1_roastAt 30 = .ok (.aconst_null, 1) := by decide +kernel
theorem dX1_roastAt_31 : decode cX1_roastAt 31 = .ok (.areturn, 1) := by decide +kernel
theorem dX1_placeFire_0 : decode cX1_placeFire 0 = .ok (.aload_n 0, 1) := by decide +kernel
theorem dX1_placeFire_1 : decode cX1_placeFire 1 = .ok (.getfield 46, 3) := by decide +kernel
theorem dX1_placeFire_4 : decode cX1_placeFire 4 = .ok (.aload_n 0, 1) := by decide +kernel
theorem dX1_placeFire_5 : decode cX1_placeFire 5 = .ok (.getfield 11, 3) := by decide +kernel
theorem dX1_placeFire_8 : decode cX1_placeFire 8 = .ok (.arraylength, 1) := by decide +kernel
theorem dX1_placeFire_9 : decode cX1_placeFire 9 = .ok (.if_icmp .lt 5, 3) := by decide +kernel
theorem dX1_placeFire_12 : decode cX1_placeFire 12 = .ok (.iconst (-1), 1) := by decide +kernel
theorem dX1_placeFire_13 : decode cX1_placeFire 13 = .ok (.ireturn, 1) := by decide +kernel
theorem dX1_placeFire_14 : decode cX1_placeFire 14 = .ok (.aload_n 0, 1) := by decide +kernel
theorem dX1_placeFire_15 : decode cX1_placeFire 15 = .ok (.dup, 1) := by decide +kernel
theorem dX1_placeFire_16 : decode cX1_placeFire 16 = .ok (.getfield 46, 3) := by decide +kernel
theorem dX1_placeFire_19 : decode cX1_placeFire 19 = .ok (.iconst 1, 1) := by decide +kernel
theorem dX1_placeFire_20 : decode cX1_placeFire 20 = .ok (.iadd, 1) := by decide +kernel
theorem dX1_placeFire_21 : decode cX1_placeFire 21 = .ok (.putfield 46, 3) := by decide +kernel
theorem dX1_placeFire_24 : decode cX1_placeFire 24 = .ok (.aload_n 0, 1) := by decide +kernel
theorem dX1_placeFire_25 : decode cX1_placeFire 25 = .ok (.getfield 46, 3) := by decide +kernel
theorem dX1_placeFire_28 : decode cX1_placeFire 28 = .ok (.iconst 1, 1) := by decide +kernel
theorem dX1_placeFire_29 : decode cX1_placeFire 29 = .ok (.isub, 1) := by decide +kernel
theorem dX1_placeFire_30 : decode cX1_placeFire 30 = .ok (.ireturn, 1) := by decide +kernel
theorem dX1_placeSpit_0 : decode cX1_placeSpit 0 = .ok (.aload_n 0, 1) := by decide +kernel
theorem dX1_placeSpit_1 : decode cX1_placeSpit 1 = .ok (.getfield 49, 3) := by decide +kernel
theorem dX1_placeSpit_4 : decode cX1_placeSpit 4 = .ok (.ifCond .lt 15, 3) := by decide +kernel
theorem dX1_placeSpit_7 : decode cX1_placeSpit 7 = .ok (.aload_n 0, 1) := by decide +kernel
theorem dX1_placeSpit_8 : decode cX1_placeSpit 8 = .ok (.getfield 49, 3) := by decide +kernel
theorem dX1_placeSpit_11 : decode cX1_placeSpit 11 = .ok (.aload_n 0, 1) := by decide +kernel
theorem dX1_placeSpit_12 : decode cX1_placeSpit 12 = .ok (.getfield 19, 3) := by decide +kernel
theorem dX1_placeSpit_15 : decode cX1_placeSpit 15 = .ok (.arraylength, 1) := by decide +kernel
theorem dX1_placeSpit_16 : decode cX1_placeSpit 16 = .ok (.if_icmp .lt 5, 3) := by decide +kernel
theorem dX1_placeSpit_19 : decode cX1_placeSpit 19 = .ok (.iconst (-1), 1) := by decide +kernel
theorem dX1_placeSpit_20 : decode cX1_placeSpit 20 = .ok (.ireturn, 1) := by decide +kernel
theorem dX1_placeSpit_21 : decode cX1_placeSpit 21 = .ok (.aload_n 0, 1) := by decide +kernel
theorem dX1_placeSpit_22 : decode cX1_placeSpit 22 = .ok (.getfield 19, 3) := by decide +kernel
theorem dX1_placeSpit_25 : decode cX1_placeSpit 25 = .ok (.aload_n 0, 1) := by decide +kernel
theorem dX1_placeSpit_26 : decode cX1_placeSpit 26 = .ok (.getfield 49, 3) := by decide +kernel
theorem dX1_placeSpit_29 : decode cX1_placeSpit 29 = .ok (.aaload, 1) := by decide +kernel
theorem dX1_placeSpit_30 : decode cX1_placeSpit 30 = .ok (.astore_n 3, 1) := by decide +kernel
theorem dX1_placeSpit_31 : decode cX1_placeSpit 31 = .ok (.aload_n 3, 1) := by decide +kernel
theorem dX1_placeSpit_32 : decode cX1_placeSpit 32 = .ok (.iload_n 1, 1) := by decide +kernel
theorem dX1_placeSpit_33 : decode cX1_placeSpit 33 = .ok (.putfield 58, 3) := by decide +kernel
theorem dX1_placeSpit_36 : decode cX1_placeSpit 36 = .ok (.aload_n 3, 1) := by decide +kernel
theorem dX1_placeSpit_37 : decode cX1_placeSpit 37 = .ok (.iload_n 2, 1) := by decide +kernel
theorem dX1_placeSpit_38 : decode cX1_placeSpit 38 = .ok (.putfield 61, 3) := by decide +kernel
theorem dX1_placeSpit_41 : decode cX1_placeSpit 41 = .ok (.aload_n 0, 1) := by decide +kernel
theorem dX1_placeSpit_42 : decode cX1_placeSpit 42 = .ok (.dup, 1) := by decide +kernel
theorem dX1_placeSpit_43 : decode cX1_placeSpit 43 = .ok (.getfield 49, 3) := by decide +kernel
theorem dX1_placeSpit_46 : decode cX1_placeSpit 46 = .ok (.iconst 1, 1) := by decide +kernel
theorem dX1_placeSpit_47 : decode cX1_placeSpit 47 = .ok (.iadd, 1) := by decide +kernel
theorem dX1_placeSpit_48 : decode cX1_placeSpit 48 = .ok (.putfield 49, 3) := by decide +kernel
theorem dX1_placeSpit_51 : decode cX1_placeSpit 51 = .ok (.aload_n 0, 1) := by decide +kernel
theorem dX1_placeSpit_52 : decode cX1_placeSpit 52 = .ok (.getfield 49, 3) := by decide +kernel
theorem dX1_placeSpit_55 : decode cX1_placeSpit 55 = .ok (.iconst 1, 1) := by decide +kernel
theorem dX1_placeSpit_56 : decode cX1_placeSpit 56 = .ok (.isub, 1) := by decide +kernel
theorem dX1_placeSpit_57 : decode cX1_placeSpit 57 = .ok (.ireturn, 1) := by decide +kernel
theorem dX1_placeRoast_0 : decode cX1_placeRoast 0 = .ok (.aload_n 0, 1) := by decide +kernel
theorem dX1_placeRoast_1 : decode cX1_placeRoast 1 = .ok (.iload_n 1, 1) := by decide +kernel
theorem dX1_placeRoast_2 : decode cX1_placeRoast 2 = .ok (.invokevirtual 64, 3) := by decide +kernel
theorem dX1_placeRoast_5 : decode cX1_placeRoast 5 = .ok (.astore_n 3, 1) := by decide +kernel
theorem dX1_placeRoast_6 : decode cX1_placeRoast 6 = .ok (.aload_n 3, 1) := by decide +kernel
theorem dX1_placeRoast_7 : decode cX1_placeRoast 7 = .ok (.ifnull 30, 3) := by decide +kernel
theorem dX1_placeRoast_10 : decode cX1_placeRoast 10 = .ok (.aload_n 3, 1) := by decide +kernel
theorem dX1_placeRoast_11 : decode cX1_placeRoast 11 = .ok (.getfield 68, 3) := by decide +kernel
theorem dX1_placeRoast_14 : decode cX1_placeRoast 14 = .ok (.iconst (-1), 1) := by decide +kernel
theorem dX1_placeRoast_15 : decode cX1_placeRoast 15 = .ok (.if_icmp .ne 22, 3) := by decide +kernel
theorem dX1_placeRoast_18 : decode cX1_placeRoast 18 = .ok (.aload_n 0, 1) := by decide +kernel
theorem dX1_placeRoast_19 : decode cX1_placeRoast 19 = .ok (.getfield 52, 3) := by decide +kernel
theorem dX1_placeRoast_22 : decode cX1_placeRoast 22 = .ok (.ifCond .lt 15, 3) := by decide +kernel
theorem dX1_placeRoast_25 : decode cX1_placeRoast 25 = .ok (.aload_n 0, 1) := by decide +kernel
theorem dX1_placeRoast_26 : decode cX1_placeRoast 26 = .ok (.getfield 52, 3) := by decide +kernel
theorem dX1_placeRoast_29 : decode cX1_placeRoast 29 = .ok (.aload_n 0, 1) := by decide +kernel
theorem dX1_placeRoast_30 : decode cX1_placeRoast 30 = .ok (.getfield 25, 3) := by decide +kernel
theorem dX1_placeRoast_33 : decode cX1_placeRoast 33 = .ok (.arraylength, 1) := by decide +kernel
theorem dX1_placeRoast_34 : decode cX1_placeRoast 34 = .ok (.if_icmp .lt 5, 3) := by decide +kernel
theorem dX1_placeRoast_37 : decode cX1_placeRoast 37 = .ok (.iconst (-1), 1) := by decide +kernel
theorem dX1_placeRoast_38 : decode cX1_placeRoast 38 = .ok (.ireturn, 1) := by decide +kernel
theorem dX1_placeRoast_39 : decode cX1_placeRoast 39 = .ok (.aload_n 0, 1) := by decide +kernel
theorem dX1_placeRoast_40 : decode cX1_placeRoast 40 = .ok (.getfield 25, 3) := by decide +kernel
theorem dX1_placeRoast_43 : decode cX1_placeRoast 43 = .ok (.aload_n 0, 1) := by decide +kernel
theorem dX1_placeRoast_44 : decode cX1_placeRoast 44 = .ok (.getfield 52, 3) := by decide +kernel
theorem dX1_placeRoast_47 : decode cX1_placeRoast 47 = .ok (.aaload, 1) := by decide +kernel
theorem dX1_placeRoast_48 : decode cX1_placeRoast 48 = .ok (.astore 4, 2) := by decide +kernel
theorem dX1_placeRoast_50 : decode cX1_placeRoast 50 = .ok (.aload 4, 2) := by decide +kernel
theorem dX1_placeRoast_52 : decode cX1_placeRoast 52 = .ok (.iload_n 2, 1) := by decide +kernel
theorem dX1_placeRoast_53 : decode cX1_placeRoast 53 = .ok (.putfield 71, 3) := by decide +kernel
theorem dX1_placeRoast_56 : decode cX1_placeRoast 56 = .ok (.aload 4, 2) := by decide +kernel
theorem dX1_placeRoast_58 : decode cX1_placeRoast 58 = .ok (.iconst 3, 1) := by decide +kernel
theorem dX1_placeRoast_59 : decode cX1_placeRoast 59 = .ok (.iload_n 2, 1) := by decide +kernel
theorem dX1_placeRoast_60 : decode cX1_placeRoast 60 = .ok (.imul, 1) := by decide +kernel
theorem dX1_placeRoast_61 : decode cX1_placeRoast 61 = .ok (.putfield 74, 3) := by decide +kernel
theorem dX1_placeRoast_64 : decode cX1_placeRoast 64 = .ok (.aload 4, 2) := by decide +kernel
theorem dX1_placeRoast_66 : decode cX1_placeRoast 66 = .ok (.iload_n 1, 1) := by decide +kernel
theorem dX1_placeRoast_67 : decode cX1_placeRoast 67 = .ok (.putfield 77, 3) := by decide +kernel
theorem dX1_placeRoast_70 : decode cX1_placeRoast 70 = .ok (.aload_n 3, 1) := by decide +kernel
theorem dX1_placeRoast_71 : decode cX1_placeRoast 71 = .ok (.aload_n 0, 1) := by decide +kernel
theorem dX1_placeRoast_72 : decode cX1_placeRoast 72 = .ok (.getfield 52, 3) := by decide +kernel
theorem dX1_placeRoast_75 : decode cX1_placeRoast 75 = .ok (.putfield 68, 3) := by decide +kernel
theorem dX1_placeRoast_78 : decode cX1_placeRoast 78 = .ok (.aload_n 3, 1) := by decide +kernel
theorem dX1_placeRoast_79 : decode cX1_placeRoast 79 = .ok (.iconst 0, 1) := by decide +kernel
theorem dX1_placeRoast_80 : decode cX1_placeRoast 80 = .ok (.putfield 80, 3) := by decide +kernel
theorem dX1_placeRoast_83 : decode cX1_placeRoast 83 = .ok (.aload_n 0, 1) := by decide +kernel
theorem dX1_placeRoast_84 : decode cX1_placeRoast 84 = .ok (.dup, 1) := by decide +kernel
theorem dX1_placeRoast_85 : decode cX1_placeRoast 85 = .ok (.getfield 52, 3) := by decide +kernel
theorem dX1_placeRoast_88 : decode cX1_placeRoast 88 = .ok (.iconst 1, 1) := by decide +kernel
theorem dX1_placeRoast_89 : decode cX1_placeRoast 89 = .ok (.iadd, 1) := by decide +kernel
theorem dX1_placeRoast_90 : decode cX1_placeRoast 90 = .ok (.putfield 52, 3) := by decide +kernel
theorem dX1_placeRoast_93 : decode cX1_placeRoast 93 = .ok (.aload_n 3, 1) := by decide +kernel
theorem dX1_placeRoast_94 : decode cX1_placeRoast 94 = .ok (.getfield 68, 3) := by decide +kernel
theorem dX1_placeRoast_97 : decode cX1_placeRoast 97 = .ok (.ireturn, 1) := by decide +kernel
theorem dX1_glowOf_0 : decode cX1_glowOf 0 = .ok (.aload_n 0, 1) := by decide +kernel
theorem dX1_glowOf_1 : decode cX1_glowOf 1 = .ok (.aload_n 1, 1) := by decide +kernel
theorem dX1_glowOf_2 : decode cX1_glowOf 2 = .ok (.getfield 58, 3) := by decide +kernel
theorem dX1_glowOf_5 : decode cX1_glowOf 5 = .ok (.invokevirtual 83, 3) := by decide +kernel
theorem dX1_glowOf_8 : decode cX1_glowOf 8 = .ok (.astore_n 2, 1) := by decide +kernel
theorem dX1_glowOf_9 : decode cX1_glowOf 9 = .ok (.aload_n 2, 1) := by decide +kernel
theorem dX1_glowOf_10 : decode cX1_glowOf 10 = .ok (.ifnull 10, 3) := by decide +kernel
theorem dX1_glowOf_13 : decode cX1_glowOf 13 = .ok (.aload_n 1, 1) := by decide +kernel
theorem dX1_glowOf_14 : decode cX1_glowOf 14 = .ok (.getfield 61, 3) := by decide +kernel
theorem dX1_glowOf_17 : decode cX1_glowOf 17 = .ok (.ifCond .gt 7, 3) := by decide +kernel
theorem dX1_glowOf_20 : decode cX1_glowOf 20 = .ok (.iconst 0, 1) := by decide +kernel
theorem dX1_glowOf_21 : decode cX1_glowOf 21 = .ok (.goto 12, 3) := by decide +kernel
theorem dX1_glowOf_24 : decode cX1_glowOf 24 = .ok (.aload_n 2, 1) := by decide +kernel
theorem dX1_glowOf_25 : decode cX1_glowOf 25 = .ok (.getfield 87, 3) := by decide +kernel
theorem dX1_glowOf_28 : decode cX1_glowOf 28 = .ok (.aload_n 1, 1) := by decide +kernel
theorem dX1_glowOf_29 : decode cX1_glowOf 29 = .ok (.getfield 61, 3) := by decide +kernel
theorem dX1_glowOf_32 : decode cX1_glowOf 32 = .ok (.idiv, 1) := by decide +kernel
theorem dX1_glowOf_33 : decode cX1_glowOf 33 = .ok (.ireturn, 1) := by decide +kernel
theorem dX1_goMinutes_0 : decode cX1_goMinutes 0 = .ok (.iconst 0, 1) := by decide +kernel
theorem dX1_goMinutes_1 : decode cX1_goMinutes 1 = .ok (.istore_n 2, 1) := by decide +kernel
theorem dX1_goMinutes_2 : decode cX1_goMinutes 2 = .ok (.iconst 0, 1) := by decide +kernel
theorem dX1_goMinutes_3 : decode cX1_goMinutes 3 = .ok (.istore_n 3, 1) := by decide +kernel
theorem dX1_goMinutes_4 : decode cX1_goMinutes 4 = .ok (.iload_n 3, 1) := by decide +kernel
theorem dX1_goMinutes_5 : decode cX1_goMinutes 5 = .ok (.iload_n 1, 1) := by decide +kernel
theorem dX1_goMinutes_6 : decode cX1_goMinutes 6 = .ok (.if_icmp .ge 16, 3) := by decide +kernel
theorem dX1_goMinutes_9 : decode cX1_goMinutes 9 = .ok (.iload_n 2, 1) := by decide +kernel
theorem dX1_goMinutes_10 : decode cX1_goMinutes 10 = .ok (.aload_n 0, 1) := by decide +kernel
theorem dX1_goMinutes_11 : decode cX1_goMinutes 11 = .ok (.invokevirtual 90, 3) := by decide +kernel
theorem dX1_goMinutes_14 : decode cX1_goMinutes 14 = .ok (.iadd, 1) := by decide +kernel
theorem dX1_goMinutes_15 : decode cX1_goMinutes 15 = .ok (.istore_n 2, 1) := by decide +kernel
theorem dX1_goMinutes_16 : decode cX1_goMinutes 16 = .ok (.iinc 3 1, 3) := by decide +kernel
theorem dX1_goMinutes_19 : decode cX1_goMinutes 19 = .ok (.goto (-15), 3) := by decide +kernel
theorem dX1_goMinutes_22 : decode cX1_goMinutes 22 = .ok (.iload_n 2, 1) := by decide +kernel
theorem dX1_goMinutes_23 : decode cX1_goMinutes 23 = .ok (.ireturn, 1) := by decide +kernel
theorem dX1_goMinute_0 : decode cX1_goMinute 0 = .ok (.iconst 0, 1) := by decide +kernel
theorem dX1_goMinute_1 : decode cX1_goMinute 1 = .ok (.istore_n 1, 1) := by decide +kernel
theorem dX1_goMinute_2 : decode cX1_goMinute 2 = .ok (.aload_n 0, 1) := by decide +kernel
theorem dX1_goMinute_3 : decode cX1_goMinute 3 = .ok (.getfield 19, 3) := by decide +kernel
theorem dX1_goMinute_6 : decode cX1_goMinute 6 = .ok (.astore_n 2, 1) := by decide +kernel
theorem dX1_goMinute_7 : decode cX1_goMinute 7 = .ok (.aload_n 2, 1) := by decide +kernel
theorem dX1_goMinute_8 : decode cX1_goMinute 8 = .ok (.arraylength, 1) := by decide +kernel
theorem dX1_goMinute_9 : decode cX1_goMinute 9 = .ok (.istore_n 3, 1) := by decide +kernel
theorem dX1_goMinute_10 : decode cX1_goMinute 10 = .ok (.iconst 0, 1) := by decide +kernel
theorem dX1_goMinute_11 : decode cX1_goMinute 11 = .ok (.istore 4, 2) := by decide +kernel
theorem dX1_goMinute_13 : decode cX1_goMinute 13 = .ok (.iload 4, 2) := by decide +kernel
theorem dX1_goMinute_15 : decode cX1_goMinute 15 = .ok (.iload_n 3, 1) := by decide +kernel
theorem dX1_goMinute_16 : decode cX1_goMinute 16 = .ok (.if_icmp .ge 27, 3) := by decide +kernel
theorem dX1_goMinute_19 : decode cX1_goMinute 19 = .ok (.aload_n 2, 1) := by decide +kernel
theorem dX1_goMinute_20 : decode cX1_goMinute 20 = .ok (.iload 4, 2) := by decide +kernel
theorem dX1_goMinute_22 : decode cX1_goMinute 22 = .ok (.aaload, 1) := by decide +kernel
theorem dX1_goMinute_23 : decode cX1_goMinute 23 = .ok (.astore 5, 2) := by decide +kernel
theorem dX1_goMinute_25 : decode cX1_goMinute 25 = .ok (.aload_n 0, 1) := by decide +kernel
theorem dX1_goMinute_26 : decode cX1_goMinute 26 = .ok (.aload 5, 2) := by decide +kernel
theorem dX1_goMinute_28 : decode cX1_goMinute 28 = .ok (.invokevirtual 94, 3) := by decide +kernel
theorem dX1_goMinute_31 : decode cX1_goMinute 31 = .ok (.ifCond .eq 6, 3) := by decide +kernel
theorem dX1_goMinute_34 : decode cX1_goMinute 34 = .ok (.iinc 1 1, 3) := by decide +kernel
theorem dX1_goMinute_37 : decode cX1_goMinute 37 = .ok (.iinc 4 1, 3) := by decide +kernel
theorem dX1_goMinute_40 : decode cX1_goMinute 40 = .ok (.goto (-27), 3) := by decide +kernel
theorem dX1_goMinute_43 : decode cX1_goMinute 43 = .ok (.aload_n 0, 1) := by decide +kernel
theorem dX1_goMinute_44 : decode cX1_goMinute 44 = .ok (.getfield 11, 3) := by decide +kernel
theorem dX1_goMinute_47 : decode cX1_goMinute 47 = .ok (.astore_n 2, 1) := by decide +kernel
theorem dX1_goMinute_48 : decode cX1_goMinute 48 = .ok (.aload_n 2, 1) := by decide +kernel
theorem dX1_goMinute_49 : decode cX1_goMinute 49 = .ok (.arraylength, 1) := by decide +kernel
theorem dX1_goMinute_50 : decode cX1_goMinute 50 = .ok (.istore_n 3, 1) := by decide +kernel
theorem dX1_goMinute_51 : decode cX1_goMinute 51 = .ok (.iconst 0, 1) := by decide +kernel
theorem dX1_goMinute_52 : decode cX1_goMinute 52 = .ok (.istore 4, 2) := by decide +kernel
theorem dX1_goMinute_54 : decode cX1_goMinute 54 = .ok (.iload 4, 2) := by decide +kernel
theorem dX1_goMinute_56 : decode cX1_goMinute 56 = .ok (.iload_n 3, 1) := by decide +kernel
theorem dX1_goMinute_57 : decode cX1_goMinute 57 = .ok (.if_icmp .ge 24, 3) := by decide +kernel
theorem dX1_goMinute_60 : decode cX1_goMinute 60 = .ok (.aload_n 2, 1) := by decide +kernel
theorem dX1_goMinute_61 : decode cX1_goMinute 61 = .ok (.iload 4, 2) := by decide +kernel
theorem dX1_goMinute_63 : decode cX1_goMinute 63 = .ok (.aaload, 1) := by decide +kernel
theorem dX1_goMinute_64 : decode cX1_goMinute 64 = .ok (.astore 5, 2) := by decide +kernel
theorem dX1_goMinute_66 : decode cX1_goMinute 66 = .ok (.aload 5, 2) := by decide +kernel
theorem dX1_goMinute_68 : decode cX1_goMinute 68 = .ok (.aload_n 0, 1) := by decide +kernel
theorem dX1_goMinute_69 : decode cX1_goMinute 69 = .ok (.getfield 55, 3) := by decide +kernel
theorem dX1_goMinute_72 : decode cX1_goMinute 72 = .ok (.invokevirtual 98, 3) := by decide +kernel
theorem dX1_goMinute_75 : decode cX1_goMinute 75 = .ok (.iinc 4 1, 3) := by decide +kernel
theorem dX1_goMinute_78 : decode cX1_goMinute 78 = .ok (.goto (-24), 3) := by decide +kernel
theorem dX1_goMinute_81 : decode cX1_goMinute 81 = .ok (.aload_n 0, 1) := by decide +kernel
theorem dX1_goMinute_82 : decode cX1_goMinute 82 = .ok (.dup, 1) := by decide +kernel
theorem dX1_goMinute_83 : decode cX1_goMinute 83 = .ok (.getfield 55, 3) := by decide +kernel
theorem dX1_goMinute_86 : decode cX1_goMinute 86 = .ok (.iconst 1, 1) := by decide +kernel
theorem dX1_goMinute_87 : decode cX1_goMinute 87 = .ok (.iadd, 1) := by decide +kernel
theorem dX1_goMinute_88 : decode cX1_goMinute 88 = .ok (.putfield 55, 3) := by decide +kernel
theorem dX1_goMinute_91 : decode cX1_goMinute 91 = .ok (.iload_n 1, 1) := by decide +kernel
theorem dX1_goMinute_92 : decode cX1_goMinute 92 = .ok (.ireturn, 1) := by decide +kernel
theorem dX1_roastForAMinute_0 : decode cX1_roastForAMinute 0 = .ok (.aload_n 0, 1) := by decide +kernel
theorem dX1_roastForAMinute_1 : decode cX1_roastForAMinute 1 = .ok (.aload_n 1, 1) := by decide +kernel
theorem dX1_roastForAMinute_2 : decode cX1_roastForAMinute 2 = .ok (.getfield 68, 3) := by decide +kernel
theorem dX1_roastForAMinute_5 : decode cX1_roastForAMinute 5 = .ok (.invokevirtual 102, 3) := by decide +kernel
theorem dX1_roastForAMinute_8 : decode cX1_roastForAMinute 8 = .ok (.astore_n 2, 1) := by decide +kernel
theorem dX1_roastForAMinute_9 : decode cX1_roastForAMinute 9 = .ok (.aload_n 0, 1) := by decide +kernel
theorem dX1_roastForAMinute_10 : decode cX1_roastForAMinute 10 = .ok (.aload_n 1, 1) := by decide +kernel
theorem dX1_roastForAMinute_11 : decode cX1_roastForAMinute 11 = .ok (.getfield 58, 3) := by decide +kernel
theorem dX1_roastForAMinute_14 : decode cX1_roastForAMinute 14 = .ok (.invokevirtual 83, 3) := by decide +kernel
theorem dX1_roastForAMinute_17 : decode cX1_roastForAMinute 17 = .ok (.astore_n 3, 1) := by decide +kernel
theorem dX1_roastForAMinute_18 : decode cX1_roastForAMinute 18 = .ok (.aload_n 2, 1) := by decide +kernel
theorem dX1_roastForAMinute_19 : decode cX1_roastForAMinute 19 = .ok (.ifnull 7, 3) := by decide +kernel
theorem dX1_roastForAMinute_22 : decode cX1_roastForAMinute 22 = .ok (.aload_n 3, 1) := by decide +kernel
theorem dX1_roastForAMinute_23 : decode cX1_roastForAMinute 23 = .ok (.ifnonnull 5, 3) := by decide +kernel
theorem dX1_roastForAMinute_26 : decode cX1_roastForAMinute 26 = .ok (.iconst 0, 1) := by decide +kernel
theorem dX1_roastForAMinute_27 : decode cX1_roastForAMinute 27 = .ok (.ireturn, 1) := by decide +kernel
theorem dX1_roastForAMinute_28 : decode cX1_roastForAMinute 28 = .ok (.aload_n 2, 1) := by decide +kernel
theorem dX1_roastForAMinute_29 : decode cX1_roastForAMinute 29 = .ok (.aload_n 0, 1) := by decide +kernel
theorem dX1_roastForAMinute_30 : decode cX1_roastForAMinute 30 = .ok (.aload_n 1, 1) := by decide +kernel
theorem dX1_roastForAMinute_31 : decode cX1_roastForAMinute 31 = .ok (.invokevirtual 106, 3) := by decide +kernel
theorem dX1_roastForAMinute_34 : decode cX1_roastForAMinute 34 = .ok (.invokevirtual 110, 3) := by decide +kernel
theorem dX1_roastForAMinute_37 : decode cX1_roastForAMinute 37 = .ok (.istore 4, 2) := by decide +kernel
theorem dX1_roastForAMinute_39 : decode cX1_roastForAMinute 39 = .ok (.aload_n 2, 1) := by decide +kernel
theorem dX1_roastForAMinute_40 : decode cX1_roastForAMinute 40 = .ok (.iload 4, 2) := by decide +kernel
theorem dX1_roastForAMinute_42 : decode cX1_roastForAMinute 42 = .ok (.invokevirtual 114, 3) := by decide +kernel
theorem dX1_roastForAMinute_45 : decode cX1_roastForAMinute 45 = .ok (.ifCond .eq 14, 3) := by decide +kernel
theorem dX1_roastForAMinute_48 : decode cX1_roastForAMinute 48 = .ok (.aload_n 1, 1) := by decide +kernel
theorem dX1_roastForAMinute_49 : decode cX1_roastForAMinute 49 = .ok (.invokevirtual 118, 3) := by decide +kernel
theorem dX1_roastForAMinute_52 : decode cX1_roastForAMinute 52 = .ok (.ifCond .ne 7, 3) := by decide +kernel
theorem dX1_roastForAMinute_55 : decode cX1_roastForAMinute 55 = .ok (.iconst 1, 1) := by decide +kernel
theorem dX1_roastForAMinute_56 : decode cX1_roastForAMinute 56 = .ok (.goto 4, 3) := by decide +kernel
theorem dX1_roastForAMinute_59 : decode cX1_roastForAMinute 59 = .ok (.iconst 0, 1) := by decide +kernel
theorem dX1_roastForAMinute_60 : decode cX1_roastForAMinute 60 = .ok (.istore 5, 2) := by decide +kernel
theorem dX1_roastForAMinute_62 : decode cX1_roastForAMinute 62 = .ok (.iload 5, 2) := by decide +kernel
theorem dX1_roastForAMinute_64 : decode cX1_roastForAMinute 64 = .ok (.ifCond .eq 13, 3) := by decide +kernel
theorem dX1_roastForAMinute_67 : decode cX1_roastForAMinute 67 = .ok (.aload_n 3, 1) := by decide +kernel
theorem dX1_roastForAMinute_68 : decode cX1_roastForAMinute 68 = .ok (.dup, 1) := by decide +kernel
theorem dX1_roastForAMinute_69 : decode cX1_roastForAMinute 69 = .ok (.getfield 122, 3) := by decide +kernel
theorem dX1_roastForAMinute_72 : decode cX1_roastForAMinute 72 = .ok (.iconst 1, 1) := by decide +kernel
theorem dX1_roastForAMinute_73 : decode cX1_roastForAMinute 73 = .ok (.iadd, 1) := by decide +kernel
theorem dX1_roastForAMinute_74 : decode cX1_roastForAMinute 74 = .ok (.putfield 122, 3) := by decide +kernel
theorem dX1_roastForAMinute_77 : decode cX1_roastForAMinute 77 = .ok (.aload_n 1, 1) := by decide +kernel
theorem dX1_roastForAMinute_78 : decode cX1_roastForAMinute 78 = .ok (.invokevirtual 125, 3) := by decide +kernel
theorem dX1_roastForAMinute_81 : decode cX1_roastForAMinute 81 = .ok (.ifCond .eq 7, 3) := by decide +kernel
theorem dX1_roastForAMinute_84 : decode cX1_roastForAMinute 84 = .ok (.aload_n 2, 1) := by decide +kernel
theorem dX1_roastForAMinute_85 : decode cX1_roastForAMinute 85 = .ok (.invokevirtual 128, 3) := by decide +kernel
theorem dX1_roastForAMinute_88 : decode cX1_roastForAMinute 88 = .ok (.iload 5, 2) := by decide +kernel
theorem dX1_roastForAMinute_90 : decode cX1_roastForAMinute 90 = .ok (.ireturn, 1) := by decide +kernel
theorem dX1_countDone_0 : decode cX1_countDone 0 = .ok (.iconst 0, 1) := by decide +kernel
theorem dX1_countDone_1 : decode cX1_countDone 1 = .ok (.istore_n 1, 1) := by decide +kernel
theorem dX1_countDone_2 : decode cX1_countDone 2 = .ok (.iconst 0, 1) := by decide +kernel
theorem dX1_countDone_3 : decode cX1_countDone 3 = .ok (.istore_n 2, 1) := by decide +kernel
theorem dX1_countDone_4 : decode cX1_countDone 4 = .ok (.iload_n 2, 1) := by decide +kernel
theorem dX1_countDone_5 : decode cX1_countDone 5 = .ok (.aload_n 0, 1) := by decide +kernel
theorem dX1_countDone_6 : decode cX1_countDone 6 = .ok (.getfield 25, 3) := by decide +kernel
theorem dX1_countDone_9 : decode cX1_countDone 9 = .ok (.arraylength, 1) := by decide +kernel
theorem dX1_countDone_10 : decode cX1_countDone 10 = .ok (.if_icmp .ge 32, 3) := by decide +kernel
theorem dX1_countDone_13 : decode cX1_countDone 13 = .ok (.iload_n 2, 1) := by decide +kernel
theorem dX1_countDone_14 : decode cX1_countDone 14 = .ok (.aload_n 0, 1) := by decide +kernel
theorem dX1_countDone_15 : decode cX1_countDone 15 = .ok (.getfield 52, 3) := by decide +kernel
theorem dX1_countDone_18 : decode cX1_countDone 18 = .ok (.if_icmp .ge 24, 3) := by decide +kernel
theorem dX1_countDone_21 : decode cX1_countDone 21 = .ok (.aload_n 0, 1) := by decide +kernel
theorem dX1_countDone_22 : decode cX1_countDone 22 = .ok (.getfield 25, 3) := by decide +kernel
theorem dX1_countDone_25 : decode cX1_countDone 25 = .ok (.iload_n 2, 1) := by decide +kernel
theorem dX1_countDone_26 : decode cX1_countDone 26 = .ok (.aaload, 1) := by decide +kernel
theorem dX1_countDone_27 : decode cX1_countDone 27 = .ok (.invokevirtual 131, 3) := by decide +kernel
theorem dX1_countDone_30 : decode cX1_countDone 30 = .ok (.ifCond .eq 6, 3) := by decide +kernel
theorem dX1_countDone_33 : decode cX1_countDone 33 = .ok (.iinc 1 1, 3) := by decide +kernel
theorem dX1_countDone_36 : decode cX1_countDone 36 = .ok (.iinc 2 1, 3) := by decide +kernel
theorem dX1_countDone_39 : decode cX1_countDone 39 = .ok (.goto (-35), 3) := by decide +kernel
theorem dX1_countDone_42 : decode cX1_countDone 42 = .ok (.iload_n 1, 1) := by decide +kernel
theorem dX1_countDone_43 : decode cX1_countDone 43 = .ok (.ireturn, 1) := by decide +kernel
theorem dX1_sumBrown_0 : decode cX1_sumBrown 0 = .ok (.iconst 0, 1) := by decide +kernel
theorem dX1_sumBrown_1 : decode cX1_sumBrown 1 = .ok (.istore_n 1, 1) := by decide +kernel
theorem dX1_sumBrown_2 : decode cX1_sumBrown 2 = .ok (.iconst 0, 1) := by decide +kernel
theorem dX1_sumBrown_3 : decode cX1_sumBrown 3 = .ok (.istore_n 2, 1) := by decide +kernel
theorem dX1_sumBrown_4 : decode cX1_sumBrown 4 = .ok (.iload_n 2, 1) := by decide +kernel
theorem dX1_sumBrown_5 : decode cX1_sumBrown 5 = .ok (.aload_n 0, 1) := by decide +kernel
theorem dX1_sumBrown_6 : decode cX1_sumBrown 6 = .ok (.getfield 25, 3) := by decide +kernel
theorem dX1_sumBrown_9 : decode cX1_sumBrown 9 = .ok (.arraylength, 1) := by decide +kernel
theorem dX1_sumBrown_10 : decode cX1_sumBrown 10 = .ok (.if_icmp .ge 58, 3) := by decide +kernel
theorem dX1_sumBrown_13 : decode cX1_sumBrown 13 = .ok (.iload_n 2, 1) := by decide +kernel
theorem dX1_sumBrown_14 : decode cX1_sumBrown 14 = .ok (.aload_n 0, 1) := by decide +kernel
theorem dX1_sumBrown_15 : decode cX1_sumBrown 15 = .ok (.getfield 52, 3) := by decide +kernel
theorem dX1_sumBrown_18 : decode cX1_sumBrown 18 = .ok (.if_icmp .ge 50, 3) := by decide +kernel
theorem dX1_sumBrown_21 : decode cX1_sumBrown 21 = .ok (.aload_n 0, 1) := by decide +kernel
theorem dX1_sumBrown_22 : decode cX1_sumBrown 22 = .ok (.getfield 25, 3) := by decide +kernel
theorem dX1_sumBrown_25 : decode cX1_sumBrown 25 = .ok (.iload_n 2, 1) := by decide +kernel
theorem dX1_sumBrown_26 : decode cX1_sumBrown 26 = .ok (.aaload, 1) := by decide +kernel
theorem dX1_sumBrown_27 : decode cX1_sumBrown 27 = .ok (.getfield 134, 3) := by decide +kernel
theorem dX1_sumBrown_30 : decode cX1_sumBrown 30 = .ok (.astore_n 3, 1) := by decide +kernel
theorem dX1_sumBrown_31 : decode cX1_sumBrown 31 = .ok (.aload_n 3, 1) := by decide +kernel
theorem dX1_sumBrown_32 : decode cX1_sumBrown 32 = .ok (.arraylength, 1) := by decide +kernel
theorem dX1_sumBrown_33 : decode cX1_sumBrown 33 = .ok (.istore 4, 2) := by decide +kernel
theorem dX1_sumBrown_35 : decode cX1_sumBrown 35 = .ok (.iconst 0, 1) := by decide +kernel
theorem dX1_sumBrown_36 : decode cX1_sumBrown 36 = .ok (.istore 5, 2) := by decide +kernel
theorem dX1_sumBrown_38 : decode cX1_sumBrown 38 = .ok (.iload 5, 2) := by decide +kernel
theorem dX1_sumBrown_40 : decode cX1_sumBrown 40 = .ok (.iload 4, 2) := by decide +kernel
theorem dX1_sumBrown_42 : decode cX1_sumBrown 42 = .ok (.if_icmp .ge 20, 3) := by decide +kernel
theorem dX1_sumBrown_45 : decode cX1_sumBrown 45 = .ok (.aload_n 3, 1) := by decide +kernel
theorem dX1_sumBrown_46 : decode cX1_sumBrown 46 = .ok (.iload 5, 2) := by decide +kernel
theorem dX1_sumBrown_48 : decode cX1_sumBrown 48 = .ok (.iaload, 1) := by decide +kernel
theorem dX1_sumBrown_49 : decode cX1_sumBrown 49 = .ok (.istore 6, 2) := by decide +kernel
theorem dX1_sumBrown_51 : decode cX1_sumBrown 51 = .ok (.iload_n 1, 1) := by decide +kernel
theorem dX1_sumBrown_52 : decode cX1_sumBrown 52 = .ok (.iload 6, 2) := by decide +kernel
theorem dX1_sumBrown_54 : decode cX1_sumBrown 54 = .ok (.iadd, 1) := by decide +kernel
theorem dX1_sumBrown_55 : decode cX1_sumBrown 55 = .ok (.istore_n 1, 1) := by decide +kernel
theorem dX1_sumBrown_56 : decode cX1_sumBrown 56 = .ok (.iinc 5 1, 3) := by decide +kernel
theorem dX1_sumBrown_59 : decode cX1_sumBrown 59 = .ok (.goto (-21), 3) := by decide +kernel
theorem dX1_sumBrown_62 : decode cX1_sumBrown 62 = .ok (.iinc 2 1, 3) := by decide +kernel
theorem dX1_sumBrown_65 : decode cX1_sumBrown 65 = .ok (.goto (-61), 3) := by decide +kernel
theorem dX1_sumBrown_68 : decode cX1_sumBrown 68 = .ok (.iload_n 1, 1) := by decide +kernel
theorem dX1_sumBrown_69 : decode cX1_sumBrown 69 = .ok (.ireturn, 1) := by decide +kernel
theorem dX2_init_0 : decode cX2_init 0 = .ok (.aload_n 0, 1) := by decide +kernel
theorem dX2_init_1 : decode cX2_init 1 = .ok (.invokespecial 3, 3) := by decide +kernel
theorem dX2_init_4 : decode cX2_init 4 = .ok (.aload_n 0, 1) := by decide +kernel
theorem dX2_init_5 : decode cX2_init 5 = .ok (.iconst 4, 1) := by decide +kernel
theorem dX2_init_6 : decode cX2_init 6 = .ok (.newarray .int, 2) := by decide +kernel
theorem dX2_init_8 : decode cX2_init 8 = .ok (.putfield 9, 3) := by decide +kernel
theorem dX2_init_11 : decode cX2_init 11 = .ok (.aload_n 0, 1) := by decide +kernel
theorem dX2_init_12 : decode cX2_init 12 = .ok (.iconst (-1), 1) := by decide +kernel
theorem dX2_init_13 : decode cX2_init 13 = .ok (.putfield 15, 3) := by decide +kernel
theorem dX2_init_16 : decode cX2_init 16 = .ok (.return_, 1) := by decide +kernel
theorem dX2_copyFrom_0 : decode cX2_copyFrom 0 = .ok (.aload_n 0, 1) := by decide +kernel
theorem dX2_copyFrom_1 : decode cX2_copyFrom 1 = .ok (.aload_n 1, 1) := by decide +kernel
theorem dX2_copyFrom_2 : decode cX2_copyFrom 2 = .ok (.getfield 19, 3) := by decide +kernel
theorem dX2_copyFrom_5 : decode cX2_copyFrom 5 = .ok (.putfield 19, 3) := by decide +kernel
theorem dX2_copyFrom_8 : decode cX2_copyFrom 8 = .ok (.aload_n 0, 1) := by decide +kernel
theorem dX2_copyFrom_9 : decode cX2_copyFrom 9 = .ok (.aload_n 1, 1) := by decide +kernel
theorem dX2_copyFrom_10 : decode cX2_copyFrom 10 = .ok (.getfield 15, 3) := by decide +kernel
theorem dX2_copyFrom_13 : decode cX2_copyFrom 13 = .ok (.putfield 15, 3) := by decide +kernel
theorem dX2_copyFrom_16 : decode cX2_copyFrom 16 = .ok (.aload_n 0, 1) := by decide +kernel
theorem dX2_copyFrom_17 : decode cX2_copyFrom 17 = .ok (.aload_n 1, 1) := by decide +kernel
theorem dX2_copyFrom_18 : decode cX2_copyFrom 18 = .ok (.getfield 22, 3) := by decide +kernel
theorem dX2_copyFrom_21 : decode cX2_copyFrom 21 = .ok (.putfield 22, 3) := by decide +kernel
theorem dX2_copyFrom_24 : decode cX2_copyFrom 24 = .ok (.aload_n 0, 1) := by decide +kernel
theorem dX2_copyFrom_25 : decode cX2_copyFrom 25 = .ok (.aload_n 1, 1) := by decide +kernel
theorem dX2_copyFrom_26 : decode cX2_copyFrom 26 = .ok (.getfield 25, 3) := by decide +kernel
theorem dX2_copyFrom_29 : decode cX2_copyFrom 29 = .ok (.putfield 25, 3) := by decide +kernel
theorem dX2_copyFrom_32 : decode cX2_copyFrom 32 = .ok (.aload_n 0, 1) := by decide +kernel
theorem dX2_copyFrom_33 : decode cX2_copyFrom 33 = .ok (.aload_n 1, 1) := by decide +kernel
theorem dX2_copyFrom_34 : decode cX2_copyFrom 34 = .ok (.getfield 28, 3) := by decide +kernel
theorem dX2_copyFrom_37 : decode cX2_copyFrom 37 = .ok (.putfield 28, 3) := by decide +kernel
theorem dX2_copyFrom_40 : decode cX2_copyFrom 40 = .ok (.iconst 0, 1) := by decide +kernel
theorem dX2_copyFrom_41 : decode cX2_copyFrom 41 = .ok (.istore_n 2, 1) := by decide +kernel
theorem dX2_copyFrom_42 : decode cX2_copyFrom 42 = .ok (.iload_n 2, 1) := by decide +kernel
theorem dX2_copyFrom_43 : decode cX2_copyFrom 43 = .ok (.aload_n 0, 1) := by decide +kernel
theorem dX2_copyFrom_44 : decode cX2_copyFrom 44 = .ok (.getfield 9, 3) := by decide +kernel
theorem dX2_copyFrom_47 : decode cX2_copyFrom 47 = .ok (.arraylength, 1) := by decide +kernel
theorem dX2_copyFrom_48 : decode cX2_copyFrom 48 = .ok (.if_icmp .ge 30, 3) := by decide +kernel
theorem dX2_copyFrom_51 : decode cX2_copyFrom 51 = .ok (.iload_n 2, 1) := by decide +kernel
theorem dX2_copyFrom_52 : decode cX2_copyFrom 52 = .ok (.aload_n 1, 1) := by decide +kernel
theorem dX2_copyFrom_53 : decode cX2_copyFrom 53 = .ok (.getfield 9, 3) := by decide +kernel
theorem dX2_copyFrom_56 : decode cX2_copyFrom 56 = .ok (.arraylength, 1) := by decide +kernel
theorem dX2_copyFrom_57 : decode cX2_copyFrom 57 = .ok (.if_icmp .ge 21, 3) := by decide +kernel
theorem dX2_copyFrom_60 : decode cX2_copyFrom 60 = .ok (.aload_n 0, 1) := by decide +kernel
theorem dX2_copyFrom_61 : decode cX2_copyFrom 61 = .ok (.getfield 9, 3) := by decide +kernel
theorem dX2_copyFrom_64 : decode cX2_copyFrom 64 = .ok (.iload_n 2, 1) := by decide +kernel
theorem dX2_copyFrom_65 : decode cX2_copyFrom 65 = .ok (.aload_n 1, 1) := by decide +kernel
theorem dX2_copyFrom_66 : decode cX2_copyFrom 66 = .ok (.getfield 9, 3) := by decide +kernel
theorem dX2_copyFrom_69 : decode cX2_copyFrom 69 = .ok (.iload_n 2, 1) := by decide +kernel
theorem dX2_copyFrom_70 : decode cX2_copyFrom 70 = .ok (.iaload, 1) := by decide +kernel
theorem dX2_copyFrom_71 : decode cX2_copyFrom 71 = .ok (.iastore, 1) := by decide +kernel
theorem dX2_copyFrom_72 : decode cX2_copyFrom 72 = .ok (.iinc 2 1, 3) := by decide +kernel
theorem dX2_copyFrom_75 : decode cX2_copyFrom 75 = .ok (.goto (-33), 3) := by decide +kernel
theorem dX2_copyFrom_78 : decode cX2_copyFrom 78 = .ok (.return_, 1) := by decide +kernel
theorem dX2_getGlow_0 : decode cX2_getGlow 0 = .ok (.iload_n 1, 1) := by decide +kernel
theorem dX2_getGlow_1 : decode cX2_getGlow 1 = .ok (.istore_n 2, 1) := by decide +kernel
theorem dX2_getGlow_2 : decode cX2_getGlow 2 = .ok (.aload_n 0, 1) := by decide +kernel
theorem dX2_getGlow_3 : decode cX2_getGlow 3 = .ok (.getfield 28, 3) := by decide +kernel
theorem dX2_getGlow_6 : decode cX2_getGlow 6 = .ok (.ifCond .le 21, 3) := by decide +kernel
theorem dX2_getGlow_9 : decode cX2_getGlow 9 = .ok (.iconst 0, 1) := by decide +kernel
theorem dX2_getGlow_10 : decode cX2_getGlow 10 = .ok (.iload_n 1, 1) := by decide +kernel
theorem dX2_getGlow_11 : decode cX2_getGlow 11 = .ok (.iconst 1, 1) := by decide +kernel
theorem dX2_getGlow_12 : decode cX2_getGlow 12 = .ok (.isub, 1) := by decide +kernel
theorem dX2_getGlow_13 : decode cX2_getGlow 13 = .ok (.invokestatic 31, 3) := by decide +kernel
theorem dX2_getGlow_16 : decode cX2_getGlow 16 = .ok (.istore_n 2, 1) := by decide +kernel
theorem dX2_getGlow_17 : decode cX2_getGlow 17 = .ok (.aload_n 0, 1) := by decide +kernel
theorem dX2_getGlow_18 : decode cX2_getGlow 18 = .ok (.dup, 1) := by decide +kernel
theorem dX2_getGlow_19 : decode cX2_getGlow 19 = .ok (.getfield 28, 3) := by decide +kernel
theorem dX2_getGlow_22 : decode cX2_getGlow 22 = .ok (.iconst 1, 1) := by decide +kernel
theorem dX2_getGlow_23 : decode cX2_getGlow 23 = .ok (.isub, 1) := by decide +kernel
theorem dX2_getGlow_24 : decode cX2_getGlow 24 = .ok (.putfield 28, 3) := by decide +kernel
theorem dX2_getGlow_27 : decode cX2_getGlow 27 = .ok (.aload_n 0, 1) := by decide +kernel
theorem dX2_getGlow_28 : decode cX2_getGlow 28 = .ok (.aload_n 0, 1) := by decide +kernel
theorem dX2_getGlow_29 : decode cX2_getGlow 29 = .ok (.getfield 22, 3) := by decide +kernel
theorem dX2_getGlow_32 : decode cX2_getGlow 32 = .ok (.iload_n 2, 1) := by decide +kernel
theorem dX2_getGlow_33 : decode cX2_getGlow 33 = .ok (.invokevirtual 37, 3) := by decide +kernel
theorem dX2_getGlow_36 : decode cX2_getGlow 36 = .ok (.aload_n 0, 1) := by decide +kernel
theorem dX2_getGlow_37 : decode cX2_getGlow 37 = .ok (.aload_n 0, 1) := by decide +kernel
theorem dX2_getGlow_38 : decode cX2_getGlow 38 = .ok (.getfield 22, 3) := by decide +kernel
theorem dX2_getGlow_41 : decode cX2_getGlow 41 = .ok (.invokestatic 41, 3) := by decide +kernel
theorem dX2_getGlow_44 : decode cX2_getGlow 44 = .ok (.iload_n 2, 1) := by decide +kernel
theorem dX2_getGlow_45 : decode cX2_getGlow 45 = .ok (.iconst 3, 1) := by decide +kernel
theorem dX2_getGlow_46 : decode cX2_getGlow 46 = .ok (.idiv, 1) := by decide +kernel
theorem dX2_getGlow_47 : decode cX2_getGlow 47 = .ok (.invokevirtual 37, 3) := by decide +kernel
theorem dX2_getGlow_50 : decode cX2_getGlow 50 = .ok (.aload_n 0, 1) := by decide +kernel
theorem dX2_getGlow_51 : decode cX2_getGlow 51 = .ok (.aload_n 0, 1) := by decide +kernel
theorem dX2_getGlow_52 : decode cX2_getGlow 52 = .ok (.getfield 22, 3) := by decide +kernel
theorem dX2_getGlow_55 : decode cX2_getGlow 55 = .ok (.invokestatic 45, 3) := by decide +kernel
theorem dX2_getGlow_58 : decode cX2_getGlow 58 = .ok (.iload_n 2, 1) := by decide +kernel
theorem dX2_getGlow_59 : decode cX2_getGlow 59 = .ok (.iconst 3, 1) := by decide +kernel
theorem dX2_getGlow_60 : decode cX2_getGlow 60 = .ok (.idiv, 1) := by decide +kernel
theorem dX2_getGlow_61 : decode cX2_getGlow 61 = .ok (.invokevirtual 37, 3) := by decide +kernel
theorem dX2_getGlow_64 : decode cX2_getGlow 64 = .ok (.iload_n 2, 1) := by decide +kernel
theorem dX2_getGlow_65 : decode cX2_getGlow 65 = .ok (.ireturn, 1) := by decide +kernel
theorem dX2_getBrowner_0 : decode cX2_getBrowner 0 = .ok (.iload_n 1, 1) := by decide +kernel
theorem dX2_getBrowner_1 : decode cX2_getBrowner 1 = .ok (.ifCond .lt 39, 3) := by decide +kernel
theorem dX2_getBrowner_4 : decode cX2_getBrowner 4 = .ok (.iload_n 1, 1) := by decide +kernel
theorem dX2_getBrowner_5 : decode cX2_getBrowner 5 = .ok (.aload_n 0, 1) := by decide +kernel
theorem dX2_getBrowner_6 : decode cX2_getBrowner 6 = .ok (.getfield 9, 3) := by decide +kernel
theorem dX2_getBrowner_9 : decode cX2_getBrowner 9 = .ok (.arraylength, 1) := by decide +kernel
theorem dX2_getBrowner_10 : decode cX2_getBrowner 10 = .ok (.if_icmp .ge 30, 3) := by decide +kernel
theorem dX2_getBrowner_13 : decode cX2_getBrowner 13 = .ok (.aload_n 0, 1) := by decide +kernel
theorem dX2_getBrowner_14 : decode cX2_getBrowner 14 = .ok (.getfield 9, 3) := by decide +kernel
theorem dX2_getBrowner_17 : decode cX2_getBrowner 17 = .ok (.iload_n 1, 1) := by decide +kernel
theorem dX2_getBrowner_18 : decode cX2_getBrowner 18 = .ok (.iaload, 1) := by decide +kernel
theorem dX2_getBrowner_19 : decode cX2_getBrowner 19 = .ok (.iload_n 2, 1) := by decide +kernel
theorem dX2_getBrowner_20 : decode cX2_getBrowner 20 = .ok (.iadd, 1) := by decide +kernel
theorem dX2_getBrowner_21 : decode cX2_getBrowner 21 = .ok (.istore_n 3, 1) := by decide +kernel
theorem dX2_getBrowner_22 : decode cX2_getBrowner 22 = .ok (.aload_n 0, 1) := by decide +kernel
theorem dX2_getBrowner_23 : decode cX2_getBrowner 23 = .ok (.getfield 9, 3) := by decide +kernel
theorem dX2_getBrowner_26 : decode cX2_getBrowner 26 = .ok (.iload_n 1, 1) := by decide +kernel
theorem dX2_getBrowner_27 : decode cX2_getBrowner 27 = .ok (.iload_n 3, 1) := by decide +kernel
theorem dX2_getBrowner_28 : decode cX2_getBrowner 28 = .ok (.bipush 99, 2) := by decide +kernel
theorem dX2_getBrowner_30 : decode cX2_getBrowner 30 = .ok (.if_icmp .le 8, 3) := by decide +kernel
theorem dX2_getBrowner_33 : decode cX2_getBrowner 33 = .ok (.bipush 99, 2) := by decide +kernel
theorem dX2_getBrowner_35 : decode cX2_getBrowner 35 = .ok (.goto 4, 3) := by decide +kernel
theorem dX2_getBrowner_38 : decode cX2_getBrowner 38 = .ok (.iload_n 3, 1) := by decide +kernel
theorem dX2_getBrowner_39 : decode cX2_getBrowner 39 = .ok (.iastore, 1) := by decide +kernel
theorem dX2_getBrowner_40 : decode cX2_getBrowner 40 = .ok (.return_, 1) := by decide +kernel
theorem dX2_drips_0 : decode cX2_drips 0 = .ok (.iload_n 1, 1) := by decide +kernel
theorem dX2_drips_1 : decode cX2_drips 1 = .ok (.iconst 2, 1) := by decide +kernel
theorem dX2_drips_2 : decode cX2_drips 2 = .ok (.if_icmp .lt 10, 3) := by decide +kernel
theorem dX2_drips_5 : decode cX2_drips 5 = .ok (.aload_n 0, 1) := by decide +kernel
theorem dX2_drips_6 : decode cX2_drips 6 = .ok (.getfield 25, 3) := by decide +kernel
theorem dX2_drips_9 : decode cX2_drips 9 = .ok (.ifCond .gt 5, 3) := by decide +kernel
theorem dX2_drips_12 : decode cX2_drips 12 = .ok (.iconst 0, 1) := by decide +kernel
theorem dX2_drips_13 : decode cX2_drips 13 = .ok (.ireturn, 1) := by decide +kernel
theorem dX2_drips_14 : decode cX2_drips 14 = .ok (.aload_n 0, 1) := by decide +kernel
theorem dX2_drips_15 : decode cX2_drips 15 = .ok (.dup, 1) := by decide +kernel
theorem dX2_drips_16 : decode cX2_drips 16 = .ok (.getfield 25, 3) := by decide +kernel
theorem dX2_drips_19 : decode cX2_drips 19 = .ok (.iconst 1, 1) := by decide +kernel
theorem dX2_drips_20 : decode cX2_drips 20 = .ok (.isub, 1) := by decide +kernel
theorem dX2_drips_21 : decode cX2_drips 21 = .ok (.putfield 25, 3) := by decide +kernel
theorem dX2_drips_24 : decode cX2_drips 24 = .ok (.iconst 1, 1) := by decide +kernel
theorem dX2_drips_25 : decode cX2_drips 25 = .ok (.ireturn, 1) := by decide +kernel
theorem dX2_turn_0 : decode cX2_turn 0 = .ok (.aload_n 0, 1) := by decide +kernel
theorem dX2_turn_1 : decode cX2_turn 1 = .ok (.aload_n 0, 1) := by decide +kernel
theorem dX2_turn_2 : decode cX2_turn 2 = .ok (.getfield 22, 3) := by decide +kernel
theorem dX2_turn_5 : decode cX2_turn 5 = .ok (.invokestatic 41, 3) := by decide +kernel
theorem dX2_turn_8 : decode cX2_turn 8 = .ok (.putfield 22, 3) := by decide +kernel
theorem dX2_turn_11 : decode cX2_turn 11 = .ok (.return_, 1) := by decide +kernel
theorem dX2_done_0 : decode cX2_done 0 = .ok (.aload_n 0, 1) := by decide +kernel
theorem dX2_done_1 : decode cX2_done 1 = .ok (.getfield 9, 3) := by decide +kernel
theorem dX2_done_4 : decode cX2_done 4 = .ok (.astore_n 1, 1) := by decide +kernel
theorem dX2_done_5 : decode cX2_done 5 = .ok (.aload_n 1, 1) := by decide +kernel
theorem dX2_done_6 : decode cX2_done 6 = .ok (.arraylength, 1) := by decide +kernel
theorem dX2_done_7 : decode cX2_done 7 = .ok (.istore_n 2, 1) := by decide +kernel
theorem dX2_done_8 : decode cX2_done 8 = .ok (.iconst 0, 1) := by decide +kernel
theorem dX2_done_9 : decode cX2_done 9 = .ok (.istore_n 3, 1) := by decide +kernel
theorem dX2_done_10 : decode cX2_done 10 = .ok (.iload_n 3, 1) := by decide +kernel
theorem dX2_done_11 : decode cX2_done 11 = .ok (.iload_n 2, 1) := by decide +kernel
theorem dX2_done_12 : decode cX2_done 12 = .ok (.if_icmp .ge 41, 3) := by decide +kernel
theorem dX2_done_15 : decode cX2_done 15 = .ok (.aload_n 1, 1) := by decide +kernel
theorem dX2_done_16 : decode cX2_done 16 = .ok (.iload_n 3, 1) := by decide +kernel
theorem dX2_done_17 : decode cX2_done 17 = .ok (.iaload, 1) := by decide +kernel
theorem dX2_done_18 : decode cX2_done 18 = .ok (.istore 4, 2) := by decide +kernel
theorem dX2_done_20 : decode cX2_done 20 = .ok (.iload 4, 2) := by decide +kernel
theorem dX2_done_22 : decode cX2_done 22 = .ok (.iconst 3, 1) := by decide +kernel
theorem dX2_done_23 : decode cX2_done 23 = .ok (.aload_n 0, 1) := by decide +kernel
theorem dX2_done_24 : decode cX2_done 24 = .ok (.getfield 19, 3) := by decide +kernel
theorem dX2_done_27 : decode cX2_done 27 = .ok (.imul, 1) := by decide +kernel
theorem dX2_done_28 : decode cX2_done 28 = .ok (.if_icmp .lt 17, 3) := by decide +kernel
theorem dX2_done_31 : decode cX2_done 31 = .ok (.iload 4, 2) := by decide +kernel
theorem dX2_done_33 : decode cX2_done 33 = .ok (.iconst 3, 1) := by decide +kernel
theorem dX2_done_34 : decode cX2_done 34 = .ok (.aload_n 0, 1) := by decide +kernel
theorem dX2_done_35 : decode cX2_done 35 = .ok (.getfield 19, 3) := by decide +kernel
theorem dX2_done_38 : decode cX2_done 38 = .ok (.imul, 1) := by decide +kernel
theorem dX2_done_39 : decode cX2_done 39 = .ok (.bipush 30, 2) := by decide +kernel
theorem dX2_done_41 : decode cX2_done 41 = .ok (.iadd, 1) := by decide +kernel
theorem dX2_done_42 : decode cX2_done 42 = .ok (.if_icmp .le 5, 3) := by decide +kernel
theorem dX2_done_45 : decode cX2_done 45 = .ok (.iconst 0, 1) := by decide +kernel
theorem dX2_done_46 : decode cX2_done 46 = .ok (.ireturn, 1) := by decide +kernel
theorem dX2_done_47 : decode cX2_done 47 = .ok (.iinc 3 1, 3) := by decide +kernel
theorem dX2_done_50 : decode cX2_done 50 = .ok (.goto (-40), 3) := by decide +kernel
theorem dX2_done_53 : decode cX2_done 53 = .ok (.iconst 1, 1) := by decide +kernel
theorem dX2_done_54 : decode cX2_done 54 = .ok (.ireturn, 1) := by decide +kernel
theorem dX2_burnt_0 : decode cX2_burnt 0 = .ok (.aload_n 0, 1) := by decide +kernel
theorem dX2_burnt_1 : decode cX2_burnt 1 = .ok (.getfield 9, 3) := by decide +kernel
theorem dX2_burnt_4 : decode cX2_burnt 4 = .ok (.astore_n 1, 1) := by decide +kernel
theorem dX2_burnt_5 : decode cX2_burnt 5 = .ok (.aload_n 1, 1) := by decide +kernel
theorem dX2_burnt_6 : decode cX2_burnt 6 = .ok (.arraylength, 1) := by decide +kernel
theorem dX2_burnt_7 : decode cX2_burnt 7 = .ok (.istore_n 2, 1) := by decide +kernel
theorem dX2_burnt_8 : decode cX2_burnt 8 = .ok (.iconst 0, 1) := by decide +kernel
theorem dX2_burnt_9 : decode cX2_burnt 9 = .ok (.istore_n 3, 1) := by decide +kernel
theorem dX2_burnt_10 : decode cX2_burnt 10 = .ok (.iload_n 3, 1) := by decide +kernel
theorem dX2_burnt_11 : decode cX2_burnt 11 = .ok (.iload_n 2, 1) := by decide +kernel
theorem dX2_burnt_12 : decode cX2_burnt 12 = .ok (.if_icmp .ge 30, 3) := by decide +kernel
theorem dX2_burnt_15 : decode cX2_burnt 15 = .ok (.aload_n 1, 1) := by decide +kernel
theorem dX2_burnt_16 : decode cX2_burnt 16 = .ok (.iload_n 3, 1) := by decide +kernel
theorem dX2_burnt_17 : decode cX2_burnt 17 = .ok (.iaload, 1) := by decide +kernel
theorem dX2_burnt_18 : decode cX2_burnt 18 = .ok (.istore 4, 2) := by decide +kernel
theorem dX2_burnt_20 : decode cX2_burnt 20 = .ok (.iload 4, 2) := by decide +kernel
theorem dX2_burnt_22 : decode cX2_burnt 22 = .ok (.iconst 3, 1) := by decide +kernel
theorem dX2_burnt_23 : decode cX2_burnt 23 = .ok (.aload_n 0, 1) := by decide +kernel
theorem dX2_burnt_24 : decode cX2_burnt 24 = .ok (.getfield 19, 3) := by decide +kernel
theorem dX2_burnt_27 : decode cX2_burnt 27 = .ok (.imul, 1) := by decide +kernel
theorem dX2_burnt_28 : decode cX2_burnt 28 = .ok (.bipush 30, 2) := by decide +kernel
theorem dX2_burnt_30 : decode cX2_burnt 30 = .ok (.iadd, 1) := by decide +kernel
theorem dX2_burnt_31 : decode cX2_burnt 31 = .ok (.if_icmp .le 5, 3) := by decide +kernel
theorem dX2_burnt_34 : decode cX2_burnt 34 = .ok (.iconst 1, 1) := by decide +kernel
theorem dX2_burnt_35 : decode cX2_burnt 35 = .ok (.ireturn, 1) := by decide +kernel
theorem dX2_burnt_36 : decode cX2_burnt 36 = .ok (.iinc 3 1, 3) := by decide +kernel
theorem dX2_burnt_39 : decode cX2_burnt 39 = .ok (.goto (-29), 3) := by decide +kernel
theorem dX2_burnt_42 : decode cX2_burnt 42 = .ok (.iconst 0, 1) := by decide +kernel
theorem dX2_burnt_43 : decode cX2_burnt 43 = .ok (.ireturn, 1) := by decide +kernel
theorem dX2_nextSide_0 : decode cX2_nextSide 0 = .ok (.iload_n 0, 1) := by decide +kernel
theorem dX2_nextSide_1 : decode cX2_nextSide 1 = .ok (.iconst 3, 1) := by decide +kernel
theorem dX2_nextSide_2 : decode cX2_nextSide 2 = .ok (.if_icmp .lt 7, 3) := by decide +kernel
theorem dX2_nextSide_5 : decode cX2_nextSide 5 = .ok (.iconst 0, 1) := by decide +kernel
theorem dX2_nextSide_6 : decode cX2_nextSide 6 = .ok (.goto 6, 3) := by decide +kernel
theorem dX2_nextSide_9 : decode cX2_nextSide 9 = .ok (.iload_n 0, 1) := by decide +kernel
theorem dX2_nextSide_10 : decode cX2_nextSide 10 = .ok (.iconst 1, 1) := by decide +kernel
theorem dX2_nextSide_11 : decode cX2_nextSide 11 = .ok (.iadd, 1) := by decide +kernel
theorem dX2_nextSide_12 : decode cX2_nextSide 12 = .ok (.ireturn, 1) := by decide +kernel
theorem dX2_sideBefore_0 : decode cX2_sideBefore 0 = .ok (.iload_n 0, 1) := by decide +kernel
theorem dX2_sideBefore_1 : decode cX2_sideBefore 1 = .ok (.ifCond .gt 7, 3) := by decide +kernel
theorem dX2_sideBefore_4 : decode cX2_sideBefore 4 = .ok (.iconst 3, 1) := by decide +kernel
theorem dX2_sideBefore_5 : decode cX2_sideBefore 5 = .ok (.goto 6, 3) := by decide +kernel
theorem dX2_sideBefore_8 : decode cX2_sideBefore 8 = .ok (.iload_n 0, 1) := by decide +kernel
theorem dX2_sideBefore_9 : decode cX2_sideBefore 9 = .ok (.iconst 1, 1) := by decide +kernel
theorem dX2_sideBefore_10 : decode cX2_sideBefore 10 = .ok (.isub, 1) := by decide +kernel
theorem dX2_sideBefore_11 : decode cX2_sideBefore 11 = .ok (.ireturn, 1) := by decide +kernel
theorem dX3_init_0 : decode cX3_init 0 = .ok (.aload_n 0, 1) := by decide +kernel
theorem dX3_init_1 : decode cX3_init 1 = .ok (.invokespecial 3, 3) := by decide +kernel
theorem dX3_init_4 : decode cX3_init 4 = .ok (.aload_n 0, 1) := by decide +kernel
theorem dX3_init_5 : decode cX3_init 5 = .ok (.iconst (-1), 1) := by decide +kernel
theorem dX3_init_6 : decode cX3_init 6 = .ok (.putfield 9, 3) := by decide +kernel
theorem dX3_init_9 : decode cX3_init 9 = .ok (.return_, 1) := by decide +kernel
theorem dX3_copyFrom_0 : decode cX3_copyFrom 0 = .ok (.aload_n 0, 1) := by decide +kernel
theorem dX3_copyFrom_1 : decode cX3_copyFrom 1 = .ok (.aload_n 1, 1) := by decide +kernel
theorem dX3_copyFrom_2 : decode cX3_copyFrom 2 = .ok (.getfield 15, 3) := by decide +kernel
theorem dX3_copyFrom_5 : decode cX3_copyFrom 5 = .ok (.putfield 15, 3) := by decide +kernel
theorem dX3_copyFrom_8 : decode cX3_copyFrom 8 = .ok (.aload_n 0, 1) := by decide +kernel
theorem dX3_copyFrom_9 : decode cX3_copyFrom 9 = .ok (.aload_n 1, 1) := by decide +kernel
theorem dX3_copyFrom_10 : decode cX3_copyFrom 10 = .ok (.getfield 18, 3) := by decide +kernel
theorem dX3_copyFrom_13 : decode cX3_copyFrom 13 = .ok (.putfield 18, 3) := by decide +kernel
theorem dX3_copyFrom_16 : decode cX3_copyFrom 16 = .ok (.aload_n 0, 1) := by decide +kernel
theorem dX3_copyFrom_17 : decode cX3_copyFrom 17 = .ok (.aload_n 1, 1) := by decide +kernel
theorem dX3_copyFrom_18 : decode cX3_copyFrom 18 = .ok (.getfield 21, 3) := by decide +kernel
theorem dX3_copyFrom_21 : decode cX3_copyFrom 21 = .ok (.putfield 21, 3) := by decide +kernel
theorem dX3_copyFrom_24 : decode cX3_copyFrom 24 = .ok (.aload_n 0, 1) := by decide +kernel
theorem dX3_copyFrom_25 : decode cX3_copyFrom 25 = .ok (.aload_n 1, 1) := by decide +kernel
theorem dX3_copyFrom_26 : decode cX3_copyFrom 26 = .ok (.getfield 24, 3) := by decide +kernel
theorem dX3_copyFrom_29 : decode cX3_copyFrom 29 = .ok (.putfield 24, 3) := by decide +kernel
theorem dX3_copyFrom_32 : decode cX3_copyFrom 32 = .ok (.aload_n 0, 1) := by decide +kernel
theorem dX3_copyFrom_33 : decode cX3_copyFrom 33 = .ok (.aload_n 1, 1) := by decide +kernel
theorem dX3_copyFrom_34 : decode cX3_copyFrom 34 = .ok (.getfield 27, 3) := by decide +kernel
theorem dX3_copyFrom_37 : decode cX3_copyFrom 37 = .ok (.putfield 27, 3) := by decide +kernel
theorem dX3_copyFrom_40 : decode cX3_copyFrom 40 = .ok (.aload_n 0, 1) := by decide +kernel
theorem dX3_copyFrom_41 : decode cX3_copyFrom 41 = .ok (.aload_n 1, 1) := by decide +kernel
theorem dX3_copyFrom_42 : decode cX3_copyFrom 42 = .ok (.getfield 9, 3) := by decide +kernel
theorem dX3_copyFrom_45 : decode cX3_copyFrom 45 = .ok (.putfield 9, 3) := by decide +kernel
theorem dX3_copyFrom_48 : decode cX3_copyFrom 48 = .ok (.return_, 1) := by decide +kernel
theorem dX3_countAnew_0 : decode cX3_countAnew 0 = .ok (.aload_n 0, 1) := by decide +kernel
theorem dX3_countAnew_1 : decode cX3_countAnew 1 = .ok (.iload_n 1, 1) := by decide +kernel
theorem dX3_countAnew_2 : decode cX3_countAnew 2 = .ok (.putfield 21, 3) := by decide +kernel
theorem dX3_countAnew_5 : decode cX3_countAnew 5 = .ok (.aload_n 0, 1) := by decide +kernel
theorem dX3_countAnew_6 : decode cX3_countAnew 6 = .ok (.iconst 0, 1) := by decide +kernel
theorem dX3_countAnew_7 : decode cX3_countAnew 7 = .ok (.putfield 24, 3) := by decide +kernel
theorem dX3_countAnew_10 : decode cX3_countAnew 10 = .ok (.return_, 1) := by decide +kernel
theorem dX3_countsToTurn_0 : decode cX3_countsToTurn 0 = .ok (.aload_n 0, 1) := by decide +kernel
theorem dX3_countsToTurn_1 : decode cX3_countsToTurn 1 = .ok (.dup, 1) := by decide +kernel
theorem dX3_countsToTurn_2 : decode cX3_countsToTurn 2 = .ok (.getfield 24, 3) := by decide +kernel
theorem dX3_countsToTurn_5 : decode cX3_countsToTurn 5 = .ok (.iconst 1, 1) := by decide +kernel
theorem dX3_countsToTurn_6 : decode cX3_countsToTurn 6 = .ok (.iadd, 1) := by decide +kernel
theorem dX3_countsToTurn_7 : decode cX3_countsToTurn 7 = .ok (.putfield 24, 3) := by decide +kernel
theorem dX3_countsToTurn_10 : decode cX3_countsToTurn 10 = .ok (.aload_n 0, 1) := by decide +kernel
theorem dX3_countsToTurn_11 : decode cX3_countsToTurn 11 = .ok (.getfield 21, 3) := by decide +kernel
theorem dX3_countsToTurn_14 : decode cX3_countsToTurn 14 = .ok (.ifCond .le 19, 3) := by decide +kernel
theorem dX3_countsToTurn_17 : decode cX3_countsToTurn 17 = .ok (.aload_n 0, 1) := by decide +kernel
theorem dX3_countsToTurn_18 : decode cX3_countsToTurn 18 = .ok (.getfield 24, 3) := by decide +kernel
theorem dX3_countsToTurn_21 : decode cX3_countsToTurn 21 = .ok (.aload_n 0, 1) := by decide +kernel
theorem dX3_countsToTurn_22 : decode cX3_countsToTurn 22 = .ok (.getfield 21, 3) := by decide +kernel
theorem dX3_countsToTurn_25 : decode cX3_countsToTurn 25 = .ok (.irem, 1) := by decide +kernel
theorem dX3_countsToTurn_26 : decode cX3_countsToTurn 26 = .ok (.ifCond .ne 7, 3) := by decide +kernel
theorem dX3_countsToTurn_29 : decode cX3_countsToTurn 29 = .ok (.iconst 1, 1) := by decide +kernel
theorem dX3_countsToTurn_30 : decode cX3_countsToTurn 30 = .ok (.goto 4, 3) := by decide +kernel
theorem dX3_countsToTurn_33 : decode cX3_countsToTurn 33 = .ok (.iconst 0, 1) := by decide +kernel
theorem dX3_countsToTurn_34 : decode cX3_countsToTurn 34 = .ok (.ireturn, 1) := by decide +kernel
theorem dX3_takesDripping_0 : decode cX3_takesDripping 0 = .ok (.aload_n 0, 1) := by decide +kernel
theorem dX3_takesDripping_1 : decode cX3_takesDripping 1 = .ok (.getfield 27, 3) := by decide +kernel
theorem dX3_takesDripping_4 : decode cX3_takesDripping 4 = .ok (.bipush 20, 2) := by decide +kernel
theorem dX3_takesDripping_6 : decode cX3_takesDripping 6 = .ok (.if_icmp .lt 5, 3) := by decide +kernel
theorem dX3_takesDripping_9 : decode cX3_takesDripping 9 = .ok (.iconst 0, 1) := by decide +kernel
theorem dX3_takesDripping_10 : decode cX3_takesDripping 10 = .ok (.ireturn, 1) := by decide +kernel
theorem dX3_takesDripping_11 : decode cX3_takesDripping 11 = .ok (.aload_n 0, 1) := by decide +kernel
theorem dX3_takesDripping_12 : decode cX3_takesDripping 12 = .ok (.dup, 1) := by decide +kernel
theorem dX3_takesDripping_13 : decode cX3_takesDripping 13 = .ok (.getfield 27, 3) := by decide +kernel
theorem dX3_takesDripping_16 : decode cX3_takesDripping 16 = .ok (.iconst 1, 1) := by decide +kernel
theorem dX3_takesDripping_17 : decode cX3_takesDripping 17 = .ok (.iadd, 1) := by decide +kernel
theorem dX3_takesDripping_18 : decode cX3_takesDripping 18 = .ok (.putfield 27, 3) := by decide +kernel
theorem dX3_takesDripping_21 : decode cX3_takesDripping 21 = .ok (.iconst 1, 1) := by decide +kernel
theorem dX3_takesDripping_22 : decode cX3_takesDripping 22 = .ok (.ireturn, 1) := by decide +kernel
theorem dX4_init_0 : decode cX4_init 0 = .ok (.aload_n 0, 1) := by decide +kernel
theorem dX4_init_1 : decode cX4_init 1 = .ok (.invokespecial 1, 3) := by decide +kernel
theorem dX4_init_4 : decode cX4_init 4 = .ok (.aload_n 0, 1) := by decide +kernel
theorem dX4_init_5 : decode cX4_init 5 = .ok (.new 7, 3) := by decide +kernel
theorem dX4_init_8 : decode cX4_init 8 = .ok (.dup, 1) := by decide +kernel
theorem dX4_init_9 : decode cX4_init 9 = .ok (.invokespecial 9, 3) := by decide +kernel
theorem dX4_init_12 : decode cX4_init 12 = .ok (.putfield 10, 3) := by decide +kernel
theorem dX4_init_15 : decode cX4_init 15 = .ok (.aload_n 0, 1) := by decide +kernel
theorem dX4_init_16 : decode cX4_init 16 = .ok (.new 7, 3) := by decide +kernel
theorem dX4_init_19 : decode cX4_init 19 = .ok (.dup, 1) := by decide +kernel
theorem dX4_init_20 : decode cX4_init 20 = .ok (.invokespecial 9, 3) := by decide +kernel
theorem dX4_init_23 : decode cX4_init 23 = .ok (.putfield 16, 3) := by decide +kernel
theorem dX4_init_26 : decode cX4_init 26 = .ok (.return_, 1) := by decide +kernel
theorem dX4_addFire_0 : decode cX4_addFire 0 = .ok (.aload_n 0, 1) := by decide +kernel
theorem dX4_addFire_1 : decode cX4_addFire 1 = .ok (.getfield 10, 3) := by decide +kernel
theorem dX4_addFire_4 : decode cX4_addFire 4 = .ok (.invokevirtual 19, 3) := by decide +kernel
theorem dX4_addFire_7 : decode cX4_addFire 7 = .ok (.istore_n 1, 1) := by decide +kernel
theorem dX4_addFire_8 : decode cX4_addFire 8 = .ok (.iload_n 1, 1) := by decide +kernel
theorem dX4_addFire_9 : decode cX4_addFire 9 = .ok (.iconst (-1), 1) := by decide +kernel
theorem dX4_addFire_10 : decode cX4_addFire 10 = .ok (.if_icmp .ne 13, 3) := by decide +kernel
theorem dX4_addFire_13 : decode cX4_addFire 13 = .ok (.new 23, 3) := by decide +kernel
theorem dX4_addFire_16 : decode cX4_addFire 16 = .ok (.dup, 1) := by decide +kernel
theorem dX4_addFire_17 : decode cX4_addFire 17 = .ok (.ldc 25, 2) := by decide +kernel
theorem dX4_addFire_19 : decode cX4_addFire 19 = .ok (.invokespecial 27, 3) := by decide +kernel
theorem dX4_addFire_22 : decode cX4_addFire 22 = .ok (.athrow, 1) := by decide +kernel
theorem dX4_addFire_23 : decode cX4_addFire 23 = .ok (.iload_n 1, 1) := by decide +kernel
theorem dX4_addFire_24 : decode cX4_addFire 24 = .ok (.ireturn, 1) := by decide +kernel
theorem dX4_layLogs_0 : decode cX4_layLogs 0 = .ok (.aload_n 0, 1) := by decide +kernel
theorem dX4_layLogs_1 : decode cX4_layLogs 1 = .ok (.iload_n 1, 1) := by decide +kernel
theorem dX4_layLogs_2 : decode cX4_layLogs 2 = .ok (.invokevirtual 30, 3) := by decide +kernel
theorem dX4_layLogs_5 : decode cX4_layLogs 5 = .ok (.astore_n 3, 1) := by decide +kernel
theorem dX4_layLogs_6 : decode cX4_layLogs 6 = .ok (.iload_n 2, 1) := by decide +kernel
theorem dX4_layLogs_7 : decode cX4_layLogs 7 = .ok (.iconst 1, 1) := by decide +kernel
theorem dX4_layLogs_8 : decode cX4_layLogs 8 = .ok (.if_icmp .lt 9, 3) := by decide +kernel
theorem dX4_layLogs_11 : decode cX4_layLogs 11 = .ok (.iload_n 2, 1) := by decide +kernel
theorem dX4_layLogs_12 : decode cX4_layLogs 12 = .ok (.bipush 40, 2) := by decide +kernel
theorem dX4_layLogs_14 : decode cX4_layLogs 14 = .ok (.if_icmp .le 13, 3) := by decide +kernel
theorem dX4_layLogs_17 : decode cX4_layLogs 17 = .ok (.new 34, 3) := by decide +kernel
theorem dX4_layLogs_20 : decode cX4_layLogs 20 = .ok (.dup, 1) := by decide +kernel
theorem dX4_layLogs_21 : decode cX4_layLogs 21 = .ok (.ldc 36, 2) := by decide +kernel
theorem dX4_layLogs_23 : decode cX4_layLogs 23 = .ok (.invokespecial 38, 3) := by decide +kernel
theorem dX4_layLogs_26 : decode cX4_layLogs 26 = .ok (.athrow, 1) := by decide +kernel
theorem dX4_layLogs_27 : decode cX4_layLogs 27 = .ok (.aload_n 3, 1) := by decide +kernel
theorem dX4_layLogs_28 : decode cX4_layLogs 28 = .ok (.bipush 40, 2) := by decide +kernel
theorem dX4_layLogs_30 : decode cX4_layLogs 30 = .ok (.aload_n 3, 1) := by decide +kernel
theorem dX4_layLogs_31 : decode cX4_layLogs 31 = .ok (.getfield 39, 3) := by decide +kernel
theorem dX4_layLogs_34 : decode cX4_layLogs 34 = .ok (.iload_n 2, 1) := by decide +kernel
theorem dX4_layLogs_35 : decode cX4_layLogs 35 = .ok (.iadd, 1) := by decide +kernel
theorem dX4_layLogs_36 : decode cX4_layLogs 36 = .ok (.invokestatic 45, 3) := by decide +kernel
theorem dX4_layLogs_39 : decode cX4_layLogs 39 = .ok (.putfield 39, 3) := by decide +kernel
theorem dX4_layLogs_42 : decode cX4_layLogs 42 = .ok (.aload_n 3, 1) := by decide +kernel
theorem dX4_layLogs_43 : decode cX4_layLogs 43 = .ok (.getfield 39, 3) := by decide +kernel
theorem dX4_layLogs_46 : decode cX4_layLogs 46 = .ok (.ireturn, 1) := by decide +kernel
theorem dX4_addSpit_0 : decode cX4_addSpit 0 = .ok (.aload_n 0, 1) := by decide +kernel
theorem dX4_addSpit_1 : decode cX4_addSpit 1 = .ok (.iload_n 1, 1) := by decide +kernel
theorem dX4_addSpit_2 : decode cX4_addSpit 2 = .ok (.invokevirtual 30, 3) := by decide +kernel
theorem dX4_addSpit_5 : decode cX4_addSpit 5 = .ok (.pop, 1) := by decide +kernel
theorem dX4_addSpit_6 : decode cX4_addSpit 6 = .ok (.iload_n 2, 1) := by decide +kernel
theorem dX4_addSpit_7 : decode cX4_addSpit 7 = .ok (.invokestatic 51, 3) := by decide +kernel
theorem dX4_addSpit_10 : decode cX4_addSpit 10 = .ok (.aload_n 0, 1) := by decide +kernel
theorem dX4_addSpit_11 : decode cX4_addSpit 11 = .ok (.getfield 10, 3) := by decide +kernel
theorem dX4_addSpit_14 : decode cX4_addSpit 14 = .ok (.iload_n 1, 1) := by decide +kernel
theorem dX4_addSpit_15 : decode cX4_addSpit 15 = .ok (.iload_n 2, 1) := by decide +kernel
theorem dX4_addSpit_16 : decode cX4_addSpit 16 = .ok (.invokevirtual 55, 3) := by decide +kernel
theorem dX4_addSpit_19 : decode cX4_addSpit 19 = .ok (.istore_n 3, 1) := by decide +kernel
theorem dX4_addSpit_20 : decode cX4_addSpit 20 = .ok (.iload_n 3, 1) := by decide +kernel
theorem dX4_addSpit_21 : decode cX4_addSpit 21 = .ok (.iconst (-1), 1) := by decide +kernel
theorem dX4_addSpit_22 : decode cX4_addSpit 22 = .ok (.if_icmp .ne 13, 3) := by decide +kernel
theorem dX4_addSpit_25 : decode cX4_addSpit 25 = .ok (.new 23, 3) := by decide +kernel
theorem dX4_addSpit_28 : decode cX4_addSpit 28 = .ok (.dup, 1) := by decide +kernel
theorem dX4_addSpit_29 : decode cX4_addSpit 29 = .ok (.ldc 58, 2) := by decide +kernel
theorem dX4_addSpit_31 : decode cX4_addSpit 31 = .ok (.invokespecial 27, 3) := by decide +kernel
theorem dX4_addSpit_34 : decode cX4_addSpit 34 = .ok (.athrow, 1) := by decide +kernel
theorem dX4_addSpit_35 : decode cX4_addSpit 35 = .ok (.iload_n 3, 1) := by decide +kernel
theorem dX4_addSpit_36 : decode cX4_addSpit 36 = .ok (.ireturn, 1) := by decide +kernel
theorem dX4_moveSpit_0 : decode cX4_moveSpit 0 = .ok (.aload_n 0, 1) := by decide +kernel
theorem dX4_moveSpit_1 : decode cX4_moveSpit 1 = .ok (.iload_n 1, 1) := by decide +kernel
theorem dX4_moveSpit_2 : decode cX4_moveSpit 2 = .ok (.invokevirtual 60, 3) := by decide +kernel
theorem dX4_moveSpit_5 : decode cX4_moveSpit 5 = .ok (.astore_n 3, 1) := by decide +kernel
theorem dX4_moveSpit_6 : decode cX4_moveSpit 6 = .ok (.iload_n 2, 1) := by decide +kernel
theorem dX4_moveSpit_7 : decode cX4_moveSpit 7 = .ok (.invokestatic 51, 3) := by decide +kernel
theorem dX4_moveSpit_10 : decode cX4_moveSpit 10 = .ok (.aload_n 3, 1) := by decide +kernel
theorem dX4_moveSpit_11 : decode cX4_moveSpit 11 = .ok (.getfield 64, 3) := by decide +kernel
theorem dX4_moveSpit_14 : decode cX4_moveSpit 14 = .ok (.istore 4, 2) := by decide +kernel
theorem dX4_moveSpit_16 : decode cX4_moveSpit 16 = .ok (.aload_n 3, 1) := by decide +kernel
theorem dX4_moveSpit_17 : decode cX4_moveSpit 17 = .ok (.iload_n 2, 1) := by decide +kernel
theorem dX4_moveSpit_18 : decode cX4_moveSpit 18 = .ok (.putfield 64, 3) := by decide +kernel
theorem dX4_moveSpit_21 : decode cX4_moveSpit 21 = .ok (.iload 4, 2) := by decide +kernel
theorem dX4_moveSpit_23 : decode cX4_moveSpit 23 = .ok (.ireturn, 1) := by decide +kernel
theorem dX4_turnEach_0 : decode cX4_turnEach 0 = .ok (.aload_n 0, 1) := by decide +kernel
theorem dX4_turnEach_1 : decode cX4_turnEach 1 = .ok (.iload_n 1, 1) := by decide +kernel
theorem dX4_turnEach_2 : decode cX4_turnEach 2 = .ok (.invokevirtual 60, 3) := by decide +kernel
theorem dX4_turnEach_5 : decode cX4_turnEach 5 = .ok (.astore_n 3, 1) := by decide +kernel
theorem dX4_turnEach_6 : decode cX4_turnEach 6 = .ok (.iload_n 2, 1) := by decide +kernel
theorem dX4_turnEach_7 : decode cX4_turnEach 7 = .ok (.ifCond .lt 9, 3) := by decide +kernel
theorem dX4_turnEach_10 : decode cX4_turnEach 10 = .ok (.iload_n 2, 1) := by decide +kernel
theorem dX4_turnEach_11 : decode cX4_turnEach 11 = .ok (.bipush 9, 2) := by decide +kernel
theorem dX4_turnEach_13 : decode cX4_turnEach 13 = .ok (.if_icmp .le 13, 3) := by decide +kernel
theorem dX4_turnEach_16 : decode cX4_turnEach 16 = .ok (.new 34, 3) := by decide +kernel
theorem dX4_turnEach_19 : decode cX4_turnEach 19 = .ok (.dup, 1) := by decide +kernel
theorem dX4_turnEach_20 : decode cX4_turnEach 20 = .ok (.ldc 69, 2) := by decide +kernel
theorem dX4_turnEach_22 : decode cX4_turnEach 22 = .ok (.invokespecial 38, 3) := by decide +kernel
theorem dX4_turnEach_25 : decode cX4_turnEach 25 = .ok (.athrow, 1) := by decide +kernel
theorem dX4_turnEach_26 : decode cX4_turnEach 26 = .ok (.aload_n 3, 1) := by decide +kernel
theorem dX4_turnEach_27 : decode cX4_turnEach 27 = .ok (.getfield 71, 3) := by decide +kernel
theorem dX4_turnEach_30 : decode cX4_turnEach 30 = .ok (.istore 4, 2) := by decide +kernel
theorem dX4_turnEach_32 : decode cX4_turnEach 32 = .ok (.aload_n 3, 1) := by decide +kernel
theorem dX4_turnEach_33 : decode cX4_turnEach 33 = .ok (.iload_n 2, 1) := by decide +kernel
theorem dX4_turnEach_34 : decode cX4_turnEach 34 = .ok (.invokevirtual 74, 3) := by decide +kernel
theorem dX4_turnEach_37 : decode cX4_turnEach 37 = .ok (.iload 4, 2) := by decide +kernel
theorem dX4_turnEach_39 : decode cX4_turnEach 39 = .ok (.ireturn, 1) := by decide +kernel
theorem dX4_setFeast_0 : decode cX4_setFeast 0 = .ok (.iload_n 1, 1) := by decide +kernel
theorem dX4_setFeast_1 : decode cX4_setFeast 1 = .ok (.ifCond .lt 10, 3) := by decide +kernel
theorem dX4_setFeast_4 : decode cX4_setFeast 4 = .ok (.iload_n 1, 1) := by decide +kernel
theorem dX4_setFeast_5 : decode cX4_setFeast 5 = .ok (.sipush 5000, 3) := by decide +kernel
theorem dX4_setFeast_8 : decode cX4_setFeast 8 = .ok (.if_icmp .le 13, 3) := by decide +kernel
theorem dX4_setFeast_11 : decode cX4_setFeast 11 = .ok (.new 34, 3) := by decide +kernel
theorem dX4_setFeast_14 : decode cX4_setFeast 14 = .ok (.dup, 1) := by decide +kernel
theorem dX4_setFeast_15 : decode cX4_setFeast 15 = .ok (.ldc 77, 2) := by decide +kernel
theorem dX4_setFeast_17 : decode cX4_setFeast 17 = .ok (.invokespecial 38, 3) := by decide +kernel
theorem dX4_setFeast_20 : decode cX4_setFeast 20 = .ok (.athrow, 1) := by decide +kernel
theorem dX4_setFeast_21 : decode cX4_setFeast 21 = .ok (.aload_n 0, 1) := by decide +kernel
theorem dX4_setFeast_22 : decode cX4_setFeast 22 = .ok (.getfield 10, 3) := by decide +kernel
theorem dX4_setFeast_25 : decode cX4_setFeast 25 = .ok (.getfield 79, 3) := by decide +kernel
theorem dX4_setFeast_28 : decode cX4_setFeast 28 = .ok (.istore_n 2, 1) := by decide +kernel
theorem dX4_setFeast_29 : decode cX4_setFeast 29 = .ok (.aload_n 0, 1) := by decide +kernel
theorem dX4_setFeast_30 : decode cX4_setFeast 30 = .ok (.getfield 10, 3) := by decide +kernel
theorem dX4_setFeast_33 : decode cX4_setFeast 33 = .ok (.iload_n 1, 1) := by decide +kernel
theorem dX4_setFeast_34 : decode cX4_setFeast 34 = .ok (.putfield 79, 3) := by decide +kernel
theorem dX4_setFeast_37 : decode cX4_setFeast 37 = .ok (.iload_n 2, 1) := by decide +kernel
theorem dX4_setFeast_38 : decode cX4_setFeast 38 = .ok (.ireturn, 1) := by decide +kernel
theorem dX4_hang_0 : decode cX4_hang 0 = .ok (.aload_n 0, 1) := by decide +kernel
theorem dX4_hang_1 : decode cX4_hang 1 = .ok (.iload_n 1, 1) := by decide +kernel
theorem dX4_hang_2 : decode cX4_hang 2 = .ok (.invokevirtual 60, 3) := by decide +kernel
theorem dX4_hang_5 : decode cX4_hang 5 = .ok (.pop, 1) := by decide +kernel
theorem dX4_hang_6 : decode cX4_hang 6 = .ok (.iload_n 2, 1) := by decide +kernel
theorem dX4_hang_7 : decode cX4_hang 7 = .ok (.invokestatic 82, 3) := by decide +kernel
theorem dX4_hang_10 : decode cX4_hang 10 = .ok (.aload_n 0, 1) := by decide +kernel
theorem dX4_hang_11 : decode cX4_hang 11 = .ok (.getfield 10, 3) := by decide +kernel
theorem dX4_hang_14 : decode cX4_hang 14 = .ok (.iload_n 1, 1) := by decide +kernel
theorem dX4_hang_15 : decode cX4_hang 15 = .ok (.iload_n 2, 1) := by decide +kernel
theorem dX4_hang_16 : decode cX4_hang 16 = .ok (.invokevirtual 85, 3) := by decide +kernel
theorem dX4_hang_19 : decode cX4_hang 19 = .ok (.istore_n 3, 1) := by decide +kernel
theorem dX4_hang_20 : decode cX4_hang 20 = .ok (.iload_n 3, 1) := by decide +kernel
theorem dX4_hang_21 : decode cX4_hang 21 = .ok (.iconst (-1), 1) := by decide +kernel
theorem dX4_hang_22 : decode cX4_hang 22 = .ok (.if_icmp .ne 13, 3) := by decide +kernel
theorem dX4_hang_25 : decode cX4_hang 25 = .ok (.new 23, 3) := by decide +kernel
theorem dX4_hang_28 : decode cX4_hang 28 = .ok (.dup, 1) := by decide +kernel
theorem dX4_hang_29 : decode cX4_hang 29 = .ok (.ldc 88, 2) := by decide +kernel
theorem dX4_hang_31 : decode cX4_hang 31 = .ok (.invokespecial 27, 3) := by decide +kernel
theorem dX4_hang_34 : decode cX4_hang 34 = .ok (.athrow, 1) := by decide +kernel
theorem dX4_hang_35 : decode cX4_hang 35 = .ok (.iload_n 3, 1) := by decide +kernel
theorem dX4_hang_36 : decode cX4_hang 36 = .ok (.ireturn, 1) := by decide +kernel
theorem dX4_turnNow_0 : decode cX4_turnNow 0 = .ok (.aload_n 0, 1) := by decide +kernel
theorem dX4_turnNow_1 : decode cX4_turnNow 1 = .ok (.aload_n 0, 1) := by decide +kernel
theorem dX4_turnNow_2 : decode cX4_turnNow 2 = .ok (.iload_n 1, 1) := by decide +kernel
theorem dX4_turnNow_3 : decode cX4_turnNow 3 = .ok (.invokevirtual 60, 3) := by decide +kernel
theorem dX4_turnNow_6 : decode cX4_turnNow 6 = .ok (.invokevirtual 90, 3) := by decide +kernel
theorem dX4_turnNow_9 : decode cX4_turnNow 9 = .ok (.astore_n 2, 1) := by decide +kernel
theorem dX4_turnNow_10 : decode cX4_turnNow 10 = .ok (.aload_n 2, 1) := by decide +kernel
theorem dX4_turnNow_11 : decode cX4_turnNow 11 = .ok (.invokevirtual 94, 3) := by decide +kernel
theorem dX4_turnNow_14 : decode cX4_turnNow 14 = .ok (.aload_n 2, 1) := by decide +kernel
theorem dX4_turnNow_15 : decode cX4_turnNow 15 = .ok (.getfield 99, 3) := by decide +kernel
theorem dX4_turnNow_18 : decode cX4_turnNow 18 = .ok (.ireturn, 1) := by decide +kernel
theorem dX4_baste_0 : decode cX4_baste 0 = .ok (.aload_n 0, 1) := by decide +kernel
theorem dX4_baste_1 : decode cX4_baste 1 = .ok (.iload_n 1, 1) := by decide +kernel
theorem dX4_baste_2 : decode cX4_baste 2 = .ok (.invokevirtual 60, 3) := by decide +kernel
theorem dX4_baste_5 : decode cX4_baste 5 = .ok (.astore_n 2, 1) := by decide +kernel
theorem dX4_baste_6 : decode cX4_baste 6 = .ok (.aload_n 0, 1) := by decide +kernel
theorem dX4_baste_7 : decode cX4_baste 7 = .ok (.aload_n 2, 1) := by decide +kernel
theorem dX4_baste_8 : decode cX4_baste 8 = .ok (.invokevirtual 90, 3) := by decide +kernel
theorem dX4_baste_11 : decode cX4_baste 11 = .ok (.astore_n 3, 1) := by decide +kernel
theorem dX4_baste_12 : decode cX4_baste 12 = .ok (.aload_n 2, 1) := by decide +kernel
theorem dX4_baste_13 : decode cX4_baste 13 = .ok (.getfield 102, 3) := by decide +kernel
theorem dX4_baste_16 : decode cX4_baste 16 = .ok (.iconst 2, 1) := by decide +kernel
theorem dX4_baste_17 : decode cX4_baste 17 = .ok (.if_icmp .ge 13, 3) := by decide +kernel
theorem dX4_baste_20 : decode cX4_baste 20 = .ok (.new 23, 3) := by decide +kernel
theorem dX4_baste_23 : decode cX4_baste 23 = .ok (.dup, 1) := by decide +kernel
theorem dX4_baste_24 : decode cX4_baste 24 = .ok (.ldc 105, 2) := by decide +kernel
theorem dX4_baste_26 : decode cX4_baste 26 = .ok (.invokespecial 27, 3) := by decide +kernel
theorem dX4_baste_29 : decode cX4_baste 29 = .ok (.athrow, 1) := by decide +kernel
theorem dX4_baste_30 : decode cX4_baste 30 = .ok (.aload_n 2, 1) := by decide +kernel
theorem dX4_baste_31 : decode cX4_baste 31 = .ok (.dup, 1) := by decide +kernel
theorem dX4_baste_32 : decode cX4_baste 32 = .ok (.getfield 102, 3) := by decide +kernel
theorem dX4_baste_35 : decode cX4_baste 35 = .ok (.iconst 2, 1) := by decide +kernel
theorem dX4_baste_36 : decode cX4_baste 36 = .ok (.isub, 1) := by decide +kernel
theorem dX4_baste_37 : decode cX4_baste 37 = .ok (.putfield 102, 3) := by decide +kernel
theorem dX4_baste_40 : decode cX4_baste 40 = .ok (.aload_n 3, 1) := by decide +kernel
theorem dX4_baste_41 : decode cX4_baste 41 = .ok (.iconst 3, 1) := by decide +kernel
theorem dX4_baste_42 : decode cX4_baste 42 = .ok (.putfield 107, 3) := by decide +kernel
theorem dX4_baste_45 : decode cX4_baste 45 = .ok (.aload_n 2, 1) := by decide +kernel
theorem dX4_baste_46 : decode cX4_baste 46 = .ok (.getfield 102, 3) := by decide +kernel
theorem dX4_baste_49 : decode cX4_baste 49 = .ok (.ireturn, 1) := by decide +kernel
theorem dX4_takeDown_0 : decode cX4_takeDown 0 = .ok (.aload_n 0, 1) := by decide +kernel
theorem dX4_takeDown_1 : decode cX4_takeDown 1 = .ok (.iload_n 1, 1) := by decide +kernel
theorem dX4_takeDown_2 : decode cX4_takeDown 2 = .ok (.invokevirtual 60, 3) := by decide +kernel
theorem dX4_takeDown_5 : decode cX4_takeDown 5 = .ok (.astore_n 2, 1) := by decide +kernel
theorem dX4_takeDown_6 : decode cX4_takeDown 6 = .ok (.aload_n 0, 1) := by decide +kernel
theorem dX4_takeDown_7 : decode cX4_takeDown 7 = .ok (.aload_n 2, 1) := by decide +kernel
theorem dX4_takeDown_8 : decode cX4_takeDown 8 = .ok (.invokevirtual 90, 3) := by decide +kernel
theorem dX4_takeDown_11 : decode cX4_takeDown 11 = .ok (.astore_n 3, 1) := by decide +kernel
theorem dX4_takeDown_12 : decode cX4_takeDown 12 = .ok (.aload_n 2, 1) := by decide +kernel
theorem dX4_takeDown_13 : decode cX4_takeDown 13 = .ok (.getfield 110, 3) := by decide +kernel
theorem dX4_takeDown_16 : decode cX4_takeDown 16 = .ok (.istore 4, 2) := by decide +kernel
theorem dX4_takeDown_18 : decode cX4_takeDown 18 = .ok (.aload_n 3, 1) := by decide +kernel
theorem dX4_takeDown_19 : decode cX4_takeDown 19 = .ok (.iconst (-1), 1) := by decide +kernel
theorem dX4_takeDown_20 : decode cX4_takeDown 20 = .ok (.putfield 113, 3) := by decide +kernel
theorem dX4_takeDown_23 : decode cX4_takeDown 23 = .ok (.aload_n 2, 1) := by decide +kernel
theorem dX4_takeDown_24 : decode cX4_takeDown 24 = .ok (.iconst (-1), 1) := by decide +kernel
theorem dX4_takeDown_25 : decode cX4_takeDown 25 = .ok (.putfield 110, 3) := by decide +kernel
theorem dX4_takeDown_28 : decode cX4_takeDown 28 = .ok (.iload 4, 2) := by decide +kernel
theorem dX4_takeDown_30 : decode cX4_takeDown 30 = .ok (.ireturn, 1) := by decide +kernel
theorem dX4_emptyPan_0 : decode cX4_emptyPan 0 = .ok (.aload_n 0, 1) := by decide +kernel
theorem dX4_emptyPan_1 : decode cX4_emptyPan 1 = .ok (.iload_n 1, 1) := by decide +kernel
theorem dX4_emptyPan_2 : decode cX4_emptyPan 2 = .ok (.invokevirtual 60, 3) := by decide +kernel
theorem dX4_emptyPan_5 : decode cX4_emptyPan 5 = .ok (.astore_n 2, 1) := by decide +kernel
theorem dX4_emptyPan_6 : decode cX4_emptyPan 6 = .ok (.aload_n 2, 1) := by decide +kernel
theorem dX4_emptyPan_7 : decode cX4_emptyPan 7 = .ok (.getfield 102, 3) := by decide +kernel
theorem dX4_emptyPan_10 : decode cX4_emptyPan 10 = .ok (.istore_n 3, 1) := by decide +kernel
theorem dX4_emptyPan_11 : decode cX4_emptyPan 11 = .ok (.aload_n 2, 1) := by decide +kernel
theorem dX4_emptyPan_12 : decode cX4_emptyPan 12 = .ok (.iconst 0, 1) := by decide +kernel
theorem dX4_emptyPan_13 : decode cX4_emptyPan 13 = .ok (.putfield 102, 3) := by decide +kernel
theorem dX4_emptyPan_16 : decode cX4_emptyPan 16 = .ok (.iload_n 3, 1) := by decide +kernel
theorem dX4_emptyPan_17 : decode cX4_emptyPan 17 = .ok (.ireturn, 1) := by decide +kernel
theorem dX4_pass_0 : decode cX4_pass 0 = .ok (.iload_n 1, 1) := by decide +kernel
theorem dX4_pass_1 : decode cX4_pass 1 = .ok (.iconst 1, 1) := by decide +kernel
theorem dX4_pass_2 : decode cX4_pass 2 = .ok (.if_icmp .lt 10, 3) := by decide +kernel
theorem dX4_pass_5 : decode cX4_pass 5 = .ok (.iload_n 1, 1) := by decide +kernel
theorem dX4_pass_6 : decode cX4_pass 6 = .ok (.sipush 200, 3) := by decide +kernel
theorem dX4_pass_9 : decode cX4_pass 9 = .ok (.if_icmp .le 13, 3) := by decide +kernel
theorem dX4_pass_12 : decode cX4_pass 12 = .ok (.new 34, 3) := by decide +kernel
theorem dX4_pass_15 : decode cX4_pass 15 = .ok (.dup, 1) := by decide +kernel
theorem dX4_pass_16 : decode cX4_pass 16 = .ok (.ldc 116, 2) := by decide +kernel
theorem dX4_pass_18 : decode cX4_pass 18 = .ok (.invokespecial 38, 3) := by decide +kernel
theorem dX4_pass_21 : decode cX4_pass 21 = .ok (.athrow, 1) := by decide +kernel
theorem dX4_pass_22 : decode cX4_pass 22 = .ok (.aload_n 0, 1) := by decide +kernel
theorem dX4_pass_23 : decode cX4_pass 23 = .ok (.getfield 10, 3) := by decide +kernel
theorem dX4_pass_26 : decode cX4_pass 26 = .ok (.iload_n 1, 1) := by decide +kernel
theorem dX4_pass_27 : decode cX4_pass 27 = .ok (.invokevirtual 118, 3) := by decide +kernel
theorem dX4_pass_30 : decode cX4_pass 30 = .ok (.ireturn, 1) := by decide +kernel
theorem dX4_minute_0 : decode cX4_minute 0 = .ok (.aload_n 0, 1) := by decide +kernel
theorem dX4_minute_1 : decode cX4_minute 1 = .ok (.getfield 10, 3) := by decide +kernel
theorem dX4_minute_4 : decode cX4_minute 4 = .ok (.getfield 122, 3) := by decide +kernel
theorem dX4_minute_7 : decode cX4_minute 7 = .ok (.ireturn, 1) := by decide +kernel
theorem dX4_feast_0 : decode cX4_feast 0 = .ok (.aload_n 0, 1) := by decide +kernel
theorem dX4_feast_1 : decode cX4_feast 1 = .ok (.getfield 10, 3) := by decide +kernel
theorem dX4_feast_4 : decode cX4_feast 4 = .ok (.getfield 79, 3) := by decide +kernel
theorem dX4_feast_7 : decode cX4_feast 7 = .ok (.ireturn, 1) := by decide +kernel
theorem dX4_fires_0 : decode cX4_fires 0 = .ok (.aload_n 0, 1) := by decide +kernel
theorem dX4_fires_1 : decode cX4_fires 1 = .ok (.getfield 10, 3) := by decide +kernel
theorem dX4_fires_4 : decode cX4_fires 4 = .ok (.getfield 125, 3) := by decide +kernel
theorem dX4_fires_7 : decode cX4_fires 7 = .ok (.ireturn, 1) := by decide +kernel
theorem dX4_logsOf_0 : decode cX4_logsOf 0 = .ok (.aload_n 0, 1) := by decide +kernel
theorem dX4_logsOf_1 : decode cX4_logsOf 1 = .ok (.iload_n 1, 1) := by decide +kernel
theorem dX4_logsOf_2 : decode cX4_logsOf 2 = .ok (.invokevirtual 30, 3) := by decide +kernel
theorem dX4_logsOf_5 : decode cX4_logsOf 5 = .ok (.getfield 39, 3) := by decide +kernel
theorem dX4_logsOf_8 : decode cX4_logsOf 8 = .ok (.ireturn, 1) := by decide +kernel
theorem dX4_heatOf_0 : decode cX4_heatOf 0 = .ok (.aload_n 0, 1) := by decide +kernel
theorem dX4_heatOf_1 : decode cX4_heatOf 1 = .ok (.iload_n 1, 1) := by decide +kernel
theorem dX4_heatOf_2 : decode cX4_heatOf 2 = .ok (.invokevirtual 30, 3) := by decide +kernel
theorem dX4_heatOf_5 : decode cX4_heatOf 5 = .ok (.getfield 128, 3) := by decide +kernel
theorem dX4_heatOf_8 : decode cX4_heatOf 8 = .ok (.ireturn, 1) := by decide +kernel
theorem dX4_spits_0 : decode cX4_spits 0 = .ok (.aload_n 0, 1) := by decide +kernel
theorem dX4_spits_1 : decode cX4_spits 1 = .ok (.getfield 10, 3) := by decide +kernel
theorem dX4_spits_4 : decode cX4_spits 4 = .ok (.getfield 131, 3) := by decide +kernel
theorem dX4_spits_7 : decode cX4_spits 7 = .ok (.ireturn, 1) := by decide +kernel
theorem dX4_fireOf_0 : decode cX4_fireOf 0 = .ok (.aload_n 0, 1) := by decide +kernel
theorem dX4_fireOf_1 : decode cX4_fireOf 1 = .ok (.iload_n 1, 1) := by decide +kernel
theorem dX4_fireOf_2 : decode cX4_fireOf 2 = .ok (.invokevirtual 60, 3) := by decide +kernel
theorem dX4_fireOf_5 : decode cX4_fireOf 5 = .ok (.getfield 134, 3) := by decide +kernel
theorem dX4_fireOf_8 : decode cX4_fireOf 8 = .ok (.ireturn, 1) := by decide +kernel
theorem dX4_feetOf_0 : decode cX4_feetOf 0 = .ok (.aload_n 0, 1) := by decide +kernel
theorem dX4_feetOf_1 : decode cX4_feetOf 1 = .ok (.iload_n 1, 1) := by decide +kernel
theorem dX4_feetOf_2 : decode cX4_feetOf 2 = .ok (.invokevirtual 60, 3) := by decide +kernel
theorem dX4_feetOf_5 : decode cX4_feetOf 5 = .ok (.getfield 64, 3) := by decide +kernel
theorem dX4_feetOf_8 : decode cX4_feetOf 8 = .ok (.ireturn, 1) := by decide +kernel
theorem dX4_glowAt_0 : decode cX4_glowAt 0 = .ok (.aload_n 0, 1) := by decide +kernel
theorem dX4_glowAt_1 : decode cX4_glowAt 1 = .ok (.getfield 10, 3) := by decide +kernel
theorem dX4_glowAt_4 : decode cX4_glowAt 4 = .ok (.aload_n 0, 1) := by decide +kernel
theorem dX4_glowAt_5 : decode cX4_glowAt 5 = .ok (.iload_n 1, 1) := by decide +kernel
theorem dX4_glowAt_6 : decode cX4_glowAt 6 = .ok (.invokevirtual 60, 3) := by decide +kernel
theorem dX4_glowAt_9 : decode cX4_glowAt 9 = .ok (.invokevirtual 137, 3) := by decide +kernel
theorem dX4_glowAt_12 : decode cX4_glowAt 12 = .ok (.ireturn, 1) := by decide +kernel
theorem dX4_turnedEach_0 : decode cX4_turnedEach 0 = .ok (.aload_n 0, 1) := by decide +kernel
theorem dX4_turnedEach_1 : decode cX4_turnedEach 1 = .ok (.iload_n 1, 1) := by decide +kernel
theorem dX4_turnedEach_2 : decode cX4_turnedEach 2 = .ok (.invokevirtual 60, 3) := by decide +kernel
theorem dX4_turnedEach_5 : decode cX4_turnedEach 5 = .ok (.getfield 71, 3) := by decide +kernel
theorem dX4_turnedEach_8 : decode cX4_turnedEach 8 = .ok (.ireturn, 1) := by decide +kernel
theorem dX4_drippingsOf_0 : decode cX4_drippingsOf 0 = .ok (.aload_n 0, 1) := by decide +kernel
theorem dX4_drippingsOf_1 : decode cX4_drippingsOf 1 = .ok (.iload_n 1, 1) := by decide +kernel
theorem dX4_drippingsOf_2 : decode cX4_drippingsOf 2 = .ok (.invokevirtual 60, 3) := by decide +kernel
theorem dX4_drippingsOf_5 : decode cX4_drippingsOf 5 = .ok (.getfield 102, 3) := by decide +kernel
theorem dX4_drippingsOf_8 : decode cX4_drippingsOf 8 = .ok (.ireturn, 1) := by decide +kernel
theorem dX4_roastOn_0 : decode cX4_roastOn 0 = .ok (.aload_n 0, 1) := by decide +kernel
theorem dX4_roastOn_1 : decode cX4_roastOn 1 = .ok (.iload_n 1, 1) := by decide +kernel
theorem dX4_roastOn_2 : decode cX4_roastOn 2 = .ok (.invokevirtual 60, 3) := by decide +kernel
theorem dX4_roastOn_5 : decode cX4_roastOn 5 = .ok (.getfield 110, 3) := by decide +kernel
theorem dX4_roastOn_8 : decode cX4_roastOn 8 = .ok (.ireturn, 1) := by decide +kernel
theorem dX4_roasts_0 : decode cX4_roasts 0 = .ok (.aload_n 0, 1) := by decide +kernel
theorem dX4_roasts_1 : decode cX4_roasts 1 = .ok (.getfield 10, 3) := by decide +kernel
theorem dX4_roasts_4 : decode cX4_roasts 4 = .ok (.getfield 141, 3) := by decide +kernel
theorem dX4_roasts_7 : decode cX4_roasts 7 = .ok (.ireturn, 1) := by decide +kernel
theorem dX4_poundsOf_0 : decode cX4_poundsOf 0 = .ok (.aload_n 0, 1) := by decide +kernel
theorem dX4_poundsOf_1 : decode cX4_poundsOf 1 = .ok (.iload_n 1, 1) := by decide +kernel
theorem dX4_poundsOf_2 : decode cX4_poundsOf 2 = .ok (.invokevirtual 144, 3) := by decide +kernel
theorem dX4_poundsOf_5 : decode cX4_poundsOf 5 = .ok (.getfield 148, 3) := by decide +kernel
theorem dX4_poundsOf_8 : decode cX4_poundsOf 8 = .ok (.ireturn, 1) := by decide +kernel
theorem dX4_spitOf_0 : decode cX4_spitOf 0 = .ok (.aload_n 0, 1) := by decide +kernel
theorem dX4_spitOf_1 : decode cX4_spitOf 1 = .ok (.iload_n 1, 1) := by decide +kernel
theorem dX4_spitOf_2 : decode cX4_spitOf 2 = .ok (.invokevirtual 144, 3) := by decide +kernel
theorem dX4_spitOf_5 : decode cX4_spitOf 5 = .ok (.getfield 113, 3) := by decide +kernel
theorem dX4_spitOf_8 : decode cX4_spitOf 8 = .ok (.ireturn, 1) := by decide +kernel
theorem dX4_sideToFire_0 : decode cX4_sideToFire 0 = .ok (.aload_n 0, 1) := by decide +kernel
theorem dX4_sideToFire_1 : decode cX4_sideToFire 1 = .ok (.iload_n 1, 1) := by decide +kernel
theorem dX4_sideToFire_2 : decode cX4_sideToFire 2 = .ok (.invokevirtual 144, 3) := by decide +kernel
theorem dX4_sideToFire_5 : decode cX4_sideToFire 5 = .ok (.getfield 99, 3) := by decide +kernel
theorem dX4_sideToFire_8 : decode cX4_sideToFire 8 = .ok (.ireturn, 1) := by decide +kernel
theorem dX4_brownOf_0 : decode cX4_brownOf 0 = .ok (.aload_n 0, 1) := by decide +kernel
theorem dX4_brownOf_1 : decode cX4_brownOf 1 = .ok (.iload_n 1, 1) := by decide +kernel
theorem dX4_brownOf_2 : decode cX4_brownOf 2 = .ok (.invokevirtual 144, 3) := by decide +kernel
theorem dX4_brownOf_5 : decode cX4_brownOf 5 = .ok (.astore_n 3, 1) := by decide +kernel
theorem dX4_brownOf_6 : decode cX4_brownOf 6 = .ok (.iload_n 2, 1) := by decide +kernel
theorem dX4_brownOf_7 : decode cX4_brownOf 7 = .ok (.ifCond .lt 12, 3) := by decide +kernel
theorem dX4_brownOf_10 : decode cX4_brownOf 10 = .ok (.iload_n 2, 1) := by decide +kernel
theorem dX4_brownOf_11 : decode cX4_brownOf 11 = .ok (.aload_n 3, 1) := by decide +kernel
theorem dX4_brownOf_12 : decode cX4_brownOf 12 = .ok (.getfield 151, 3) := by decide +kernel
theorem dX4_brownOf_15 : decode cX4_brownOf 15 = .ok (.arraylength, 1) := by decide +kernel
theorem dX4_brownOf_16 : decode cX4_brownOf 16 = .ok (.if_icmp .lt 13, 3) := by decide +kernel
theorem dX4_brownOf_19 : decode cX4_brownOf 19 = .ok (.new 155, 3) := by decide +kernel
theorem dX4_brownOf_22 : decode cX4_brownOf 22 = .ok (.dup, 1) := by decide +kernel
theorem dX4_brownOf_23 : decode cX4_brownOf 23 = .ok (.ldc 157, 2) := by decide +kernel
theorem dX4_brownOf_25 : decode cX4_brownOf 25 = .ok (.invokespecial 159, 3) := by decide +kernel
theorem dX4_brownOf_28 : decode cX4_brownOf 28 = .ok (.athrow, 1) := by decide +kernel
theorem dX4_brownOf_29 : decode cX4_brownOf 29 = .ok (.aload_n 3, 1) := by decide +kernel
theorem dX4_brownOf_30 : decode cX4_brownOf 30 = .ok (.getfield 151, 3) := by decide +kernel
theorem dX4_brownOf_33 : decode cX4_brownOf 33 = .ok (.iload_n 2, 1) := by decide +kernel
theorem dX4_brownOf_34 : decode cX4_brownOf 34 = .ok (.iaload, 1) := by decide +kernel
theorem dX4_brownOf_35 : decode cX4_brownOf 35 = .ok (.ireturn, 1) := by decide +kernel
theorem dX4_fatOf_0 : decode cX4_fatOf 0 = .ok (.aload_n 0, 1) := by decide +kernel
theorem dX4_fatOf_1 : decode cX4_fatOf 1 = .ok (.iload_n 1, 1) := by decide +kernel
theorem dX4_fatOf_2 : decode cX4_fatOf 2 = .ok (.invokevirtual 144, 3) := by decide +kernel
theorem dX4_fatOf_5 : decode cX4_fatOf 5 = .ok (.getfield 160, 3) := by decide +kernel
theorem dX4_fatOf_8 : decode cX4_fatOf 8 = .ok (.ireturn, 1) := by decide +kernel
theorem dX4_wetFor_0 : decode cX4_wetFor 0 = .ok (.aload_n 0, 1) := by decide +kernel
theorem dX4_wetFor_1 : decode cX4_wetFor 1 = .ok (.iload_n 1, 1) := by decide +kernel
theorem dX4_wetFor_2 : decode cX4_wetFor 2 = .ok (.invokevirtual 144, 3) := by decide +kernel
theorem dX4_wetFor_5 : decode cX4_wetFor 5 = .ok (.getfield 107, 3) := by decide +kernel
theorem dX4_wetFor_8 : decode cX4_wetFor 8 = .ok (.ireturn, 1) := by decide +kernel
theorem dX4_isDone_0 : decode cX4_isDone 0 = .ok (.aload_n 0, 1) := by decide +kernel
theorem dX4_isDone_1 : decode cX4_isDone 1 = .ok (.iload_n 1, 1) := by decide +kernel
theorem dX4_isDone_2 : decode cX4_isDone 2 = .ok (.invokevirtual 144, 3) := by decide +kernel
theorem dX4_isDone_5 : decode cX4_isDone 5 = .ok (.invokevirtual 163, 3) := by decide +kernel
theorem dX4_isDone_8 : decode cX4_isDone 8 = .ok (.ireturn, 1) := by decide +kernel
theorem dX4_isBurnt_0 : decode cX4_isBurnt 0 = .ok (.aload_n 0, 1) := by decide +kernel
theorem dX4_isBurnt_1 : decode cX4_isBurnt 1 = .ok (.iload_n 1, 1) := by decide +kernel
theorem dX4_isBurnt_2 : decode cX4_isBurnt 2 = .ok (.invokevirtual 144, 3) := by decide +kernel
theorem dX4_isBurnt_5 : decode cX4_isBurnt 5 = .ok (.invokevirtual 167, 3) := by decide +kernel
theorem dX4_isBurnt_8 : decode cX4_isBurnt 8 = .ok (.ireturn, 1) := by decide +kernel
theorem dX4_minutesUntilDone_0 : decode cX4_minutesUntilDone 0 = .ok (.aload_n 0, 1) := by decide +kernel
theorem dX4_minutesUntilDone_1 : decode cX4_minutesUntilDone 1 = .ok (.iload_n 1, 1) := by decide +kernel
theorem dX4_minutesUntilDone_2 : decode cX4_minutesUntilDone 2 = .ok (.invokevirtual 144, 3) := by decide +kernel
theorem dX4_minutesUntilDone_5 : decode cX4_minutesUntilDone 5 = .ok (.pop, 1) := by decide +kernel
theorem dX4_minutesUntilDone_6 : decode cX4_minutesUntilDone 6 = .ok (.aload_n 0, 1) := by decide +kernel
theorem dX4_minutesUntilDone_7 : decode cX4_minutesUntilDone 7 = .ok (.getfield 16, 3) := by decide +kernel
theorem dX4_minutesUntilDone_10 : decode cX4_minutesUntilDone 10 = .ok (.aload_n 0, 1) := by decide +kernel
theorem dX4_minutesUntilDone_11 : decode cX4_minutesUntilDone 11 = .ok (.getfield 10, 3) := by decide +kernel
theorem dX4_minutesUntilDone_14 : decode cX4_minutesUntilDone 14 = .ok (.invokevirtual 170, 3) := by decide +kernel
theorem dX4_minutesUntilDone_17 : decode cX4_minutesUntilDone 17 = .ok (.aload_n 0, 1) := by decide +kernel
theorem dX4_minutesUntilDone_18 : decode cX4_minutesUntilDone 18 = .ok (.iload_n 1, 1) := by decide +kernel
theorem dX4_minutesUntilDone_19 : decode cX4_minutesUntilDone 19 = .ok (.invokevirtual 174, 3) := by decide +kernel
theorem dX4_minutesUntilDone_22 : decode cX4_minutesUntilDone 22 = .ok (.ireturn, 1) := by decide +kernel
theorem dX4_minutesUntilBurnt_0 : decode cX4_minutesUntilBurnt 0 = .ok (.aload_n 0, 1) := by decide +kernel
theorem dX4_minutesUntilBurnt_1 : decode cX4_minutesUntilBurnt 1 = .ok (.iload_n 1, 1) := by decide +kernel
theorem dX4_minutesUntilBurnt_2 : decode cX4_minutesUntilBurnt 2 = .ok (.invokevirtual 144, 3) := by decide +kernel
theorem dX4_minutesUntilBurnt_5 : decode cX4_minutesUntilBurnt 5 = .ok (.pop, 1) := by decide +kernel
theorem dX4_minutesUntilBurnt_6 : decode cX4_minutesUntilBurnt 6 = .ok (.aload_n 0, 1) := by decide +kernel
theorem dX4_minutesUntilBurnt_7 : decode cX4_minutesUntilBurnt 7 = .ok (.getfield 16, 3) := by decide +kernel
theorem dX4_minutesUntilBurnt_10 : decode cX4_minutesUntilBurnt 10 = .ok (.aload_n 0, 1) := by decide +kernel
theorem dX4_minutesUntilBurnt_11 : decode cX4_minutesUntilBurnt 11 = .ok (.getfield 10, 3) := by decide +kernel
theorem dX4_minutesUntilBurnt_14 : decode cX4_minutesUntilBurnt 14 = .ok (.invokevirtual 170, 3) := by decide +kernel
theorem dX4_minutesUntilBurnt_17 : decode cX4_minutesUntilBurnt 17 = .ok (.aload_n 0, 1) := by decide +kernel
theorem dX4_minutesUntilBurnt_18 : decode cX4_minutesUntilBurnt 18 = .ok (.iload_n 1, 1) := by decide +kernel
theorem dX4_minutesUntilBurnt_19 : decode cX4_minutesUntilBurnt 19 = .ok (.invokevirtual 177, 3) := by decide +kernel
theorem dX4_minutesUntilBurnt_22 : decode cX4_minutesUntilBurnt 22 = .ok (.ireturn, 1) := by decide +kernel
theorem dX4_doneAtFeast_0 : decode cX4_doneAtFeast 0 = .ok (.aload_n 0, 1) := by decide +kernel
theorem dX4_doneAtFeast_1 : decode cX4_doneAtFeast 1 = .ok (.getfield 10, 3) := by decide +kernel
theorem dX4_doneAtFeast_4 : decode cX4_doneAtFeast 4 = .ok (.getfield 79, 3) := by decide +kernel
theorem dX4_doneAtFeast_7 : decode cX4_doneAtFeast 7 = .ok (.aload_n 0, 1) := by decide +kernel
theorem dX4_doneAtFeast_8 : decode cX4_doneAtFeast 8 = .ok (.getfield 10, 3) := by decide +kernel
theorem dX4_doneAtFeast_11 : decode cX4_doneAtFeast 11 = .ok (.getfield 122, 3) := by decide +kernel
theorem dX4_doneAtFeast_14 : decode cX4_doneAtFeast 14 = .ok (.isub, 1) := by decide +kernel
theorem dX4_doneAtFeast_15 : decode cX4_doneAtFeast 15 = .ok (.istore_n 1, 1) := by decide +kernel
theorem dX4_doneAtFeast_16 : decode cX4_doneAtFeast 16 = .ok (.iload_n 1, 1) := by decide +kernel
theorem dX4_doneAtFeast_17 : decode cX4_doneAtFeast 17 = .ok (.ifCond .lt 10, 3) := by decide +kernel
theorem dX4_doneAtFeast_20 : decode cX4_doneAtFeast 20 = .ok (.iload_n 1, 1) := by decide +kernel
theorem dX4_doneAtFeast_21 : decode cX4_doneAtFeast 21 = .ok (.sipush 200, 3) := by decide +kernel
theorem dX4_doneAtFeast_24 : decode cX4_doneAtFeast 24 = .ok (.if_icmp .le 5, 3) := by decide +kernel
theorem dX4_doneAtFeast_27 : decode cX4_doneAtFeast 27 = .ok (.iconst (-1), 1) := by decide +kernel
theorem dX4_doneAtFeast_28 : decode cX4_doneAtFeast 28 = .ok (.ireturn, 1) := by decide +kernel
theorem dX4_doneAtFeast_29 : decode cX4_doneAtFeast 29 = .ok (.aload_n 0, 1) := by decide +kernel
theorem dX4_doneAtFeast_30 : decode cX4_doneAtFeast 30 = .ok (.getfield 16, 3) := by decide +kernel
theorem dX4_doneAtFeast_33 : decode cX4_doneAtFeast 33 = .ok (.aload_n 0, 1) := by decide +kernel
theorem dX4_doneAtFeast_34 : decode cX4_doneAtFeast 34 = .ok (.getfield 10, 3) := by decide +kernel
theorem dX4_doneAtFeast_37 : decode cX4_doneAtFeast 37 = .ok (.invokevirtual 170, 3) := by decide +kernel
theorem dX4_doneAtFeast_40 : decode cX4_doneAtFeast 40 = .ok (.aload_n 0, 1) := by decide +kernel
theorem dX4_doneAtFeast_41 : decode cX4_doneAtFeast 41 = .ok (.getfield 16, 3) := by decide +kernel
theorem dX4_doneAtFeast_44 : decode cX4_doneAtFeast 44 = .ok (.iload_n 1, 1) := by decide +kernel
theorem dX4_doneAtFeast_45 : decode cX4_doneAtFeast 45 = .ok (.invokevirtual 118, 3) := by decide +kernel
theorem dX4_doneAtFeast_48 : decode cX4_doneAtFeast 48 = .ok (.pop, 1) := by decide +kernel
theorem dX4_doneAtFeast_49 : decode cX4_doneAtFeast 49 = .ok (.aload_n 0, 1) := by decide +kernel
theorem dX4_doneAtFeast_50 : decode cX4_doneAtFeast 50 = .ok (.getfield 16, 3) := by decide +kernel
theorem dX4_doneAtFeast_53 : decode cX4_doneAtFeast 53 = .ok (.invokevirtual 180, 3) := by decide +kernel
theorem dX4_doneAtFeast_56 : decode cX4_doneAtFeast 56 = .ok (.ireturn, 1) := by decide +kernel
theorem dX4_bestEach_0 : decode cX4_bestEach 0 = .ok (.aload_n 0, 1) := by decide +kernel
theorem dX4_bestEach_1 : decode cX4_bestEach 1 = .ok (.iload_n 1, 1) := by decide +kernel
theorem dX4_bestEach_2 : decode cX4_bestEach 2 = .ok (.invokevirtual 60, 3) := by decide +kernel
theorem dX4_bestEach_5 : decode cX4_bestEach 5 = .ok (.pop, 1) := by decide +kernel
theorem dX4_bestEach_6 : decode cX4_bestEach 6 = .ok (.iconst (-1), 1) := by decide +kernel
theorem dX4_bestEach_7 : decode cX4_bestEach 7 = .ok (.istore_n 2, 1) := by decide +kernel
theorem dX4_bestEach_8 : decode cX4_bestEach 8 = .ok (.sipush 201, 3) := by decide +kernel
theorem dX4_bestEach_11 : decode cX4_bestEach 11 = .ok (.istore_n 3, 1) := by decide +kernel
theorem dX4_bestEach_12 : decode cX4_bestEach 12 = .ok (.iconst 1, 1) := by decide +kernel
theorem dX4_bestEach_13 : decode cX4_bestEach 13 = .ok (.istore 4, 2) := by decide +kernel
theorem dX4_bestEach_15 : decode cX4_bestEach 15 = .ok (.iload 4, 2) := by decide +kernel
theorem dX4_bestEach_17 : decode cX4_bestEach 17 = .ok (.bipush 9, 2) := by decide +kernel
theorem dX4_bestEach_19 : decode cX4_bestEach 19 = .ok (.if_icmp .gt 36, 3) := by decide +kernel
theorem dX4_bestEach_22 : decode cX4_bestEach 22 = .ok (.aload_n 0, 1) := by decide +kernel
theorem dX4_bestEach_23 : decode cX4_bestEach 23 = .ok (.iload_n 1, 1) := by decide +kernel
theorem dX4_bestEach_24 : decode cX4_bestEach 24 = .ok (.iload 4, 2) := by decide +kernel
theorem dX4_bestEach_26 : decode cX4_bestEach 26 = .ok (.invokevirtual 183, 3) := by decide +kernel
theorem dX4_bestEach_29 : decode cX4_bestEach 29 = .ok (.istore 5, 2) := by decide +kernel
theorem dX4_bestEach_31 : decode cX4_bestEach 31 = .ok (.iload 5, 2) := by decide +kernel
theorem dX4_bestEach_33 : decode cX4_bestEach 33 = .ok (.iconst (-1), 1) := by decide +kernel
theorem dX4_bestEach_34 : decode cX4_bestEach 34 = .ok (.if_icmp .eq 15, 3) := by decide +kernel
theorem dX4_bestEach_37 : decode cX4_bestEach 37 = .ok (.iload 5, 2) := by decide +kernel
theorem dX4_bestEach_39 : decode cX4_bestEach 39 = .ok (.iload_n 3, 1) := by decide +kernel
theorem dX4_bestEach_40 : decode cX4_bestEach 40 = .ok (.if_icmp .ge 9, 3) := by decide +kernel
theorem dX4_bestEach_43 : decode cX4_bestEach 43 = .ok (.iload 5, 2) := by decide +kernel
theorem dX4_bestEach_45 : decode cX4_bestEach 45 = .ok (.istore_n 3, 1) := by decide +kernel
theorem dX4_bestEach_46 : decode cX4_bestEach 46 = .ok (.iload 4, 2) := by decide +kernel
theorem dX4_bestEach_48 : decode cX4_bestEach 48 = .ok (.istore_n 2, 1) := by decide +kernel
theorem dX4_bestEach_49 : decode cX4_bestEach 49 = .ok (.iinc 4 1, 3) := by decide +kernel
theorem dX4_bestEach_52 : decode cX4_bestEach 52 = .ok (.goto (-37), 3) := by decide +kernel
theorem dX4_bestEach_55 : decode cX4_bestEach 55 = .ok (.iload_n 2, 1) := by decide +kernel
theorem dX4_bestEach_56 : decode cX4_bestEach 56 = .ok (.ireturn, 1) := by decide +kernel
theorem dX4_bestSpit_0 : decode cX4_bestSpit 0 = .ok (.iload_n 1, 1) := by decide +kernel
theorem dX4_bestSpit_1 : decode cX4_bestSpit 1 = .ok (.invokestatic 82, 3) := by decide +kernel
theorem dX4_bestSpit_4 : decode cX4_bestSpit 4 = .ok (.aload_n 0, 1) := by decide +kernel
theorem dX4_bestSpit_5 : decode cX4_bestSpit 5 = .ok (.getfield 10, 3) := by decide +kernel
theorem dX4_bestSpit_8 : decode cX4_bestSpit 8 = .ok (.getfield 141, 3) := by decide +kernel
theorem dX4_bestSpit_11 : decode cX4_bestSpit 11 = .ok (.bipush 16, 2) := by decide +kernel
theorem dX4_bestSpit_13 : decode cX4_bestSpit 13 = .ok (.if_icmp .lt 13, 3) := by decide +kernel
theorem dX4_bestSpit_16 : decode cX4_bestSpit 16 = .ok (.new 23, 3) := by decide +kernel
theorem dX4_bestSpit_19 : decode cX4_bestSpit 19 = .ok (.dup, 1) := by decide +kernel
theorem dX4_bestSpit_20 : decode cX4_bestSpit 20 = .ok (.ldc 186, 2) := by decide +kernel
theorem dX4_bestSpit_22 : decode cX4_bestSpit 22 = .ok (.invokespecial 27, 3) := by decide +kernel
theorem dX4_bestSpit_25 : decode cX4_bestSpit 25 = .ok (.athrow, 1) := by decide +kernel
theorem dX4_bestSpit_26 : decode cX4_bestSpit 26 = .ok (.iconst (-1), 1) := by decide +kernel
theorem dX4_bestSpit_27 : decode cX4_bestSpit 27 = .ok (.istore_n 2, 1) := by decide +kernel
theorem dX4_bestSpit_28 : decode cX4_bestSpit 28 = .ok (.sipush 201, 3) := by decide +kernel
theorem dX4_bestSpit_31 : decode cX4_bestSpit 31 = .ok (.istore_n 3, 1) := by decide +kernel
theorem dX4_bestSpit_32 : decode cX4_bestSpit 32 = .ok (.iconst 0, 1) := by decide +kernel
theorem dX4_bestSpit_33 : decode cX4_bestSpit 33 = .ok (.istore 4, 2) := by decide +kernel
theorem dX4_bestSpit_35 : decode cX4_bestSpit 35 = .ok (.iload 4, 2) := by decide +kernel
theorem dX4_bestSpit_37 : decode cX4_bestSpit 37 = .ok (.aload_n 0, 1) := by decide +kernel
theorem dX4_bestSpit_38 : decode cX4_bestSpit 38 = .ok (.getfield 10, 3) := by decide +kernel
theorem dX4_bestSpit_41 : decode cX4_bestSpit 41 = .ok (.getfield 131, 3) := by decide +kernel
theorem dX4_bestSpit_44 : decode cX4_bestSpit 44 = .ok (.if_icmp .ge 36, 3) := by decide +kernel
theorem dX4_bestSpit_47 : decode cX4_bestSpit 47 = .ok (.aload_n 0, 1) := by decide +kernel
theorem dX4_bestSpit_48 : decode cX4_bestSpit 48 = .ok (.iload 4, 2) := by decide +kernel
theorem dX4_bestSpit_50 : decode cX4_bestSpit 50 = .ok (.iload_n 1, 1) := by decide +kernel
theorem dX4_bestSpit_51 : decode cX4_bestSpit 51 = .ok (.invokevirtual 188, 3) := by decide +kernel
theorem dX4_bestSpit_54 : decode cX4_bestSpit 54 = .ok (.istore 5, 2) := by decide +kernel
theorem dX4_bestSpit_56 : decode cX4_bestSpit 56 = .ok (.iload 5, 2) := by decide +kernel
theorem dX4_bestSpit_58 : decode cX4_bestSpit 58 = .ok (.iconst (-1), 1) := by decide +kernel
theorem dX4_bestSpit_59 : decode cX4_bestSpit 59 = .ok (.if_icmp .eq 15, 3) := by decide +kernel
theorem dX4_bestSpit_62 : decode cX4_bestSpit 62 = .ok (.iload 5, 2) := by decide +kernel
theorem dX4_bestSpit_64 : decode cX4_bestSpit 64 = .ok (.iload_n 3, 1) := by decide +kernel
theorem dX4_bestSpit_65 : decode cX4_bestSpit 65 = .ok (.if_icmp .ge 9, 3) := by decide +kernel
theorem dX4_bestSpit_68 : decode cX4_bestSpit 68 = .ok (.iload 5, 2) := by decide +kernel
theorem dX4_bestSpit_70 : decode cX4_bestSpit 70 = .ok (.istore_n 3, 1) := by decide +kernel
theorem dX4_bestSpit_71 : decode cX4_bestSpit 71 = .ok (.iload 4, 2) := by decide +kernel
theorem dX4_bestSpit_73 : decode cX4_bestSpit 73 = .ok (.istore_n 2, 1) := by decide +kernel
theorem dX4_bestSpit_74 : decode cX4_bestSpit 74 = .ok (.iinc 4 1, 3) := by decide +kernel
theorem dX4_bestSpit_77 : decode cX4_bestSpit 77 = .ok (.goto (-42), 3) := by decide +kernel
theorem dX4_bestSpit_80 : decode cX4_bestSpit 80 = .ok (.iload_n 2, 1) := by decide +kernel
theorem dX4_bestSpit_81 : decode cX4_bestSpit 81 = .ok (.ireturn, 1) := by decide +kernel
theorem dX4_meanBrown_0 : decode cX4_meanBrown 0 = .ok (.aload_n 0, 1) := by decide +kernel
theorem dX4_meanBrown_1 : decode cX4_meanBrown 1 = .ok (.getfield 10, 3) := by decide +kernel
theorem dX4_meanBrown_4 : decode cX4_meanBrown 4 = .ok (.getfield 141, 3) := by decide +kernel
theorem dX4_meanBrown_7 : decode cX4_meanBrown 7 = .ok (.iconst 4, 1) := by decide +kernel
theorem dX4_meanBrown_8 : decode cX4_meanBrown 8 = .ok (.imul, 1) := by decide +kernel
theorem dX4_meanBrown_9 : decode cX4_meanBrown 9 = .ok (.istore_n 1, 1) := by decide +kernel
theorem dX4_meanBrown_10 : decode cX4_meanBrown 10 = .ok (.iload_n 1, 1) := by decide +kernel
theorem dX4_meanBrown_11 : decode cX4_meanBrown 11 = .ok (.ifCond .gt 5, 3) := by decide +kernel
theorem dX4_meanBrown_14 : decode cX4_meanBrown 14 = .ok (.dconst 0, 1) := by decide +kernel
theorem dX4_meanBrown_15 : decode cX4_meanBrown 15 = .ok (.dreturn, 1) := by decide +kernel
theorem dX4_meanBrown_16 : decode cX4_meanBrown 16 = .ok (.aload_n 0, 1) := by decide +kernel
theorem dX4_meanBrown_17 : decode cX4_meanBrown 17 = .ok (.getfield 10, 3) := by decide +kernel
theorem dX4_meanBrown_20 : decode cX4_meanBrown 20 = .ok (.invokevirtual 191, 3) := by decide +kernel
theorem dX4_meanBrown_23 : decode cX4_meanBrown 23 = .ok (.i2d, 1) := by decide +kernel
theorem dX4_meanBrown_24 : decode cX4_meanBrown 24 = .ok (.iload_n 1, 1) := by decide +kernel
theorem dX4_meanBrown_25 : decode cX4_meanBrown 25 = .ok (.i2d, 1) := by decide +kernel
theorem dX4_meanBrown_26 : decode cX4_meanBrown 26 = .ok (.ddiv, 1) := by decide +kernel
theorem dX4_meanBrown_27 : decode cX4_meanBrown 27 = .ok (.dreturn, 1) := by decide +kernel
theorem dX4_digest_0 : decode cX4_digest 0 = .ok (.ldc2_w 194, 3) := by decide +kernel
theorem dX4_digest_3 : decode cX4_digest 3 = .ok (.lstore_n 1, 1) := by decide +kernel
theorem dX4_digest_4 : decode cX4_digest 4 = .ok (.lload_n 1, 1) := by decide +kernel
theorem dX4_digest_5 : decode cX4_digest 5 = .ok (.aload_n 0, 1) := by decide +kernel
theorem dX4_digest_6 : decode cX4_digest 6 = .ok (.getfield 10, 3) := by decide +kernel
theorem dX4_digest_9 : decode cX4_digest 9 = .ok (.getfield 122, 3) := by decide +kernel
theorem dX4_digest_12 : decode cX4_digest 12 = .ok (.i2l, 1) := by decide +kernel
theorem dX4_digest_13 : decode cX4_digest 13 = .ok (.invokestatic 196, 3) := by decide +kernel
theorem dX4_digest_16 : decode cX4_digest 16 = .ok (.lstore_n 1, 1) := by decide +kernel
theorem dX4_digest_17 : decode cX4_digest 17 = .ok (.lload_n 1, 1) := by decide +kernel
theorem dX4_digest_18 : decode cX4_digest 18 = .ok (.aload_n 0, 1) := by decide +kernel
theorem dX4_digest_19 : decode cX4_digest 19 = .ok (.getfield 10, 3) := by decide +kernel
theorem dX4_digest_22 : decode cX4_digest 22 = .ok (.getfield 79, 3) := by decide +kernel
theorem dX4_digest_25 : decode cX4_digest 25 = .ok (.i2l, 1) := by decide +kernel
theorem dX4_digest_26 : decode cX4_digest 26 = .ok (.invokestatic 196, 3) := by decide +kernel
theorem dX4_digest_29 : decode cX4_digest 29 = .ok (.lstore_n 1, 1) := by decide +kernel
theorem dX4_digest_30 : decode cX4_digest 30 = .ok (.lload_n 1, 1) := by decide +kernel
theorem dX4_digest_31 : decode cX4_digest 31 = .ok (.aload_n 0, 1) := by decide +kernel
theorem dX4_digest_32 : decode cX4_digest 32 = .ok (.getfield 10, 3) := by decide +kernel
theorem dX4_digest_35 : decode cX4_digest 35 = .ok (.getfield 125, 3) := by decide +kernel
theorem dX4_digest_38 : decode cX4_digest 38 = .ok (.i2l, 1) := by decide +kernel
theorem dX4_digest_39 : decode cX4_digest 39 = .ok (.invokestatic 196, 3) := by decide +kernel
theorem dX4_digest_42 : decode cX4_digest 42 = .ok (.lstore_n 1, 1) := by decide +kernel
theorem dX4_digest_43 : decode cX4_digest 43 = .ok (.lload_n 1, 1) := by decide +kernel
theorem dX4_digest_44 : decode cX4_digest 44 = .ok (.aload_n 0, 1) := by decide +kernel
theorem dX4_digest_45 : decode cX4_digest 45 = .ok (.getfield 10, 3) := by decide +kernel
theorem dX4_digest_48 : decode cX4_digest 48 = .ok (.getfield 131, 3) := by decide +kernel
theorem dX4_digest_51 : decode cX4_digest 51 = .ok (.i2l, 1) := by decide +kernel
theorem dX4_digest_52 : decode cX4_digest 52 = .ok (.invokestatic 196, 3) := by decide +kernel
theorem dX4_digest_55 : decode cX4_digest 55 = .ok (.lstore_n 1, 1) := by decide +kernel
theorem dX4_digest_56 : decode cX4_digest 56 = .ok (.lload_n 1, 1) := by decide +kernel
theorem dX4_digest_57 : decode cX4_digest 57 = .ok (.aload_n 0, 1) := by decide +kernel
theorem dX4_digest_58 : decode cX4_digest 58 = .ok (.getfield 10, 3) := by decide +kernel
