theorem dX0_init_0 : decode cX0_init 0 = .ok (.aload_n 0, 1) := by decide +kernel
theorem dX0_init_1 : decode cX0_init 1 = .ok (.invokespecial 3, 3) := by decide +kernel
theorem dX0_init_4 : decode cX0_init 4 = .ok (.return_, 1) := by decide +kernel
theorem dX0_burn_0 : decode cX0_burn 0 = .ok (.aload_n 0, 1) := by decide +kernel
theorem dX0_burn_1 : decode cX0_burn 1 = .ok (.getfield 18, 3) := by decide +kernel
theorem dX0_burn_4 : decode cX0_burn 4 = .ok (.aload_n 0, 1) := by decide +kernel
theorem dX0_burn_5 : decode cX0_burn 5 = .ok (.getfield 9, 3) := by decide +kernel
theorem dX0_burn_8 : decode cX0_burn 8 = .ok (.ifCond .le 7, 3) := by decide +kernel
theorem dX0_burn_11 : decode cX0_burn 11 = .ok (.iconst 1, 1) := by decide +kernel
theorem dX0_burn_12 : decode cX0_burn 12 = .ok (.goto 4, 3) := by decide +kernel
theorem dX0_burn_15 : decode cX0_burn 15 = .ok (.iconst (-1), 1) := by decide +kernel
theorem dX0_burn_16 : decode cX0_burn 16 = .ok (.iadd, 1) := by decide +kernel
theorem dX0_burn_17 : decode cX0_burn 17 = .ok (.istore_n 2, 1) := by decide +kernel
theorem dX0_burn_18 : decode cX0_burn 18 = .ok (.aload_n 0, 1) := by decide +kernel
theorem dX0_burn_19 : decode cX0_burn 19 = .ok (.getfield 9, 3) := by decide +kernel
theorem dX0_burn_22 : decode cX0_burn 22 = .ok (.ifCond .le 19, 3) := by decide +kernel
theorem dX0_burn_25 : decode cX0_burn 25 = .ok (.iload_n 1, 1) := by decide +kernel
theorem dX0_burn_26 : decode cX0_burn 26 = .ok (.iconst 5, 1) := by decide +kernel
theorem dX0_burn_27 : decode cX0_burn 27 = .ok (.irem, 1) := by decide +kernel
theorem dX0_burn_28 : decode cX0_burn 28 = .ok (.ifCond .ne 13, 3) := by decide +kernel
theorem dX0_burn_31 : decode cX0_burn 31 = .ok (.aload_n 0, 1) := by decide +kernel
theorem dX0_burn_32 : decode cX0_burn 32 = .ok (.dup, 1) := by decide +kernel
theorem dX0_burn_33 : decode cX0_burn 33 = .ok (.getfield 9, 3) := by decide +kernel
theorem dX0_burn_36 : decode cX0_burn 36 = .ok (.iconst 1, 1) := by decide +kernel
theorem dX0_burn_37 : decode cX0_burn 37 = .ok (.isub, 1) := by decide +kernel
theorem dX0_burn_38 : decode cX0_burn 38 = .ok (.putfield 9, 3) := by decide +kernel
theorem dX0_burn_41 : decode cX0_burn 41 = .ok (.aload_n 0, 1) := by decide +kernel
theorem dX0_burn_42 : decode cX0_burn 42 = .ok (.iconst 0, 1) := by decide +kernel
theorem dX0_burn_43 : decode cX0_burn 43 = .ok (.bipush 9, 2) := by decide +kernel
theorem dX0_burn_45 : decode cX0_burn 45 = .ok (.aload_n 0, 1) := by decide +kernel
theorem dX0_burn_46 : decode cX0_burn 46 = .ok (.getfield 15, 3) := by decide +kernel
theorem dX0_burn_49 : decode cX0_burn 49 = .ok (.iload_n 2, 1) := by decide +kernel
theorem dX0_burn_50 : decode cX0_burn 50 = .ok (.iadd, 1) := by decide +kernel
theorem dX0_burn_51 : decode cX0_burn 51 = .ok (.invokestatic 21, 3) := by decide +kernel
theorem dX0_burn_54 : decode cX0_burn 54 = .ok (.invokestatic 27, 3) := by decide +kernel
theorem dX0_burn_57 : decode cX0_burn 57 = .ok (.putfield 15, 3) := by decide +kernel
theorem dX0_burn_60 : decode cX0_burn 60 = .ok (.aload_n 0, 1) := by decide +kernel
theorem dX0_burn_61 : decode cX0_burn 61 = .ok (.iconst 0, 1) := by decide +kernel
theorem dX0_burn_62 : decode cX0_burn 62 = .ok (.putfield 18, 3) := by decide +kernel
theorem dX0_burn_65 : decode cX0_burn 65 = .ok (.return_, 1) := by decide +kernel
theorem dX1_init_0 : decode cX1_init 0 = .ok (.aload_n 0, 1) := by decide +kernel
theorem dX1_init_1 : decode cX1_init 1 = .ok (.invokespecial 3, 3) := by decide +kernel
theorem dX1_init_4 : decode cX1_init 4 = .ok (.aload_n 0, 1) := by decide +kernel
theorem dX1_init_5 : decode cX1_init 5 = .ok (.iconst 3, 1) := by decide +kernel
theorem dX1_init_6 : decode cX1_init 6 = .ok (.anewarray 9, 3) := by decide +kernel
theorem dX1_init_9 : decode cX1_init 9 = .ok (.putfield 11, 3) := by decide +kernel
theorem dX1_init_12 : decode cX1_init 12 = .ok (.aload_n 0, 1) := by decide +kernel
theorem dX1_init_13 : decode cX1_init 13 = .ok (.bipush 6, 2) := by decide +kernel
theorem dX1_init_15 : decode cX1_init 15 = .ok (.anewarray 17, 3) := by decide +kernel
theorem dX1_init_18 : decode cX1_init 18 = .ok (.putfield 19, 3) := by decide +kernel
theorem dX1_init_21 : decode cX1_init 21 = .ok (.aload_n 0, 1) := by decide +kernel
theorem dX1_init_22 : decode cX1_init 22 = .ok (.bipush 16, 2) := by decide +kernel
theorem dX1_init_24 : decode cX1_init 24 = .ok (.anewarray 23, 3) := by decide +kernel
theorem dX1_init_27 : decode cX1_init 27 = .ok (.putfield 25, 3) := by decide +kernel
theorem dX1_init_30 : decode cX1_init 30 = .ok (.aload_n 0, 1) := by decide +kernel
theorem dX1_init_31 : decode cX1_init 31 = .ok (.bipush 120, 2) := by decide +kernel
theorem dX1_init_33 : decode cX1_init 33 = .ok (.putfield 29, 3) := by decide +kernel
theorem dX1_init_36 : decode cX1_init 36 = .ok (.iconst 0, 1) := by decide +kernel
theorem dX1_init_37 : decode cX1_init 37 = .ok (.istore_n 1, 1) := by decide +kernel
theorem dX1_init_38 : decode cX1_init 38 = .ok (.iload_n 1, 1) := by decide +kernel
theorem dX1_init_39 : decode cX1_init 39 = .ok (.aload_n 0, 1) := by decide +kernel
theorem dX1_init_40 : decode cX1_init 40 = .ok (.getfield 11, 3) := by decide +kernel
theorem dX1_init_43 : decode cX1_init 43 = .ok (.arraylength, 1) := by decide +kernel
theorem dX1_init_44 : decode cX1_init 44 = .ok (.if_icmp .ge 22, 3) := by decide +kernel
theorem dX1_init_47 : decode cX1_init 47 = .ok (.aload_n 0, 1) := by decide +kernel
theorem dX1_init_48 : decode cX1_init 48 = .ok (.getfield 11, 3) := by decide +kernel
theorem dX1_init_51 : decode cX1_init 51 = .ok (.iload_n 1, 1) := by decide +kernel
theorem dX1_init_52 : decode cX1_init 52 = .ok (.new 9, 3) := by decide +kernel
theorem dX1_init_55 : decode cX1_init 55 = .ok (.dup, 1) := by decide +kernel
theorem dX1_init_56 : decode cX1_init 56 = .ok (.invokespecial 33, 3) := by decide +kernel
theorem dX1_init_59 : decode cX1_init 59 = .ok (.aastore, 1) := by decide +kernel
theorem dX1_init_60 : decode cX1_init 60 = .ok (.iinc 1 1, 3) := by decide +kernel
theorem dX1_init_63 : decode cX1_init 63 = .ok (.goto (-25), 3) := by decide +kernel
theorem dX1_init_66 : decode cX1_init 66 = .ok (.iconst 0, 1) := by decide +kernel
theorem dX1_init_67 : decode cX1_init 67 = .ok (.istore_n 1, 1) := by decide +kernel
theorem dX1_init_68 : decode cX1_init 68 = .ok (.iload_n 1, 1) := by decide +kernel
theorem dX1_init_69 : decode cX1_init 69 = .ok (.aload_n 0, 1) := by decide +kernel
theorem dX1_init_70 : decode cX1_init 70 = .ok (.getfield 19, 3) := by decide +kernel
theorem dX1_init_73 : decode cX1_init 73 = .ok (.arraylength, 1) := by decide +kernel
theorem dX1_init_74 : decode cX1_init 74 = .ok (.if_icmp .ge 22, 3) := by decide +kernel
theorem dX1_init_77 : decode cX1_init 77 = .ok (.aload_n 0, 1) := by decide +kernel
theorem dX1_init_78 : decode cX1_init 78 = .ok (.getfield 19, 3) := by decide +kernel
theorem dX1_init_81 : decode cX1_init 81 = .ok (.iload_n 1, 1) := by decide +kernel
theorem dX1_init_82 : decode cX1_init 82 = .ok (.new 17, 3) := by decide +kernel
theorem dX1_init_85 : decode cX1_init 85 = .ok (.dup, 1) := by decide +kernel
theorem dX1_init_86 : decode cX1_init 86 = .ok (.invokespecial 34, 3) := by decide +kernel
theorem dX1_init_89 : decode cX1_init 89 = .ok (.aastore, 1) := by decide +kernel
theorem dX1_init_90 : decode cX1_init 90 = .ok (.iinc 1 1, 3) := by decide +kernel
theorem dX1_init_93 : decode cX1_init 93 = .ok (.goto (-25), 3) := by decide +kernel
theorem dX1_init_96 : decode cX1_init 96 = .ok (.iconst 0, 1) := by decide +kernel
theorem dX1_init_97 : decode cX1_init 97 = .ok (.istore_n 1, 1) := by decide +kernel
theorem dX1_init_98 : decode cX1_init 98 = .ok (.iload_n 1, 1) := by decide +kernel
theorem dX1_init_99 : decode cX1_init 99 = .ok (.aload_n 0, 1) := by decide +kernel
theorem dX1_init_100 : decode cX1_init 100 = .ok (.getfield 25, 3) := by decide +kernel
theorem dX1_init_103 : decode cX1_init 103 = .ok (.arraylength, 1) := by decide +kernel
theorem dX1_init_104 : decode cX1_init 104 = .ok (.if_icmp .ge 22, 3) := by decide +kernel
theorem dX1_init_107 : decode cX1_init 107 = .ok (.aload_n 0, 1) := by decide +kernel
theorem dX1_init_108 : decode cX1_init 108 = .ok (.getfield 25, 3) := by decide +kernel
theorem dX1_init_111 : decode cX1_init 111 = .ok (.iload_n 1, 1) := by decide +kernel
theorem dX1_init_112 : decode cX1_init 112 = .ok (.new 23, 3) := by decide +kernel
theorem dX1_init_115 : decode cX1_init 115 = .ok (.dup, 1) := by decide +kernel
theorem dX1_init_116 : decode cX1_init 116 = .ok (.invokespecial 35, 3) := by decide +kernel
theorem dX1_init_119 : decode cX1_init 119 = .ok (.aastore, 1) := by decide +kernel
theorem dX1_init_120 : decode cX1_init 120 = .ok (.iinc 1 1, 3) := by decide +kernel
theorem dX1_init_123 : decode cX1_init 123 = .ok (.goto (-25), 3) := by decide +kernel
theorem dX1_init_126 : decode cX1_init 126 = .ok (.return_, 1) := by decide +kernel
theorem dX1_fireAt_0 : decode cX1_fireAt 0 = .ok (.iload_n 1, 1) := by decide +kernel
theorem dX1_fireAt_1 : decode cX1_fireAt 1 = .ok (.ifCond .lt 29, 3) := by decide +kernel
theorem dX1_fireAt_4 : decode cX1_fireAt 4 = .ok (.iload_n 1, 1) := by decide +kernel
theorem dX1_fireAt_5 : decode cX1_fireAt 5 = .ok (.aload_n 0, 1) := by decide +kernel
theorem dX1_fireAt_6 : decode cX1_fireAt 6 = .ok (.getfield 46, 3) := by decide +kernel
theorem dX1_fireAt_9 : decode cX1_fireAt 9 = .ok (.if_icmp .ge 21, 3) := by decide +kernel
theorem dX1_fireAt_12 : decode cX1_fireAt 12 = .ok (.iload_n 1, 1) := by decide +kernel
theorem dX1_fireAt_13 : decode cX1_fireAt 13 = .ok (.aload_n 0, 1) := by decide +kernel
theorem dX1_fireAt_14 : decode cX1_fireAt 14 = .ok (.getfield 11, 3) := by decide +kernel
theorem dX1_fireAt_17 : decode cX1_fireAt 17 = .ok (.arraylength, 1) := by decide +kernel
theorem dX1_fireAt_18 : decode cX1_fireAt 18 = .ok (.if_icmp .ge 12, 3) := by decide +kernel
theorem dX1_fireAt_21 : decode cX1_fireAt 21 = .ok (.aload_n 0, 1) := by decide +kernel
theorem dX1_fireAt_22 : decode cX1_fireAt 22 = .ok (.getfield 11, 3) := by decide +kernel
theorem dX1_fireAt_25 : decode cX1_fireAt 25 = .ok (.iload_n 1, 1) := by decide +kernel
theorem dX1_fireAt_26 : decode cX1_fireAt 26 = .ok (.aaload, 1) := by decide +kernel
theorem dX1_fireAt_27 : decode cX1_fireAt 27 = .ok (.goto 4, 3) := by decide +kernel
theorem dX1_fireAt_30 : decode cX1_fireAt 30 = .ok (.aconst_null, 1) := by decide +kernel
theorem dX1_fireAt_31 : decode cX1_fireAt 31 = .ok (.areturn, 1) := by decide +kernel
theorem dX1_spitAt_0 : decode cX1_spitAt 0 = .ok (.iload_n 1, 1) := by decide +kernel
theorem dX1_spitAt_1 : decode cX1_spitAt 1 = .ok (.ifCond .lt 29, 3) := by decide +kernel
theorem dX1_spitAt_4 : decode cX1_spitAt 4 = .ok (.iload_n 1, 1) := by decide +kernel
theorem dX1_spitAt_5 : decode cX1_spitAt 5 = .ok (.aload_n 0, 1) := by decide +kernel
theorem dX1_spitAt_6 : decode cX1_spitAt 6 = .ok (.getfield 49, 3) := by decide +kernel
theorem dX1_spitAt_9 : decode cX1_spitAt 9 = .ok (.if_icmp .ge 21, 3) := by decide +kernel
theorem dX1_spitAt_12 : decode cX1_spitAt 12 = .ok (.iload_n 1, 1) := by decide +kernel
theorem dX1_spitAt_13 : decode cX1_spitAt 13 = .ok (.aload_n 0, 1) := by decide +kernel
theorem dX1_spitAt_14 : decode cX1_spitAt 14 = .ok (.getfield 19, 3) := by decide +kernel
theorem dX1_spitAt_17 : decode cX1_spitAt 17 = .ok (.arraylength, 1) := by decide +kernel
theorem dX1_spitAt_18 : decode cX1_spitAt 18 = .ok (.if_icmp .ge 12, 3) := by decide +kernel
theorem dX1_spitAt_21 : decode cX1_spitAt 21 = .ok (.aload_n 0, 1) := by decide +kernel
theorem dX1_spitAt_22 : decode cX1_spitAt 22 = .ok (.getfield 19, 3) := by decide +kernel
theorem dX1_spitAt_25 : decode cX1_spitAt 25 = .ok (.iload_n 1, 1) := by decide +kernel
theorem dX1_spitAt_26 : decode cX1_spitAt 26 = .ok (.aaload, 1) := by decide +kernel
theorem dX1_spitAt_27 : decode cX1_spitAt 27 = .ok (.goto 4, 3) := by decide +kernel
theorem dX1_spitAt_30 : decode cX1_spitAt 30 = .ok (.aconst_null, 1) := by decide +kernel
theorem dX1_spitAt_31 : decode cX1_spitAt 31 = .ok (.areturn, 1) := by decide +kernel
theorem dX1_roastAt_0 : decode cX1_roastAt 0 = .ok (.iload_n 1, 1) := by decide +kernel
theorem dX1_roastAt_1 : decode cX1_roastAt 1 = .ok (.ifCond .lt 29, 3) := by decide +kernel
theorem dX1_roastAt_4 : decode cX1_roastAt 4 = .ok (.iload_n 1, 1) := by decide +kernel
theorem dX1_roastAt_5 : decode cX1_roastAt 5 = .ok (.aload_n 0, 1) := by decide +kernel
theorem dX1_roastAt_6 : decode cX1_roastAt 6 = .ok (.getfield 52, 3) := by decide +kernel
theorem dX1_roastAt_9 : decode cX1_roastAt 9 = .ok (.if_icmp .ge 21, 3) := by decide +kernel
theorem dX1_roastAt_12 : decode cX1_roastAt 12 = .ok (.iload_n 1, 1) := by decide +kernel
theorem dX1_roastAt_13 : decode cX1_roastAt 13 = .ok (.aload_n 0, 1) := by decide +kernel
theorem dX1_roastAt_14 : decode cX1_roastAt 14 = .ok (.getfield 25, 3) := by decide +kernel
theorem dX1_roastAt_17 : decode cX1_roastAt 17 = .ok (.arraylength, 1) := by decide +kernel
theorem dX1_roastAt_18 : decode cX1_roastAt 18 = .ok (.if_icmp .ge 12, 3) := by decide +kernel
theorem dX1_roastAt_21 : decode cX1_roastAt 21 = .ok (.aload_n 0, 1) := by decide +kernel
theorem dX1_roastAt_22 : decode cX1_roastAt 22 = .ok (.getfield 25, 3) := by decide +kernel
theorem dX1_roastAt_25 : decode cX1_roastAt 25 = .ok (.iload_n 1, 1) := by decide +kernel
theorem dX1_roastAt_26 : decode cX1_roastAt 26 = .ok (.aaload, 1) := by decide +kernel
theorem dX1_roastAt_27 : decode cX1_roastAt 27 = .ok (.goto 4, 3) := by decide +kernel
theorem dX1_roastAt_30 : decode cX1_roastAt 30 = .ok (.aconst_null, 1) := by decide +kernel
theorem dX1_roastAt_31 : decode cX1_roastAt 31 = .ok (.areturn, 1) := by decide +kernel
theorem dX1_placeFire_0 : decode cX1_placeFire 0 = .ok (.aload_n 0, 1) := by decide +kernel
theorem dX1_placeFire_1 : decode cX1_placeFire 1 = .ok (.getfield 46, 3) := by decide +kernel
theorem dX1_placeFire_4 : decode cX1_placeFire 4 = .ok (.aload_n 0, 1) := by decide +kernel
theorem dX1_placeFire_5 : decode cX1_placeFire 5 = .ok (.getfield 11, 3) := by decide +kernel
theorem dX1_placeFire_8 : decode cX1_placeFire 8 = .ok (.arraylength, 1) := by decide +kernel
theorem dX1_placeFire_9 : decode cX1_placeFire 9 = .ok (.if_icmp .lt 5, 3) := by decide +kernel
theorem dX1_placeFire_12 : decode cX1_placeFire 12 = .ok (.iconst (-1), 1) := by decide +kernel
theorem dX1_placeFire_13 : decode cX1_placeFire 13 = .ok (.ireturn, 1) := by decide +kernel
theorem dX1_placeFire_14 : decode cX1_placeFire 14 = .ok (.aload_n 0, 1) := by decide +kernel
theorem dX1_placeFire_15 : decode cX1_placeFire 15 = .ok (.dup, 1) := by decide +kernel
theorem dX1_placeFire_16 : decode cX1_placeFire 16 = .ok (.getfield 46, 3) := by decide +kernel
theorem dX1_placeFire_19 : decode cX1_placeFire 19 = .ok (.iconst 1, 1) := by decide +kernel
theorem dX1_placeFire_20 : decode cX1_placeFire 20 = .ok (.iadd, 1) := by decide +kernel
theorem dX1_placeFire_21 : decode cX1_placeFire 21 = .ok (.putfield 46, 3) := by decide +kernel
theorem dX1_placeFire_24 : decode cX1_placeFire 24 = .ok (.aload_n 0, 1) := by decide +kernel
theorem dX1_placeFire_25 : decode cX1_placeFire 25 = .ok (.getfield 46, 3) := by decide +kernel
theorem dX1_placeFire_28 : decode cX1_placeFire 28 = .ok (.iconst 1, 1) := by decide +kernel
theorem dX1_placeFire_29 : decode cX1_placeFire 29 = .ok (.isub, 1) := by decide +kernel
theorem dX1_placeFire_30 : decode cX1_placeFire 30 = .ok (.ireturn, 1) := by decide +kernel
theorem dX1_placeSpit_0 : decode cX1_placeSpit 0 = .ok (.aload_n 0, 1) := by decide +kernel
theorem dX1_placeSpit_1 : decode cX1_placeSpit 1 = .ok (.getfield 49, 3) := by decide +kernel
theorem dX1_placeSpit_4 : decode cX1_placeSpit 4 = .ok (.ifCond .lt 15, 3) := by decide +kernel
theorem dX1_placeSpit_7 : decode cX1_placeSpit 7 = .ok (.aload_n 0, 1) := by decide +kernel
theorem dX1_placeSpit_8 : decode cX1_placeSpit 8 = .ok (.getfield 49, 3) := by decide +kernel
theorem dX1_placeSpit_11 : decode cX1_placeSpit 11 = .ok (.aload_n 0, 1) := by decide +kernel
theorem dX1_placeSpit_12 : decode cX1_placeSpit 12 = .ok (.getfield 19, 3) := by decide +kernel
theorem dX1_placeSpit_15 : decode cX1_placeSpit 15 = .ok (.arraylength, 1) := by decide +kernel
theorem dX1_placeSpit_16 : decode cX1_placeSpit 16 = .ok (.if_icmp .lt 5, 3) := by decide +kernel
theorem dX1_placeSpit_19 : decode cX1_placeSpit 19 = .ok (.iconst (-1), 1) := by decide +kernel
theorem dX1_placeSpit_20 : decode cX1_placeSpit 20 = .ok (.ireturn, 1) := by decide +kernel
theorem dX1_placeSpit_21 : decode cX1_placeSpit 21 = .ok (.aload_n 0, 1) := by decide +kernel
theorem dX1_placeSpit_22 : decode cX1_placeSpit 22 = .ok (.getfield 19, 3) := by decide +kernel
theorem dX1_placeSpit_25 : decode cX1_placeSpit 25 = .ok (.aload_n 0, 1) := by decide +kernel
theorem dX1_placeSpit_26 : decode cX1_placeSpit 26 = .ok (.getfield 49, 3) := by decide +kernel
theorem dX1_placeSpit_29 : decode cX1_placeSpit 29 = .ok (.aaload, 1) := by decide +kernel
theorem dX1_placeSpit_30 : decode cX1_placeSpit 30 = .ok (.astore_n 3, 1) := by decide +kernel
theorem dX1_placeSpit_31 : decode cX1_placeSpit 31 = .ok (.aload_n 3, 1) := by decide +kernel
theorem dX1_placeSpit_32 : decode cX1_placeSpit 32 = .ok (.iload_n 1, 1) := by decide +kernel
theorem dX1_placeSpit_33 : decode cX1_placeSpit 33 = .ok (.putfield 58, 3) := by decide +kernel
theorem dX1_placeSpit_36 : decode cX1_placeSpit 36 = .ok (.aload_n 3, 1) := by decide +kernel
theorem dX1_placeSpit_37 : decode cX1_placeSpit 37 = .ok (.iload_n 2, 1) := by decide +kernel
theorem dX1_placeSpit_38 : decode cX1_placeSpit 38 = .ok (.putfield 61, 3) := by decide +kernel
theorem dX1_placeSpit_41 : decode cX1_placeSpit 41 = .ok (.aload_n 0, 1) := by decide +kernel
theorem dX1_placeSpit_42 : decode cX1_placeSpit 42 = .ok (.dup, 1) := by decide +kernel
theorem dX1_placeSpit_43 : decode cX1_placeSpit 43 = .ok (.getfield 49, 3) := by decide +kernel
theorem dX1_placeSpit_46 : decode cX1_placeSpit 46 = .ok (.iconst 1, 1) := by decide +kernel
theorem dX1_placeSpit_47 : decode cX1_placeSpit 47 = .ok (.iadd, 1) := by decide +kernel
theorem dX1_placeSpit_48 : decode cX1_placeSpit 48 = .ok (.putfield 49, 3) := by decide +kernel
theorem dX1_placeSpit_51 : decode cX1_placeSpit 51 = .ok (.aload_n 0, 1) := by decide +kernel
theorem dX1_placeSpit_52 : decode cX1_placeSpit 52 = .ok (.getfield 49, 3) := by decide +kernel
theorem dX1_placeSpit_55 : decode cX1_placeSpit 55 = .ok (.iconst 1, 1) := by decide +kernel
theorem dX1_placeSpit_56 : decode cX1_placeSpit 56 = .ok (.isub, 1) := by decide +kernel
theorem dX1_placeSpit_57 : decode cX1_placeSpit 57 = .ok (.ireturn, 1) := by decide +kernel
theorem dX1_placeRoast_0 : decode cX1_placeRoast 0 = .ok (.aload_n 0, 1) := by decide +kernel
theorem dX1_placeRoast_1 : decode cX1_placeRoast 1 = .ok (.iload_n 1, 1) := by decide +kernel
theorem dX1_placeRoast_2 : decode cX1_placeRoast 2 = .ok (.invokevirtual 64, 3) := by decide +kernel
theorem dX1_placeRoast_5 : decode cX1_placeRoast 5 = .ok (.astore_n 3, 1) := by decide +kernel
theorem dX1_placeRoast_6 : decode cX1_placeRoast 6 = .ok (.aload_n 3, 1) := by decide +kernel
theorem dX1_placeRoast_7 : decode cX1_placeRoast 7 = .ok (.ifnull 30, 3) := by decide +kernel
theorem dX1_placeRoast_10 : decode cX1_placeRoast 10 = .ok (.aload_n 3, 1) := by decide +kernel
theorem dX1_placeRoast_11 : decode cX1_placeRoast 11 = .ok (.getfield 68, 3) := by decide +kernel
theorem dX1_placeRoast_14 : decode cX1_placeRoast 14 = .ok (.iconst (-1), 1) := by decide +kernel
theorem dX1_placeRoast_15 : decode cX1_placeRoast 15 = .ok (.if_icmp .ne 22, 3) := by decide +kernel
theorem dX1_placeRoast_18 : decode cX1_placeRoast 18 = .ok (.aload_n 0, 1) := by decide +kernel
theorem dX1_placeRoast_19 : decode cX1_placeRoast 19 = .ok (.getfield 52, 3) := by decide +kernel
theorem dX1_placeRoast_22 : decode cX1_placeRoast 22 = .ok (.ifCond .lt 15, 3) := by decide +kernel
theorem dX1_placeRoast_25 : decode cX1_placeRoast 25 = .ok (.aload_n 0, 1) := by decide +kernel
theorem dX1_placeRoast_26 : decode cX1_placeRoast 26 = .ok (.getfield 52, 3) := by decide +kernel
theorem dX1_placeRoast_29 : decode cX1_placeRoast 29 = .ok (.aload_n 0, 1) := by decide +kernel
theorem dX1_placeRoast_30 : decode cX1_placeRoast 30 = .ok (.getfield 25, 3) := by decide +kernel
theorem dX1_placeRoast_33 : decode cX1_placeRoast 33 = .ok (.arraylength, 1) := by decide +kernel
theorem dX1_placeRoast_34 : decode cX1_placeRoast 34 = .ok (.if_icmp .lt 5, 3) := by decide +kernel
theorem dX1_placeRoast_37 : decode cX1_placeRoast 37 = .ok (.iconst (-1), 1) := by decide +kernel
theorem dX1_placeRoast_38 : decode cX1_placeRoast 38 = .ok (.ireturn, 1) := by decide +kernel
theorem dX1_placeRoast_39 : decode cX1_placeRoast 39 = .ok (.aload_n 0, 1) := by decide +kernel
theorem dX1_placeRoast_40 : decode cX1_placeRoast 40 = .ok (.getfield 25, 3) := by decide +kernel
theorem dX1_placeRoast_43 : decode cX1_placeRoast 43 = .ok (.aload_n 0, 1) := by decide +kernel
theorem dX1_placeRoast_44 : decode cX1_placeRoast 44 = .ok (.getfield 52, 3) := by decide +kernel
theorem dX1_placeRoast_47 : decode cX1_placeRoast 47 = .ok (.aaload, 1) := by decide +kernel
theorem dX1_placeRoast_48 : decode cX1_placeRoast 48 = .ok (.astore 4, 2) := by decide +kernel
theorem dX1_placeRoast_50 : decode cX1_placeRoast 50 = .ok (.aload 4, 2) := by decide +kernel
theorem dX1_placeRoast_52 : decode cX1_placeRoast 52 = .ok (.iload_n 2, 1) := by decide +kernel
theorem dX1_placeRoast_53 : decode cX1_placeRoast 53 = .ok (.putfield 71, 3) := by decide +kernel
theorem dX1_placeRoast_56 : decode cX1_placeRoast 56 = .ok (.aload 4, 2) := by decide +kernel
theorem dX1_placeRoast_58 : decode cX1_placeRoast 58 = .ok (.iconst 3, 1) := by decide +kernel
theorem dX1_placeRoast_59 : decode cX1_placeRoast 59 = .ok (.iload_n 2, 1) := by decide +kernel
theorem dX1_placeRoast_60 : decode cX1_placeRoast 60 = .ok (.imul, 1) := by decide +kernel
theorem dX1_placeRoast_61 : decode cX1_placeRoast 61 = .ok (.putfield 74, 3) := by decide +kernel
theorem dX1_placeRoast_64 : decode cX1_placeRoast 64 = .ok (.aload 4, 2) := by decide +kernel
theorem dX1_placeRoast_66 : decode cX1_placeRoast 66 = .ok (.iload_n 1, 1) := by decide +kernel
theorem dX1_placeRoast_67 : decode cX1_placeRoast 67 = .ok (.putfield 77, 3) := by decide +kernel
theorem dX1_placeRoast_70 : decode cX1_placeRoast 70 = .ok (.aload_n 3, 1) := by decide +kernel
theorem dX1_placeRoast_71 : decode cX1_placeRoast 71 = .ok (.aload_n 0, 1) := by decide +kernel
theorem dX1_placeRoast_72 : decode cX1_placeRoast 72 = .ok (.getfield 52, 3) := by decide +kernel
theorem dX1_placeRoast_75 : decode cX1_placeRoast 75 = .ok (.putfield 68, 3) := by decide +kernel
theorem dX1_placeRoast_78 : decode cX1_placeRoast 78 = .ok (.aload_n 3, 1) := by decide +kernel
theorem dX1_placeRoast_79 : decode cX1_placeRoast 79 = .ok (.iconst 0, 1) := by decide +kernel
theorem dX1_placeRoast_80 : decode cX1_placeRoast 80 = .ok (.putfield 80, 3) := by decide +kernel
theorem dX1_placeRoast_83 : decode cX1_placeRoast 83 = .ok (.aload_n 0, 1) := by decide +kernel
theorem dX1_placeRoast_84 : decode cX1_placeRoast 84 = .ok (.dup, 1) := by decide +kernel
theorem dX1_placeRoast_85 : decode cX1_placeRoast 85 = .ok (.getfield 52, 3) := by decide +kernel
theorem dX1_placeRoast_88 : decode cX1_placeRoast 88 = .ok (.iconst 1, 1) := by decide +kernel
theorem dX1_placeRoast_89 : decode cX1_placeRoast 89 = .ok (.iadd, 1) := by decide +kernel
theorem dX1_placeRoast_90 : decode cX1_placeRoast 90 = .ok (.putfield 52, 3) := by decide +kernel
theorem dX1_placeRoast_93 : decode cX1_placeRoast 93 = .ok (.aload_n 3, 1) := by decide +kernel
theorem dX1_placeRoast_94 : decode cX1_placeRoast 94 = .ok (.getfield 68, 3) := by decide +kernel
theorem dX1_placeRoast_97 : decode cX1_placeRoast 97 = .ok (.ireturn, 1) := by decide +kernel
theorem dX1_glowOf_0 : decode cX1_glowOf 0 = .ok (.aload_n 0, 1) := by decide +kernel
theorem dX1_glowOf_1 : decode cX1_glowOf 1 = .ok (.aload_n 1, 1) := by decide +kernel
theorem dX1_glowOf_2 : decode cX1_glowOf 2 = .ok (.getfield 58, 3) := by decide +kernel
theorem dX1_glowOf_5 : decode cX1_glowOf 5 = .ok (.invokevirtual 83, 3) := by decide +kernel
theorem dX1_glowOf_8 : decode cX1_glowOf 8 = .ok (.astore_n 2, 1) := by decide +kernel
theorem dX1_glowOf_9 : decode cX1_glowOf 9 = .ok (.aload_n 2, 1) := by decide +kernel
theorem dX1_glowOf_10 : decode cX1_glowOf 10 = .ok (.ifnull 10, 3) := by decide +kernel
theorem dX1_glowOf_13 : decode cX1_glowOf 13 = .ok (.aload_n 1, 1) := by decide +kernel
theorem dX1_glowOf_14 : decode cX1_glowOf 14 = .ok (.getfield 61, 3) := by decide +kernel
theorem dX1_glowOf_17 : decode cX1_glowOf 17 = .ok (.ifCond .gt 7, 3) := by decide +kernel
theorem dX1_glowOf_20 : decode cX1_glowOf 20 = .ok (.iconst 0, 1) := by decide +kernel
theorem dX1_glowOf_21 : decode cX1_glowOf 21 = .ok (.goto 12, 3) := by decide +kernel
theorem dX1_glowOf_24 : decode cX1_glowOf 24 = .ok (.aload_n 2, 1) := by decide +kernel
theorem dX1_glowOf_25 : decode cX1_glowOf 25 = .ok (.getfield 87, 3) := by decide +kernel
theorem dX1_glowOf_28 : decode cX1_glowOf 28 = .ok (.aload_n 1, 1) := by decide +kernel
theorem dX1_glowOf_29 : decode cX1_glowOf 29 = .ok (.getfield 61, 3) := by decide +kernel
theorem dX1_glowOf_32 : decode cX1_glowOf 32 = .ok (.idiv, 1) := by decide +kernel
theorem dX1_glowOf_33 : decode cX1_glowOf 33 = .ok (.ireturn, 1) := by decide +kernel
theorem dX1_goMinutes_0 : decode cX1_goMinutes 0 = .ok (.iconst 0, 1) := by decide +kernel
theorem dX1_goMinutes_1 : decode cX1_goMinutes 1 = .ok (.istore_n 2, 1) := by decide +kernel
theorem dX1_goMinutes_2 : decode cX1_goMinutes 2 = .ok (.iconst 0, 1) := by decide +kernel
theorem dX1_goMinutes_3 : decode cX1_goMinutes 3 = .ok (.istore_n 3, 1) := by decide +kernel
theorem dX1_goMinutes_4 : decode cX1_goMinutes 4 = .ok (.iload_n 3, 1) := by decide +kernel
theorem dX1_goMinutes_5 : decode cX1_goMinutes 5 = .ok (.iload_n 1, 1) := by decide +kernel
theorem dX1_goMinutes_6 : decode cX1_goMinutes 6 = .ok (.if_icmp .ge 16, 3) := by decide +kernel
theorem dX1_goMinutes_9 : decode cX1_goMinutes 9 = .ok (.iload_n 2, 1) := by decide +kernel
theorem dX1_goMinutes_10 : decode cX1_goMinutes 10 = .ok (.aload_n 0, 1) := by decide +kernel
theorem dX1_goMinutes_11 : decode cX1_goMinutes 11 = .ok (.invokevirtual 90, 3) := by decide +kernel
theorem dX1_goMinutes_14 : decode cX1_goMinutes 14 = .ok (.iadd, 1) := by decide +kernel
theorem dX1_goMinutes_15 : decode cX1_goMinutes 15 = .ok (.istore_n 2, 1) := by decide +kernel
theorem dX1_goMinutes_16 : decode cX1_goMinutes 16 = .ok (.iinc 3 1, 3) := by decide +kernel
theorem dX1_goMinutes_19 : decode cX1_goMinutes 19 = .ok (.goto (-15), 3) := by decide +kernel
theorem dX1_goMinutes_22 : decode cX1_goMinutes 22 = .ok (.iload_n 2, 1) := by decide +kernel
theorem dX1_goMinutes_23 : decode cX1_goMinutes 23 = .ok (.ireturn, 1) := by decide +kernel
theorem dX1_goMinute_0 : decode cX1_goMinute 0 = .ok (.iconst 0, 1) := by decide +kernel
theorem dX1_goMinute_1 : decode cX1_goMinute 1 = .ok (.istore_n 1, 1) := by decide +kernel
theorem dX1_goMinute_2 : decode cX1_goMinute 2 = .ok (.aload_n 0, 1) := by decide +kernel
theorem dX1_goMinute_3 : decode cX1_goMinute 3 = .ok (.getfield 19, 3) := by decide +kernel
theorem dX1_goMinute_6 : decode cX1_goMinute 6 = .ok (.astore_n 2, 1) := by decide +kernel
theorem dX1_goMinute_7 : decode cX1_goMinute 7 = .ok (.aload_n 2, 1) := by decide +kernel
theorem dX1_goMinute_8 : decode cX1_goMinute 8 = .ok (.arraylength, 1) := by decide +kernel
theorem dX1_goMinute_9 : decode cX1_goMinute 9 = .ok (.istore_n 3, 1) := by decide +kernel
theorem dX1_goMinute_10 : decode cX1_goMinute 10 = .ok (.iconst 0, 1) := by decide +kernel
theorem dX1_goMinute_11 : decode cX1_goMinute 11 = .ok (.istore 4, 2) := by decide +kernel
theorem dX1_goMinute_13 : decode cX1_goMinute 13 = .ok (.iload 4, 2) := by decide +kernel
theorem dX1_goMinute_15 : decode cX1_goMinute 15 = .ok (.iload_n 3, 1) := by decide +kernel
theorem dX1_goMinute_16 : decode cX1_goMinute 16 = .ok (.if_icmp .ge 27, 3) := by decide +kernel
theorem dX1_goMinute_19 : decode cX1_goMinute 19 = .ok (.aload_n 2, 1) := by decide +kernel
theorem dX1_goMinute_20 : decode cX1_goMinute 20 = .ok (.iload 4, 2) := by decide +kernel
theorem dX1_goMinute_22 : decode cX1_goMinute 22 = .ok (.aaload, 1) := by decide +kernel
theorem dX1_goMinute_23 : decode cX1_goMinute 23 = .ok (.astore 5, 2) := by decide +kernel
theorem dX1_goMinute_25 : decode cX1_goMinute 25 = .ok (.aload_n 0, 1) := by decide +kernel
theorem dX1_goMinute_26 : decode cX1_goMinute 26 = .ok (.aload 5, 2) := by decide +kernel
theorem dX1_goMinute_28 : decode cX1_goMinute 28 = .ok (.invokevirtual 94, 3) := by decide +kernel
theorem dX1_goMinute_31 : decode cX1_goMinute 31 = .ok (.ifCond .eq 6, 3) := by decide +kernel
theorem dX1_goMinute_34 : decode cX1_goMinute 34 = .ok (.iinc 1 1, 3) := by decide +kernel
theorem dX1_goMinute_37 : decode cX1_goMinute 37 = .ok (.iinc 4 1, 3) := by decide +kernel
theorem dX1_goMinute_40 : decode cX1_goMinute 40 = .ok (.goto (-27), 3) := by decide +kernel
theorem dX1_goMinute_43 : decode cX1_goMinute 43 = .ok (.aload_n 0, 1) := by decide +kernel
theorem dX1_goMinute_44 : decode cX1_goMinute 44 = .ok (.getfield 11, 3) := by decide +kernel
theorem dX1_goMinute_47 : decode cX1_goMinute 47 = .ok (.astore_n 2, 1) := by decide +kernel
theorem dX1_goMinute_48 : decode cX1_goMinute 48 = .ok (.aload_n 2, 1) := by decide +kernel
theorem dX1_goMinute_49 : decode cX1_goMinute 49 = .ok (.arraylength, 1) := by decide +kernel
theorem dX1_goMinute_50 : decode cX1_goMinute 50 = .ok (.istore_n 3, 1) := by decide +kernel
theorem dX1_goMinute_51 : decode cX1_goMinute 51 = .ok (.iconst 0, 1) := by decide +kernel
theorem dX1_goMinute_52 : decode cX1_goMinute 52 = .ok (.istore 4, 2) := by decide +kernel
theorem dX1_goMinute_54 : decode cX1_goMinute 54 = .ok (.iload 4, 2) := by decide +kernel
theorem dX1_goMinute_56 : decode cX1_goMinute 56 = .ok (.iload_n 3, 1) := by decide +kernel
theorem dX1_goMinute_57 : decode cX1_goMinute 57 = .ok (.if_icmp .ge 24, 3) := by decide +kernel
theorem dX1_goMinute_60 : decode cX1_goMinute 60 = .ok (.aload_n 2, 1) := by decide +kernel
theorem dX1_goMinute_61 : decode cX1_goMinute 61 = .ok (.iload 4, 2) := by decide +kernel
theorem dX1_goMinute_63 : decode cX1_goMinute 63 = .ok (.aaload, 1) := by decide +kernel
theorem dX1_goMinute_64 : decode cX1_goMinute 64 = .ok (.astore 5, 2) := by decide +kernel
theorem dX1_goMinute_66 : decode cX1_goMinute 66 = .ok (.aload 5, 2) := by decide +kernel
theorem dX1_goMinute_68 : decode cX1_goMinute 68 = .ok (.aload_n 0, 1) := by decide +kernel
theorem dX1_goMinute_69 : decode cX1_goMinute 69 = .ok (.getfield 55, 3) := by decide +kernel
theorem dX1_goMinute_72 : decode cX1_goMinute 72 = .ok (.invokevirtual 98, 3) := by decide +kernel
theorem dX1_goMinute_75 : decode cX1_goMinute 75 = .ok (.iinc 4 1, 3) := by decide +kernel
theorem dX1_goMinute_78 : decode cX1_goMinute 78 = .ok (.goto (-24), 3) := by decide +kernel
theorem dX1_goMinute_81 : decode cX1_goMinute 81 = .ok (.aload_n 0, 1) := by decide +kernel
theorem dX1_goMinute_82 : decode cX1_goMinute 82 = .ok (.dup, 1) := by decide +kernel
theorem dX1_goMinute_83 : decode cX1_goMinute 83 = .ok (.getfield 55, 3) := by decide +kernel
theorem dX1_goMinute_86 : decode cX1_goMinute 86 = .ok (.iconst 1, 1) := by decide +kernel
theorem dX1_goMinute_87 : decode cX1_goMinute 87 = .ok (.iadd, 1) := by decide +kernel
theorem dX1_goMinute_88 : decode cX1_goMinute 88 = .ok (.putfield 55, 3) := by decide +kernel
theorem dX1_goMinute_91 : decode cX1_goMinute 91 = .ok (.iload_n 1, 1) := by decide +kernel
theorem dX1_goMinute_92 : decode cX1_goMinute 92 = .ok (.ireturn, 1) := by decide +kernel
theorem dX1_roastForAMinute_0 : decode cX1_roastForAMinute 0 = .ok (.aload_n 0, 1) := by decide +kernel
theorem dX1_roastForAMinute_1 : decode cX1_roastForAMinute 1 = .ok (.aload_n 1, 1) := by decide +kernel
theorem dX1_roastForAMinute_2 : decode cX1_roastForAMinute 2 = .ok (.getfield 68, 3) := by decide +kernel
theorem dX1_roastForAMinute_5 : decode cX1_roastForAMinute 5 = .ok (.invokevirtual 102, 3) := by decide +kernel
theorem dX1_roastForAMinute_8 : decode cX1_roastForAMinute 8 = .ok (.astore_n 2, 1) := by decide +kernel
theorem dX1_roastForAMinute_9 : decode cX1_roastForAMinute 9 = .ok (.aload_n 0, 1) := by decide +kernel
theorem dX1_roastForAMinute_10 : decode cX1_roastForAMinute 10 = .ok (.aload_n 1, 1) := by decide +kernel
theorem dX1_roastForAMinute_11 : decode cX1_roastForAMinute 11 = .ok (.getfield 58, 3) := by decide +kernel
theorem dX1_roastForAMinute_14 : decode cX1_roastForAMinute 14 = .ok (.invokevirtual 83, 3) := by decide +kernel
theorem dX1_roastForAMinute_17 : decode cX1_roastForAMinute 17 = .ok (.astore_n 3, 1) := by decide +kernel
theorem dX1_roastForAMinute_18 : decode cX1_roastForAMinute 18 = .ok (.aload_n 2, 1) := by decide +kernel
theorem dX1_roastForAMinute_19 : decode cX1_roastForAMinute 19 = .ok (.ifnull 7, 3) := by decide +kernel
theorem dX1_roastForAMinute_22 : decode cX1_roastForAMinute 22 = .ok (.aload_n 3, 1) := by decide +kernel
theorem dX1_roastForAMinute_23 : decode cX1_roastForAMinute 23 = .ok (.ifnonnull 5, 3) := by decide +kernel
theorem dX1_roastForAMinute_26 : decode cX1_roastForAMinute 26 = .ok (.iconst 0, 1) := by decide +kernel
theorem dX1_roastForAMinute_27 : decode cX1_roastForAMinute 27 = .ok (.ireturn, 1) := by decide +kernel
theorem dX1_roastForAMinute_28 : decode cX1_roastForAMinute 28 = .ok (.aload_n 2, 1) := by decide +kernel
theorem dX1_roastForAMinute_29 : decode cX1_roastForAMinute 29 = .ok (.aload_n 0, 1) := by decide +kernel
theorem dX1_roastForAMinute_30 : decode cX1_roastForAMinute 30 = .ok (.aload_n 1, 1) := by decide +kernel
theorem dX1_roastForAMinute_31 : decode cX1_roastForAMinute 31 = .ok (.invokevirtual 106, 3) := by decide +kernel
theorem dX1_roastForAMinute_34 : decode cX1_roastForAMinute 34 = .ok (.invokevirtual 110, 3) := by decide +kernel
theorem dX1_roastForAMinute_37 : decode cX1_roastForAMinute 37 = .ok (.istore 4, 2) := by decide +kernel
theorem dX1_roastForAMinute_39 : decode cX1_roastForAMinute 39 = .ok (.aload_n 2, 1) := by decide +kernel
theorem dX1_roastForAMinute_40 : decode cX1_roastForAMinute 40 = .ok (.iload 4, 2) := by decide +kernel
theorem dX1_roastForAMinute_42 : decode cX1_roastForAMinute 42 = .ok (.invokevirtual 114, 3) := by decide +kernel
theorem dX1_roastForAMinute_45 : decode cX1_roastForAMinute 45 = .ok (.ifCond .eq 14, 3) := by decide +kernel
theorem dX1_roastForAMinute_48 : decode cX1_roastForAMinute 48 = .ok (.aload_n 1, 1) := by decide +kernel
theorem dX1_roastForAMinute_49 : decode cX1_roastForAMinute 49 = .ok (.invokevirtual 118, 3) := by decide +kernel
theorem dX1_roastForAMinute_52 : decode cX1_roastForAMinute 52 = .ok (.ifCond .ne 7, 3) := by decide +kernel
theorem dX1_roastForAMinute_55 : decode cX1_roastForAMinute 55 = .ok (.iconst 1, 1) := by decide +kernel
theorem dX1_roastForAMinute_56 : decode cX1_roastForAMinute 56 = .ok (.goto 4, 3) := by decide +kernel
theorem dX1_roastForAMinute_59 : decode cX1_roastForAMinute 59 = .ok (.iconst 0, 1) := by decide +kernel
theorem dX1_roastForAMinute_60 : decode cX1_roastForAMinute 60 = .ok (.istore 5, 2) := by decide +kernel
theorem dX1_roastForAMinute_62 : decode cX1_roastForAMinute 62 = .ok (.iload 5, 2) := by decide +kernel
theorem dX1_roastForAMinute_64 : decode cX1_roastForAMinute 64 = .ok (.ifCond .eq 13, 3) := by decide +kernel
theorem dX1_roastForAMinute_67 : decode cX1_roastForAMinute 67 = .ok (.aload_n 3, 1) := by decide +kernel
theorem dX1_roastForAMinute_68 : decode cX1_roastForAMinute 68 = .ok (.dup, 1) := by decide +kernel
theorem dX1_roastForAMinute_69 : decode cX1_roastForAMinute 69 = .ok (.getfield 122, 3) := by decide +kernel
theorem dX1_roastForAMinute_72 : decode cX1_roastForAMinute 72 = .ok (.iconst 1, 1) := by decide +kernel
theorem dX1_roastForAMinute_73 : decode cX1_roastForAMinute 73 = .ok (.iadd, 1) := by decide +kernel
theorem dX1_roastForAMinute_74 : decode cX1_roastForAMinute 74 = .ok (.putfield 122, 3) := by decide +kernel
theorem dX1_roastForAMinute_77 : decode cX1_roastForAMinute 77 = .ok (.aload_n 1, 1) := by decide +kernel
theorem dX1_roastForAMinute_78 : decode cX1_roastForAMinute 78 = .ok (.invokevirtual 125, 3) := by decide +kernel
theorem dX1_roastForAMinute_81 : decode cX1_roastForAMinute 81 = .ok (.ifCond .eq 7, 3) := by decide +kernel
theorem dX1_roastForAMinute_84 : decode cX1_roastForAMinute 84 = .ok (.aload_n 2, 1) := by decide +kernel
theorem dX1_roastForAMinute_85 : decode cX1_roastForAMinute 85 = .ok (.invokevirtual 128, 3) := by decide +kernel
theorem dX1_roastForAMinute_88 : decode cX1_roastForAMinute 88 = .ok (.iload 5, 2) := by decide +kernel
theorem dX1_roastForAMinute_90 : decode cX1_roastForAMinute 90 = .ok (.ireturn, 1) := by decide +kernel
theorem dX1_sumBrown_0 : decode cX1_sumBrown 0 = .ok (.iconst 0, 1) := by decide +kernel
theorem dX1_sumBrown_1 : decode cX1_sumBrown 1 = .ok (.istore_n 1, 1) := by decide +kernel
theorem dX1_sumBrown_2 : decode cX1_sumBrown 2 = .ok (.iconst 0, 1) := by decide +kernel
theorem dX1_sumBrown_3 : decode cX1_sumBrown 3 = .ok (.istore_n 2, 1) := by decide +kernel
theorem dX1_sumBrown_4 : decode cX1_sumBrown 4 = .ok (.iload_n 2, 1) := by decide +kernel
theorem dX1_sumBrown_5 : decode cX1_sumBrown 5 = .ok (.aload_n 0, 1) := by decide +kernel
theorem dX1_sumBrown_6 : decode cX1_sumBrown 6 = .ok (.getfield 25, 3) := by decide +kernel
theorem dX1_sumBrown_9 : decode cX1_sumBrown 9 = .ok (.arraylength, 1) := by decide +kernel
theorem dX1_sumBrown_10 : decode cX1_sumBrown 10 = .ok (.if_icmp .ge 58, 3) := by decide +kernel
theorem dX1_sumBrown_13 : decode cX1_sumBrown 13 = .ok (.iload_n 2, 1) := by decide +kernel
theorem dX1_sumBrown_14 : decode cX1_sumBrown 14 = .ok (.aload_n 0, 1) := by decide +kernel
theorem dX1_sumBrown_15 : decode cX1_sumBrown 15 = .ok (.getfield 52, 3) := by decide +kernel
theorem dX1_sumBrown_18 : decode cX1_sumBrown 18 = .ok (.if_icmp .ge 50, 3) := by decide +kernel
theorem dX1_sumBrown_21 : decode cX1_sumBrown 21 = .ok (.aload_n 0, 1) := by decide +kernel
theorem dX1_sumBrown_22 : decode cX1_sumBrown 22 = .ok (.getfield 25, 3) := by decide +kernel
theorem dX1_sumBrown_25 : decode cX1_sumBrown 25 = .ok (.iload_n 2, 1) := by decide +kernel
theorem dX1_sumBrown_26 : decode cX1_sumBrown 26 = .ok (.aaload, 1) := by decide +kernel
theorem dX1_sumBrown_27 : decode cX1_sumBrown 27 = .ok (.getfield 134, 3) := by decide +kernel
theorem dX1_sumBrown_30 : decode cX1_sumBrown 30 = .ok (.astore_n 3, 1) := by decide +kernel
theorem dX1_sumBrown_31 : decode cX1_sumBrown 31 = .ok (.aload_n 3, 1) := by decide +kernel
theorem dX1_sumBrown_32 : decode cX1_sumBrown 32 = .ok (.arraylength, 1) := by decide +kernel
theorem dX1_sumBrown_33 : decode cX1_sumBrown 33 = .ok (.istore 4, 2) := by decide +kernel
theorem dX1_sumBrown_35 : decode cX1_sumBrown 35 = .ok (.iconst 0, 1) := by decide +kernel
theorem dX1_sumBrown_36 : decode cX1_sumBrown 36 = .ok (.istore 5, 2) := by decide +kernel
theorem dX1_sumBrown_38 : decode cX1_sumBrown 38 = .ok (.iload 5, 2) := by decide +kernel
theorem dX1_sumBrown_40 : decode cX1_sumBrown 40 = .ok (.iload 4, 2) := by decide +kernel
theorem dX1_sumBrown_42 : decode cX1_sumBrown 42 = .ok (.if_icmp .ge 20, 3) := by decide +kernel
theorem dX1_sumBrown_45 : decode cX1_sumBrown 45 = .ok (.aload_n 3, 1) := by decide +kernel
theorem dX1_sumBrown_46 : decode cX1_sumBrown 46 = .ok (.iload 5, 2) := by decide +kernel
theorem dX1_sumBrown_48 : decode cX1_sumBrown 48 = .ok (.iaload, 1) := by decide +kernel
theorem dX1_sumBrown_49 : decode cX1_sumBrown 49 = .ok (.istore 6, 2) := by decide +kernel
theorem dX1_sumBrown_51 : decode cX1_sumBrown 51 = .ok (.iload_n 1, 1) := by decide +kernel
theorem dX1_sumBrown_52 : decode cX1_sumBrown 52 = .ok (.iload 6, 2) := by decide +kernel
theorem dX1_sumBrown_54 : decode cX1_sumBrown 54 = .ok (.iadd, 1) := by decide +kernel
theorem dX1_sumBrown_55 : decode cX1_sumBrown 55 = .ok (.istore_n 1, 1) := by decide +kernel
theorem dX1_sumBrown_56 : decode cX1_sumBrown 56 = .ok (.iinc 5 1, 3) := by decide +kernel
theorem dX1_sumBrown_59 : decode cX1_sumBrown 59 = .ok (.goto (-21), 3) := by decide +kernel
theorem dX1_sumBrown_62 : decode cX1_sumBrown 62 = .ok (.iinc 2 1, 3) := by decide +kernel
theorem dX1_sumBrown_65 : decode cX1_sumBrown 65 = .ok (.goto (-61), 3) := by decide +kernel
theorem dX1_sumBrown_68 : decode cX1_sumBrown 68 = .ok (.iload_n 1, 1) := by decide +kernel
theorem dX1_sumBrown_69 : decode cX1_sumBrown 69 = .ok (.ireturn, 1) := by decide +kernel
theorem dX2_init_0 : decode cX2_init 0 = .ok (.aload_n 0, 1) := by decide +kernel
theorem dX2_init_1 : decode cX2_init 1 = .ok (.invokespecial 3, 3) := by decide +kernel
theorem dX2_init_4 : decode cX2_init 4 = .ok (.aload_n 0, 1) := by decide +kernel
theorem dX2_init_5 : decode cX2_init 5 = .ok (.iconst 4, 1) := by decide +kernel
theorem dX2_init_6 : decode cX2_init 6 = .ok (.newarray .int, 2) := by decide +kernel
theorem dX2_init_8 : decode cX2_init 8 = .ok (.putfield 9, 3) := by decide +kernel
theorem dX2_init_11 : decode cX2_init 11 = .ok (.aload_n 0, 1) := by decide +kernel
theorem dX2_init_12 : decode cX2_init 12 = .ok (.iconst (-1), 1) := by decide +kernel
theorem dX2_init_13 : decode cX2_init 13 = .ok (.putfield 15, 3) := by decide +kernel
theorem dX2_init_16 : decode cX2_init 16 = .ok (.return_, 1) := by decide +kernel
theorem dX2_getGlow_0 : decode cX2_getGlow 0 = .ok (.iload_n 1, 1) := by decide +kernel
theorem dX2_getGlow_1 : decode cX2_getGlow 1 = .ok (.istore_n 2, 1) := by decide +kernel
theorem dX2_getGlow_2 : decode cX2_getGlow 2 = .ok (.aload_n 0, 1) := by decide +kernel
theorem dX2_getGlow_3 : decode cX2_getGlow 3 = .ok (.getfield 28, 3) := by decide +kernel
theorem dX2_getGlow_6 : decode cX2_getGlow 6 = .ok (.ifCond .le 21, 3) := by decide +kernel
theorem dX2_getGlow_9 : decode cX2_getGlow 9 = .ok (.iconst 0, 1) := by decide +kernel
theorem dX2_getGlow_10 : decode cX2_getGlow 10 = .ok (.iload_n 1, 1) := by decide +kernel
theorem dX2_getGlow_11 : decode cX2_getGlow 11 = .ok (.iconst 1, 1) := by decide +kernel
theorem dX2_getGlow_12 : decode cX2_getGlow 12 = .ok (.isub, 1) := by decide +kernel
theorem dX2_getGlow_13 : decode cX2_getGlow 13 = .ok (.invokestatic 31, 3) := by decide +kernel
theorem dX2_getGlow_16 : decode cX2_getGlow 16 = .ok (.istore_n 2, 1) := by decide +kernel
theorem dX2_getGlow_17 : decode cX2_getGlow 17 = .ok (.aload_n 0, 1) := by decide +kernel
theorem dX2_getGlow_18 : decode cX2_getGlow 18 = .ok (.dup, 1) := by decide +kernel
theorem dX2_getGlow_19 : decode cX2_getGlow 19 = .ok (.getfield 28, 3) := by decide +kernel
theorem dX2_getGlow_22 : decode cX2_getGlow 22 = .ok (.iconst 1, 1) := by decide +kernel
theorem dX2_getGlow_23 : decode cX2_getGlow 23 = .ok (.isub, 1) := by decide +kernel
theorem dX2_getGlow_24 : decode cX2_getGlow 24 = .ok (.putfield 28, 3) := by decide +kernel
theorem dX2_getGlow_27 : decode cX2_getGlow 27 = .ok (.aload_n 0, 1) := by decide +kernel
theorem dX2_getGlow_28 : decode cX2_getGlow 28 = .ok (.aload_n 0, 1) := by decide +kernel
theorem dX2_getGlow_29 : decode cX2_getGlow 29 = .ok (.getfield 22, 3) := by decide +kernel
theorem dX2_getGlow_32 : decode cX2_getGlow 32 = .ok (.iload_n 2, 1) := by decide +kernel
theorem dX2_getGlow_33 : decode cX2_getGlow 33 = .ok (.invokevirtual 37, 3) := by decide +kernel
theorem dX2_getGlow_36 : decode cX2_getGlow 36 = .ok (.aload_n 0, 1) := by decide +kernel
theorem dX2_getGlow_37 : decode cX2_getGlow 37 = .ok (.aload_n 0, 1) := by decide +kernel
theorem dX2_getGlow_38 : decode cX2_getGlow 38 = .ok (.getfield 22, 3) := by decide +kernel
theorem dX2_getGlow_41 : decode cX2_getGlow 41 = .ok (.invokestatic 41, 3) := by decide +kernel
theorem dX2_getGlow_44 : decode cX2_getGlow 44 = .ok (.iload_n 2, 1) := by decide +kernel
theorem dX2_getGlow_45 : decode cX2_getGlow 45 = .ok (.iconst 3, 1) := by decide +kernel
theorem dX2_getGlow_46 : decode cX2_getGlow 46 = .ok (.idiv, 1) := by decide +kernel
theorem dX2_getGlow_47 : decode cX2_getGlow 47 = .ok (.invokevirtual 37, 3) := by decide +kernel
theorem dX2_getGlow_50 : decode cX2_getGlow 50 = .ok (.aload_n 0, 1) := by decide +kernel
theorem dX2_getGlow_51 : decode cX2_getGlow 51 = .ok (.aload_n 0, 1) := by decide +kernel
theorem dX2_getGlow_52 : decode cX2_getGlow 52 = .ok (.getfield 22, 3) := by decide +kernel
theorem dX2_getGlow_55 : decode cX2_getGlow 55 = .ok (.invokestatic 45, 3) := by decide +kernel
theorem dX2_getGlow_58 : decode cX2_getGlow 58 = .ok (.iload_n 2, 1) := by decide +kernel
theorem dX2_getGlow_59 : decode cX2_getGlow 59 = .ok (.iconst 3, 1) := by decide +kernel
theorem dX2_getGlow_60 : decode cX2_getGlow 60 = .ok (.idiv, 1) := by decide +kernel
theorem dX2_getGlow_61 : decode cX2_getGlow 61 = .ok (.invokevirtual 37, 3) := by decide +kernel
theorem dX2_getGlow_64 : decode cX2_getGlow 64 = .ok (.iload_n 2, 1) := by decide +kernel
theorem dX2_getGlow_65 : decode cX2_getGlow 65 = .ok (.ireturn, 1) := by decide +kernel
theorem dX2_getBrowner_0 : decode cX2_getBrowner 0 = .ok (.iload_n 1, 1) := by decide +kernel
theorem dX2_getBrowner_1 : decode cX2_getBrowner 1 = .ok (.ifCond .lt 39, 3) := by decide +kernel
theorem dX2_getBrowner_4 : decode cX2_getBrowner 4 = .ok (.iload_n 1, 1) := by decide +kernel
theorem dX2_getBrowner_5 : decode cX2_getBrowner 5 = .ok (.aload_n 0, 1) := by decide +kernel
theorem dX2_getBrowner_6 : decode cX2_getBrowner 6 = .ok (.getfield 9, 3) := by decide +kernel
theorem dX2_getBrowner_9 : decode cX2_getBrowner 9 = .ok (.arraylength, 1) := by decide +kernel
theorem dX2_getBrowner_10 : decode cX2_getBrowner 10 = .ok (.if_icmp .ge 30, 3) := by decide +kernel
theorem dX2_getBrowner_13 : decode cX2_getBrowner 13 = .ok (.aload_n 0, 1) := by decide +kernel
theorem dX2_getBrowner_14 : decode cX2_getBrowner 14 = .ok (.getfield 9, 3) := by decide +kernel
theorem dX2_getBrowner_17 : decode cX2_getBrowner 17 = .ok (.iload_n 1, 1) := by decide +kernel
theorem dX2_getBrowner_18 : decode cX2_getBrowner 18 = .ok (.iaload, 1) := by decide +kernel
theorem dX2_getBrowner_19 : decode cX2_getBrowner 19 = .ok (.iload_n 2, 1) := by decide +kernel
theorem dX2_getBrowner_20 : decode cX2_getBrowner 20 = .ok (.iadd, 1) := by decide +kernel
theorem dX2_getBrowner_21 : decode cX2_getBrowner 21 = .ok (.istore_n 3, 1) := by decide +kernel
theorem dX2_getBrowner_22 : decode cX2_getBrowner 22 = .ok (.aload_n 0, 1) := by decide +kernel
theorem dX2_getBrowner_23 : decode cX2_getBrowner 23 = .ok (.getfield 9, 3) := by decide +kernel
theorem dX2_getBrowner_26 : decode cX2_getBrowner 26 = .ok (.iload_n 1, 1) := by decide +kernel
theorem dX2_getBrowner_27 : decode cX2_getBrowner 27 = .ok (.iload_n 3, 1) := by decide +kernel
theorem dX2_getBrowner_28 : decode cX2_getBrowner 28 = .ok (.bipush 99, 2) := by decide +kernel
theorem dX2_getBrowner_30 : decode cX2_getBrowner 30 = .ok (.if_icmp .le 8, 3) := by decide +kernel
theorem dX2_getBrowner_33 : decode cX2_getBrowner 33 = .ok (.bipush 99, 2) := by decide +kernel
theorem dX2_getBrowner_35 : decode cX2_getBrowner 35 = .ok (.goto 4, 3) := by decide +kernel
theorem dX2_getBrowner_38 : decode cX2_getBrowner 38 = .ok (.iload_n 3, 1) := by decide +kernel
theorem dX2_getBrowner_39 : decode cX2_getBrowner 39 = .ok (.iastore, 1) := by decide +kernel
theorem dX2_getBrowner_40 : decode cX2_getBrowner 40 = .ok (.return_, 1) := by decide +kernel
theorem dX2_drips_0 : decode cX2_drips 0 = .ok (.iload_n 1, 1) := by decide +kernel
theorem dX2_drips_1 : decode cX2_drips 1 = .ok (.iconst 2, 1) := by decide +kernel
theorem dX2_drips_2 : decode cX2_drips 2 = .ok (.if_icmp .lt 10, 3) := by decide +kernel
theorem dX2_drips_5 : decode cX2_drips 5 = .ok (.aload_n 0, 1) := by decide +kernel
theorem dX2_drips_6 : decode cX2_drips 6 = .ok (.getfield 25, 3) := by decide +kernel
theorem dX2_drips_9 : decode cX2_drips 9 = .ok (.ifCond .gt 5, 3) := by decide +kernel
theorem dX2_drips_12 : decode cX2_drips 12 = .ok (.iconst 0, 1) := by decide +kernel
theorem dX2_drips_13 : decode cX2_drips 13 = .ok (.ireturn, 1) := by decide +kernel
theorem dX2_drips_14 : decode cX2_drips 14 = .ok (.aload_n 0, 1) := by decide +kernel
theorem dX2_drips_15 : decode cX2_drips 15 = .ok (.dup, 1) := by decide +kernel
theorem dX2_drips_16 : decode cX2_drips 16 = .ok (.getfield 25, 3) := by decide +kernel
theorem dX2_drips_19 : decode cX2_drips 19 = .ok (.iconst 1, 1) := by decide +kernel
theorem dX2_drips_20 : decode cX2_drips 20 = .ok (.isub, 1) := by decide +kernel
theorem dX2_drips_21 : decode cX2_drips 21 = .ok (.putfield 25, 3) := by decide +kernel
theorem dX2_drips_24 : decode cX2_drips 24 = .ok (.iconst 1, 1) := by decide +kernel
theorem dX2_drips_25 : decode cX2_drips 25 = .ok (.ireturn, 1) := by decide +kernel
theorem dX2_turn_0 : decode cX2_turn 0 = .ok (.aload_n 0, 1) := by decide +kernel
theorem dX2_turn_1 : decode cX2_turn 1 = .ok (.aload_n 0, 1) := by decide +kernel
theorem dX2_turn_2 : decode cX2_turn 2 = .ok (.getfield 22, 3) := by decide +kernel
theorem dX2_turn_5 : decode cX2_turn 5 = .ok (.invokestatic 41, 3) := by decide +kernel
theorem dX2_turn_8 : decode cX2_turn 8 = .ok (.putfield 22, 3) := by decide +kernel
theorem dX2_turn_11 : decode cX2_turn 11 = .ok (.return_, 1) := by decide +kernel
theorem dX2_done_0 : decode cX2_done 0 = .ok (.aload_n 0, 1) := by decide +kernel
theorem dX2_done_1 : decode cX2_done 1 = .ok (.getfield 9, 3) := by decide +kernel
theorem dX2_done_4 : decode cX2_done 4 = .ok (.astore_n 1, 1) := by decide +kernel
theorem dX2_done_5 : decode cX2_done 5 = .ok (.aload_n 1, 1) := by decide +kernel
theorem dX2_done_6 : decode cX2_done 6 = .ok (.arraylength, 1) := by decide +kernel
theorem dX2_done_7 : decode cX2_done 7 = .ok (.istore_n 2, 1) := by decide +kernel
theorem dX2_done_8 : decode cX2_done 8 = .ok (.iconst 0, 1) := by decide +kernel
theorem dX2_done_9 : decode cX2_done 9 = .ok (.istore_n 3, 1) := by decide +kernel
theorem dX2_done_10 : decode cX2_done 10 = .ok (.iload_n 3, 1) := by decide +kernel
theorem dX2_done_11 : decode cX2_done 11 = .ok (.iload_n 2, 1) := by decide +kernel
theorem dX2_done_12 : decode cX2_done 12 = .ok (.if_icmp .ge 41, 3) := by decide +kernel
theorem dX2_done_15 : decode cX2_done 15 = .ok (.aload_n 1, 1) := by decide +kernel
theorem dX2_done_16 : decode cX2_done 16 = .ok (.iload_n 3, 1) := by decide +kernel
theorem dX2_done_17 : decode cX2_done 17 = .ok (.iaload, 1) := by decide +kernel
theorem dX2_done_18 : decode cX2_done 18 = .ok (.istore 4, 2) := by decide +kernel
theorem dX2_done_20 : decode cX2_done 20 = .ok (.iload 4, 2) := by decide +kernel
theorem dX2_done_22 : decode cX2_done 22 = .ok (.iconst 3, 1) := by decide +kernel
theorem dX2_done_23 : decode cX2_done 23 = .ok (.aload_n 0, 1) := by decide +kernel
theorem dX2_done_24 : decode cX2_done 24 = .ok (.getfield 19, 3) := by decide +kernel
theorem dX2_done_27 : decode cX2_done 27 = .ok (.imul, 1) := by decide +kernel
theorem dX2_done_28 : decode cX2_done 28 = .ok (.if_icmp .lt 17, 3) := by decide +kernel
theorem dX2_done_31 : decode cX2_done 31 = .ok (.iload 4, 2) := by decide +kernel
theorem dX2_done_33 : decode cX2_done 33 = .ok (.iconst 3, 1) := by decide +kernel
theorem dX2_done_34 : decode cX2_done 34 = .ok (.aload_n 0, 1) := by decide +kernel
theorem dX2_done_35 : decode cX2_done 35 = .ok (.getfield 19, 3) := by decide +kernel
theorem dX2_done_38 : decode cX2_done 38 = .ok (.imul, 1) := by decide +kernel
theorem dX2_done_39 : decode cX2_done 39 = .ok (.bipush 30, 2) := by decide +kernel
theorem dX2_done_41 : decode cX2_done 41 = .ok (.iadd, 1) := by decide +kernel
theorem dX2_done_42 : decode cX2_done 42 = .ok (.if_icmp .le 5, 3) := by decide +kernel
theorem dX2_done_45 : decode cX2_done 45 = .ok (.iconst 0, 1) := by decide +kernel
theorem dX2_done_46 : decode cX2_done 46 = .ok (.ireturn, 1) := by decide +kernel
theorem dX2_done_47 : decode cX2_done 47 = .ok (.iinc 3 1, 3) := by decide +kernel
theorem dX2_done_50 : decode cX2_done 50 = .ok (.goto (-40), 3) := by decide +kernel
theorem dX2_done_53 : decode cX2_done 53 = .ok (.iconst 1, 1) := by decide +kernel
theorem dX2_done_54 : decode cX2_done 54 = .ok (.ireturn, 1) := by decide +kernel
theorem dX2_burnt_0 : decode cX2_burnt 0 = .ok (.aload_n 0, 1) := by decide +kernel
theorem dX2_burnt_1 : decode cX2_burnt 1 = .ok (.getfield 9, 3) := by decide +kernel
theorem dX2_burnt_4 : decode cX2_burnt 4 = .ok (.astore_n 1, 1) := by decide +kernel
theorem dX2_burnt_5 : decode cX2_burnt 5 = .ok (.aload_n 1, 1) := by decide +kernel
theorem dX2_burnt_6 : decode cX2_burnt 6 = .ok (.arraylength, 1) := by decide +kernel
theorem dX2_burnt_7 : decode cX2_burnt 7 = .ok (.istore_n 2, 1) := by decide +kernel
theorem dX2_burnt_8 : decode cX2_burnt 8 = .ok (.iconst 0, 1) := by decide +kernel
theorem dX2_burnt_9 : decode cX2_burnt 9 = .ok (.istore_n 3, 1) := by decide +kernel
theorem dX2_burnt_10 : decode cX2_burnt 10 = .ok (.iload_n 3, 1) := by decide +kernel
theorem dX2_burnt_11 : decode cX2_burnt 11 = .ok (.iload_n 2, 1) := by decide +kernel
theorem dX2_burnt_12 : decode cX2_burnt 12 = .ok (.if_icmp .ge 30, 3) := by decide +kernel
theorem dX2_burnt_15 : decode cX2_burnt 15 = .ok (.aload_n 1, 1) := by decide +kernel
theorem dX2_burnt_16 : decode cX2_burnt 16 = .ok (.iload_n 3, 1) := by decide +kernel
theorem dX2_burnt_17 : decode cX2_burnt 17 = .ok (.iaload, 1) := by decide +kernel
theorem dX2_burnt_18 : decode cX2_burnt 18 = .ok (.istore 4, 2) := by decide +kernel
theorem dX2_burnt_20 : decode cX2_burnt 20 = .ok (.iload 4, 2) := by decide +kernel
theorem dX2_burnt_22 : decode cX2_burnt 22 = .ok (.iconst 3, 1) := by decide +kernel
theorem dX2_burnt_23 : decode cX2_burnt 23 = .ok (.aload_n 0, 1) := by decide +kernel
theorem dX2_burnt_24 : decode cX2_burnt 24 = .ok (.getfield 19, 3) := by decide +kernel
theorem dX2_burnt_27 : decode cX2_burnt 27 = .ok (.imul, 1) := by decide +kernel
theorem dX2_burnt_28 : decode cX2_burnt 28 = .ok (.bipush 30, 2) := by decide +kernel
theorem dX2_burnt_30 : decode cX2_burnt 30 = .ok (.iadd, 1) := by decide +kernel
theorem dX2_burnt_31 : decode cX2_burnt 31 = .ok (.if_icmp .le 5, 3) := by decide +kernel
theorem dX2_burnt_34 : decode cX2_burnt 34 = .ok (.iconst 1, 1) := by decide +kernel
theorem dX2_burnt_35 : decode cX2_burnt 35 = .ok (.ireturn, 1) := by decide +kernel
theorem dX2_burnt_36 : decode cX2_burnt 36 = .ok (.iinc 3 1, 3) := by decide +kernel
theorem dX2_burnt_39 : decode cX2_burnt 39 = .ok (.goto (-29), 3) := by decide +kernel
theorem dX2_burnt_42 : decode cX2_burnt 42 = .ok (.iconst 0, 1) := by decide +kernel
theorem dX2_burnt_43 : decode cX2_burnt 43 = .ok (.ireturn, 1) := by decide +kernel
theorem dX2_nextSide_0 : decode cX2_nextSide 0 = .ok (.iload_n 0, 1) := by decide +kernel
theorem dX2_nextSide_1 : decode cX2_nextSide 1 = .ok (.iconst 3, 1) := by decide +kernel
theorem dX2_nextSide_2 : decode cX2_nextSide 2 = .ok (.if_icmp .lt 7, 3) := by decide +kernel
theorem dX2_nextSide_5 : decode cX2_nextSide 5 = .ok (.iconst 0, 1) := by decide +kernel
theorem dX2_nextSide_6 : decode cX2_nextSide 6 = .ok (.goto 6, 3) := by decide +kernel
theorem dX2_nextSide_9 : decode cX2_nextSide 9 = .ok (.iload_n 0, 1) := by decide +kernel
theorem dX2_nextSide_10 : decode cX2_nextSide 10 = .ok (.iconst 1, 1) := by decide +kernel
theorem dX2_nextSide_11 : decode cX2_nextSide 11 = .ok (.iadd, 1) := by decide +kernel
theorem dX2_nextSide_12 : decode cX2_nextSide 12 = .ok (.ireturn, 1) := by decide +kernel
theorem dX2_sideBefore_0 : decode cX2_sideBefore 0 = .ok (.iload_n 0, 1) := by decide +kernel
theorem dX2_sideBefore_1 : decode cX2_sideBefore 1 = .ok (.ifCond .gt 7, 3) := by decide +kernel
theorem dX2_sideBefore_4 : decode cX2_sideBefore 4 = .ok (.iconst 3, 1) := by decide +kernel
theorem dX2_sideBefore_5 : decode cX2_sideBefore 5 = .ok (.goto 6, 3) := by decide +kernel
theorem dX2_sideBefore_8 : decode cX2_sideBefore 8 = .ok (.iload_n 0, 1) := by decide +kernel
theorem dX2_sideBefore_9 : decode cX2_sideBefore 9 = .ok (.iconst 1, 1) := by decide +kernel
theorem dX2_sideBefore_10 : decode cX2_sideBefore 10 = .ok (.isub, 1) := by decide +kernel
theorem dX2_sideBefore_11 : decode cX2_sideBefore 11 = .ok (.ireturn, 1) := by decide +kernel
theorem dX3_init_0 : decode cX3_init 0 = .ok (.aload_n 0, 1) := by decide +kernel
theorem dX3_init_1 : decode cX3_init 1 = .ok (.invokespecial 3, 3) := by decide +kernel
theorem dX3_init_4 : decode cX3_init 4 = .ok (.aload_n 0, 1) := by decide +kernel
theorem dX3_init_5 : decode cX3_init 5 = .ok (.iconst (-1), 1) := by decide +kernel
theorem dX3_init_6 : decode cX3_init 6 = .ok (.putfield 9, 3) := by decide +kernel
theorem dX3_init_9 : decode cX3_init 9 = .ok (.return_, 1) := by decide +kernel
theorem dX3_countAnew_0 : decode cX3_countAnew 0 = .ok (.aload_n 0, 1) := by decide +kernel
theorem dX3_countAnew_1 : decode cX3_countAnew 1 = .ok (.iload_n 1, 1) := by decide +kernel
theorem dX3_countAnew_2 : decode cX3_countAnew 2 = .ok (.putfield 21, 3) := by decide +kernel
theorem dX3_countAnew_5 : decode cX3_countAnew 5 = .ok (.aload_n 0, 1) := by decide +kernel
theorem dX3_countAnew_6 : decode cX3_countAnew 6 = .ok (.iconst 0, 1) := by decide +kernel
theorem dX3_countAnew_7 : decode cX3_countAnew 7 = .ok (.putfield 24, 3) := by decide +kernel
theorem dX3_countAnew_10 : decode cX3_countAnew 10 = .ok (.return_, 1) := by decide +kernel
theorem dX3_countsToTurn_0 : decode cX3_countsToTurn 0 = .ok (.aload_n 0, 1) := by decide +kernel
theorem dX3_countsToTurn_1 : decode cX3_countsToTurn 1 = .ok (.dup, 1) := by decide +kernel
theorem dX3_countsToTurn_2 : decode cX3_countsToTurn 2 = .ok (.getfield 24, 3) := by decide +kernel
theorem dX3_countsToTurn_5 : decode cX3_countsToTurn 5 = .ok (.iconst 1, 1) := by decide +kernel
theorem dX3_countsToTurn_6 : decode cX3_countsToTurn 6 = .ok (.iadd, 1) := by decide +kernel
theorem dX3_countsToTurn_7 : decode cX3_countsToTurn 7 = .ok (.putfield 24, 3) := by decide +kernel
theorem dX3_countsToTurn_10 : decode cX3_countsToTurn 10 = .ok (.aload_n 0, 1) := by decide +kernel
theorem dX3_countsToTurn_11 : decode cX3_countsToTurn 11 = .ok (.getfield 21, 3) := by decide +kernel
theorem dX3_countsToTurn_14 : decode cX3_countsToTurn 14 = .ok (.ifCond .le 19, 3) := by decide +kernel
theorem dX3_countsToTurn_17 : decode cX3_countsToTurn 17 = .ok (.aload_n 0, 1) := by decide +kernel
theorem dX3_countsToTurn_18 : decode cX3_countsToTurn 18 = .ok (.getfield 24, 3) := by decide +kernel
theorem dX3_countsToTurn_21 : decode cX3_countsToTurn 21 = .ok (.aload_n 0, 1) := by decide +kernel
theorem dX3_countsToTurn_22 : decode cX3_countsToTurn 22 = .ok (.getfield 21, 3) := by decide +kernel
theorem dX3_countsToTurn_25 : decode cX3_countsToTurn 25 = .ok (.irem, 1) := by decide +kernel
theorem dX3_countsToTurn_26 : decode cX3_countsToTurn 26 = .ok (.ifCond .ne 7, 3) := by decide +kernel
theorem dX3_countsToTurn_29 : decode cX3_countsToTurn 29 = .ok (.iconst 1, 1) := by decide +kernel
theorem dX3_countsToTurn_30 : decode cX3_countsToTurn 30 = .ok (.goto 4, 3) := by decide +kernel
theorem dX3_countsToTurn_33 : decode cX3_countsToTurn 33 = .ok (.iconst 0, 1) := by decide +kernel
theorem dX3_countsToTurn_34 : decode cX3_countsToTurn 34 = .ok (.ireturn, 1) := by decide +kernel
theorem dX3_takesDripping_0 : decode cX3_takesDripping 0 = .ok (.aload_n 0, 1) := by decide +kernel
theorem dX3_takesDripping_1 : decode cX3_takesDripping 1 = .ok (.getfield 27, 3) := by decide +kernel
theorem dX3_takesDripping_4 : decode cX3_takesDripping 4 = .ok (.bipush 20, 2) := by decide +kernel
theorem dX3_takesDripping_6 : decode cX3_takesDripping 6 = .ok (.if_icmp .lt 5, 3) := by decide +kernel
theorem dX3_takesDripping_9 : decode cX3_takesDripping 9 = .ok (.iconst 0, 1) := by decide +kernel
theorem dX3_takesDripping_10 : decode cX3_takesDripping 10 = .ok (.ireturn, 1) := by decide +kernel
theorem dX3_takesDripping_11 : decode cX3_takesDripping 11 = .ok (.aload_n 0, 1) := by decide +kernel
theorem dX3_takesDripping_12 : decode cX3_takesDripping 12 = .ok (.dup, 1) := by decide +kernel
theorem dX3_takesDripping_13 : decode cX3_takesDripping 13 = .ok (.getfield 27, 3) := by decide +kernel
theorem dX3_takesDripping_16 : decode cX3_takesDripping 16 = .ok (.iconst 1, 1) := by decide +kernel
theorem dX3_takesDripping_17 : decode cX3_takesDripping 17 = .ok (.iadd, 1) := by decide +kernel
theorem dX3_takesDripping_18 : decode cX3_takesDripping 18 = .ok (.putfield 27, 3) := by decide +kernel
theorem dX3_takesDripping_21 : decode cX3_takesDripping 21 = .ok (.iconst 1, 1) := by decide +kernel
theorem dX3_takesDripping_22 : decode cX3_takesDripping 22 = .ok (.ireturn, 1) := by decide +kernel
theorem dX4_init_0 : decode cX4_init 0 = .ok (.aload_n 0, 1) := by decide +kernel
theorem dX4_init_1 : decode cX4_init 1 = .ok (.invokespecial 1, 3) := by decide +kernel
theorem dX4_init_4 : decode cX4_init 4 = .ok (.aload_n 0, 1) := by decide +kernel
theorem dX4_init_5 : decode cX4_init 5 = .ok (.new 7, 3) := by decide +kernel
theorem dX4_init_8 : decode cX4_init 8 = .ok (.dup, 1) := by decide +kernel
theorem dX4_init_9 : decode cX4_init 9 = .ok (.invokespecial 9, 3) := by decide +kernel
theorem dX4_init_12 : decode cX4_init 12 = .ok (.putfield 10, 3) := by decide +kernel
theorem dX4_init_15 : decode cX4_init 15 = .ok (.aload_n 0, 1) := by decide +kernel
theorem dX4_init_16 : decode cX4_init 16 = .ok (.new 7, 3) := by decide +kernel
theorem dX4_init_19 : decode cX4_init 19 = .ok (.dup, 1) := by decide +kernel
theorem dX4_init_20 : decode cX4_init 20 = .ok (.invokespecial 9, 3) := by decide +kernel
theorem dX4_init_23 : decode cX4_init 23 = .ok (.putfield 16, 3) := by decide +kernel
theorem dX4_init_26 : decode cX4_init 26 = .ok (.return_, 1) := by decide +kernel
theorem dX4_addFire_0 : decode cX4_addFire 0 = .ok (.aload_n 0, 1) := by decide +kernel
theorem dX4_addFire_1 : decode cX4_addFire 1 = .ok (.getfield 10, 3) := by decide +kernel
theorem dX4_addFire_4 : decode cX4_addFire 4 = .ok (.invokevirtual 19, 3) := by decide +kernel
theorem dX4_addFire_7 : decode cX4_addFire 7 = .ok (.istore_n 1, 1) := by decide +kernel
theorem dX4_addFire_8 : decode cX4_addFire 8 = .ok (.iload_n 1, 1) := by decide +kernel
theorem dX4_addFire_9 : decode cX4_addFire 9 = .ok (.iconst (-1), 1) := by decide +kernel
theorem dX4_addFire_10 : decode cX4_addFire 10 = .ok (.if_icmp .ne 13, 3) := by decide +kernel
theorem dX4_addFire_13 : decode cX4_addFire 13 = .ok (.new 23, 3) := by decide +kernel
theorem dX4_addFire_16 : decode cX4_addFire 16 = .ok (.dup, 1) := by decide +kernel
theorem dX4_addFire_17 : decode cX4_addFire 17 = .ok (.ldc 25, 2) := by decide +kernel
theorem dX4_addFire_19 : decode cX4_addFire 19 = .ok (.invokespecial 27, 3) := by decide +kernel
theorem dX4_addFire_22 : decode cX4_addFire 22 = .ok (.athrow, 1) := by decide +kernel
theorem dX4_addFire_23 : decode cX4_addFire 23 = .ok (.iload_n 1, 1) := by decide +kernel
theorem dX4_addFire_24 : decode cX4_addFire 24 = .ok (.ireturn, 1) := by decide +kernel
theorem dX4_layLogs_0 : decode cX4_layLogs 0 = .ok (.aload_n 0, 1) := by decide +kernel
theorem dX4_layLogs_1 : decode cX4_layLogs 1 = .ok (.iload_n 1, 1) := by decide +kernel
theorem dX4_layLogs_2 : decode cX4_layLogs 2 = .ok (.invokevirtual 30, 3) := by decide +kernel
theorem dX4_layLogs_5 : decode cX4_layLogs 5 = .ok (.astore_n 3, 1) := by decide +kernel
theorem dX4_layLogs_6 : decode cX4_layLogs 6 = .ok (.iload_n 2, 1) := by decide +kernel
theorem dX4_layLogs_7 : decode cX4_layLogs 7 = .ok (.iconst 1, 1) := by decide +kernel
theorem dX4_layLogs_8 : decode cX4_layLogs 8 = .ok (.if_icmp .lt 9, 3) := by decide +kernel
theorem dX4_layLogs_11 : decode cX4_layLogs 11 = .ok (.iload_n 2, 1) := by decide +kernel
theorem dX4_layLogs_12 : decode cX4_layLogs 12 = .ok (.bipush 40, 2) := by decide +kernel
theorem dX4_layLogs_14 : decode cX4_layLogs 14 = .ok (.if_icmp .le 13, 3) := by decide +kernel
theorem dX4_layLogs_17 : decode cX4_layLogs 17 = .ok (.new 34, 3) := by decide +kernel
theorem dX4_layLogs_20 : decode cX4_layLogs 20 = .ok (.dup, 1) := by decide +kernel
theorem dX4_layLogs_21 : decode cX4_layLogs 21 = .ok (.ldc 36, 2) := by decide +kernel
theorem dX4_layLogs_23 : decode cX4_layLogs 23 = .ok (.invokespecial 38, 3) := by decide +kernel
theorem dX4_layLogs_26 : decode cX4_layLogs 26 = .ok (.athrow, 1) := by decide +kernel
theorem dX4_layLogs_27 : decode cX4_layLogs 27 = .ok (.aload_n 3, 1) := by decide +kernel
theorem dX4_layLogs_28 : decode cX4_layLogs 28 = .ok (.bipush 40, 2) := by decide +kernel
theorem dX4_layLogs_30 : decode cX4_layLogs 30 = .ok (.aload_n 3, 1) := by decide +kernel
theorem dX4_layLogs_31 : decode cX4_layLogs 31 = .ok (.getfield 39, 3) := by decide +kernel
theorem dX4_layLogs_34 : decode cX4_layLogs 34 = .ok (.iload_n 2, 1) := by decide +kernel
theorem dX4_layLogs_35 : decode cX4_layLogs 35 = .ok (.iadd, 1) := by decide +kernel
theorem dX4_layLogs_36 : decode cX4_layLogs 36 = .ok (.invokestatic 45, 3) := by decide +kernel
theorem dX4_layLogs_39 : decode cX4_layLogs 39 = .ok (.putfield 39, 3) := by decide +kernel
theorem dX4_layLogs_42 : decode cX4_layLogs 42 = .ok (.aload_n 3, 1) := by decide +kernel
theorem dX4_layLogs_43 : decode cX4_layLogs 43 = .ok (.getfield 39, 3) := by decide +kernel
theorem dX4_layLogs_46 : decode cX4_layLogs 46 = .ok (.ireturn, 1) := by decide +kernel
theorem dX4_addSpit_0 : decode cX4_addSpit 0 = .ok (.aload_n 0, 1) := by decide +kernel
theorem dX4_addSpit_1 : decode cX4_addSpit 1 = .ok (.iload_n 1, 1) := by decide +kernel
theorem dX4_addSpit_2 : decode cX4_addSpit 2 = .ok (.invokevirtual 30, 3) := by decide +kernel
theorem dX4_addSpit_5 : decode cX4_addSpit 5 = .ok (.pop, 1) := by decide +kernel
theorem dX4_addSpit_6 : decode cX4_addSpit 6 = .ok (.iload_n 2, 1) := by decide +kernel
theorem dX4_addSpit_7 : decode cX4_addSpit 7 = .ok (.invokestatic 51, 3) := by decide +kernel
theorem dX4_addSpit_10 : decode cX4_addSpit 10 = .ok (.aload_n 0, 1) := by decide +kernel
theorem dX4_addSpit_11 : decode cX4_addSpit 11 = .ok (.getfield 10, 3) := by decide +kernel
theorem dX4_addSpit_14 : decode cX4_addSpit 14 = .ok (.iload_n 1, 1) := by decide +kernel
theorem dX4_addSpit_15 : decode cX4_addSpit 15 = .ok (.iload_n 2, 1) := by decide +kernel
theorem dX4_addSpit_16 : decode cX4_addSpit 16 = .ok (.invokevirtual 55, 3) := by decide +kernel
theorem dX4_addSpit_19 : decode cX4_addSpit 19 = .ok (.istore_n 3, 1) := by decide +kernel
theorem dX4_addSpit_20 : decode cX4_addSpit 20 = .ok (.iload_n 3, 1) := by decide +kernel
theorem dX4_addSpit_21 : decode cX4_addSpit 21 = .ok (.iconst (-1), 1) := by decide +kernel
theorem dX4_addSpit_22 : decode cX4_addSpit 22 = .ok (.if_icmp .ne 13, 3) := by decide +kernel
theorem dX4_addSpit_25 : decode cX4_addSpit 25 = .ok (.new 23, 3) := by decide +kernel
theorem dX4_addSpit_28 : decode cX4_addSpit 28 = .ok (.dup, 1) := by decide +kernel
theorem dX4_addSpit_29 : decode cX4_addSpit 29 = .ok (.ldc 58, 2) := by decide +kernel
theorem dX4_addSpit_31 : decode cX4_addSpit 31 = .ok (.invokespecial 27, 3) := by decide +kernel
theorem dX4_addSpit_34 : decode cX4_addSpit 34 = .ok (.athrow, 1) := by decide +kernel
theorem dX4_addSpit_35 : decode cX4_addSpit 35 = .ok (.iload_n 3, 1) := by decide +kernel
theorem dX4_addSpit_36 : decode cX4_addSpit 36 = .ok (.ireturn, 1) := by decide +kernel
theorem dX4_moveSpit_0 : decode cX4_moveSpit 0 = .ok (.aload_n 0, 1) := by decide +kernel
theorem dX4_moveSpit_1 : decode cX4_moveSpit 1 = .ok (.iload_n 1, 1) := by decide +kernel
theorem dX4_moveSpit_2 : decode cX4_moveSpit 2 = .ok (.invokevirtual 60, 3) := by decide +kernel
