theorem dX4_digest_61 : decode cX4_digest 61 = .ok (.getfield 141, 3) := by decide +kernel
theorem dX4_digest_64 : decode cX4_digest 64 = .ok (.i2l, 1) := by decide +kernel
theorem dX4_digest_65 : decode cX4_digest 65 = .ok (.invokestatic 196, 3) := by decide +kernel
theorem dX4_digest_68 : decode cX4_digest 68 = .ok (.lstore_n 1, 1) := by decide +kernel
theorem dX4_digest_69 : decode cX4_digest 69 = .ok (.aload_n 0, 1) := by decide +kernel
theorem dX4_digest_70 : decode cX4_digest 70 = .ok (.lload_n 1, 1) := by decide +kernel
theorem dX4_digest_71 : decode cX4_digest 71 = .ok (.invokevirtual 200, 3) := by decide +kernel
theorem dX4_digest_74 : decode cX4_digest 74 = .ok (.lstore_n 1, 1) := by decide +kernel
theorem dX4_digest_75 : decode cX4_digest 75 = .ok (.aload_n 0, 1) := by decide +kernel
theorem dX4_digest_76 : decode cX4_digest 76 = .ok (.lload_n 1, 1) := by decide +kernel
theorem dX4_digest_77 : decode cX4_digest 77 = .ok (.invokevirtual 204, 3) := by decide +kernel
theorem dX4_digest_80 : decode cX4_digest 80 = .ok (.lstore_n 1, 1) := by decide +kernel
theorem dX4_digest_81 : decode cX4_digest 81 = .ok (.aload_n 0, 1) := by decide +kernel
theorem dX4_digest_82 : decode cX4_digest 82 = .ok (.lload_n 1, 1) := by decide +kernel
theorem dX4_digest_83 : decode cX4_digest 83 = .ok (.invokevirtual 207, 3) := by decide +kernel
theorem dX4_digest_86 : decode cX4_digest 86 = .ok (.lreturn, 1) := by decide +kernel
theorem dX4_needFire_0 : decode cX4_needFire 0 = .ok (.aload_n 0, 1) := by decide +kernel
theorem dX4_needFire_1 : decode cX4_needFire 1 = .ok (.getfield 10, 3) := by decide +kernel
theorem dX4_needFire_4 : decode cX4_needFire 4 = .ok (.iload_n 1, 1) := by decide +kernel
theorem dX4_needFire_5 : decode cX4_needFire 5 = .ok (.invokevirtual 210, 3) := by decide +kernel
theorem dX4_needFire_8 : decode cX4_needFire 8 = .ok (.astore_n 2, 1) := by decide +kernel
theorem dX4_needFire_9 : decode cX4_needFire 9 = .ok (.aload_n 2, 1) := by decide +kernel
theorem dX4_needFire_10 : decode cX4_needFire 10 = .ok (.ifnonnull 13, 3) := by decide +kernel
theorem dX4_needFire_13 : decode cX4_needFire 13 = .ok (.new 155, 3) := by decide +kernel
theorem dX4_needFire_16 : decode cX4_needFire 16 = .ok (.dup, 1) := by decide +kernel
theorem dX4_needFire_17 : decode cX4_needFire 17 = .ok (.ldc 213, 2) := by decide +kernel
theorem dX4_needFire_19 : decode cX4_needFire 19 = .ok (.invokespecial 159, 3) := by decide +kernel
theorem dX4_needFire_22 : decode cX4_needFire 22 = .ok (.athrow, 1) := by decide +kernel
theorem dX4_needFire_23 : decode cX4_needFire 23 = .ok (.aload_n 2, 1) := by decide +kernel
theorem dX4_needFire_24 : decode cX4_needFire 24 = .ok (.areturn, 1) := by decide +kernel
theorem dX4_needSpit_0 : decode cX4_needSpit 0 = .ok (.aload_n 0, 1) := by decide +kernel
theorem dX4_needSpit_1 : decode cX4_needSpit 1 = .ok (.getfield 10, 3) := by decide +kernel
theorem dX4_needSpit_4 : decode cX4_needSpit 4 = .ok (.iload_n 1, 1) := by decide +kernel
theorem dX4_needSpit_5 : decode cX4_needSpit 5 = .ok (.invokevirtual 215, 3) := by decide +kernel
theorem dX4_needSpit_8 : decode cX4_needSpit 8 = .ok (.astore_n 2, 1) := by decide +kernel
theorem dX4_needSpit_9 : decode cX4_needSpit 9 = .ok (.aload_n 2, 1) := by decide +kernel
theorem dX4_needSpit_10 : decode cX4_needSpit 10 = .ok (.ifnonnull 13, 3) := by decide +kernel
theorem dX4_needSpit_13 : decode cX4_needSpit 13 = .ok (.new 155, 3) := by decide +kernel
theorem dX4_needSpit_16 : decode cX4_needSpit 16 = .ok (.dup, 1) := by decide +kernel
theorem dX4_needSpit_17 : decode cX4_needSpit 17 = .ok (.ldc 218, 2) := by decide +kernel
theorem dX4_needSpit_19 : decode cX4_needSpit 19 = .ok (.invokespecial 159, 3) := by decide +kernel
theorem dX4_needSpit_22 : decode cX4_needSpit 22 = .ok (.athrow, 1) := by decide +kernel
theorem dX4_needSpit_23 : decode cX4_needSpit 23 = .ok (.aload_n 2, 1) := by decide +kernel
theorem dX4_needSpit_24 : decode cX4_needSpit 24 = .ok (.areturn, 1) := by decide +kernel
theorem dX4_needRoast_0 : decode cX4_needRoast 0 = .ok (.aload_n 0, 1) := by decide +kernel
theorem dX4_needRoast_1 : decode cX4_needRoast 1 = .ok (.getfield 10, 3) := by decide +kernel
theorem dX4_needRoast_4 : decode cX4_needRoast 4 = .ok (.iload_n 1, 1) := by decide +kernel
theorem dX4_needRoast_5 : decode cX4_needRoast 5 = .ok (.invokevirtual 220, 3) := by decide +kernel
theorem dX4_needRoast_8 : decode cX4_needRoast 8 = .ok (.astore_n 2, 1) := by decide +kernel
theorem dX4_needRoast_9 : decode cX4_needRoast 9 = .ok (.aload_n 2, 1) := by decide +kernel
theorem dX4_needRoast_10 : decode cX4_needRoast 10 = .ok (.ifnonnull 13, 3) := by decide +kernel
theorem dX4_needRoast_13 : decode cX4_needRoast 13 = .ok (.new 155, 3) := by decide +kernel
theorem dX4_needRoast_16 : decode cX4_needRoast 16 = .ok (.dup, 1) := by decide +kernel
theorem dX4_needRoast_17 : decode cX4_needRoast 17 = .ok (.ldc 223, 2) := by decide +kernel
theorem dX4_needRoast_19 : decode cX4_needRoast 19 = .ok (.invokespecial 159, 3) := by decide +kernel
theorem dX4_needRoast_22 : decode cX4_needRoast 22 = .ok (.athrow, 1) := by decide +kernel
theorem dX4_needRoast_23 : decode cX4_needRoast 23 = .ok (.aload_n 2, 1) := by decide +kernel
theorem dX4_needRoast_24 : decode cX4_needRoast 24 = .ok (.areturn, 1) := by decide +kernel
theorem dX4_needRoastOf_0 : decode cX4_needRoastOf 0 = .ok (.aload_n 0, 1) := by decide +kernel
theorem dX4_needRoastOf_1 : decode cX4_needRoastOf 1 = .ok (.getfield 10, 3) := by decide +kernel
theorem dX4_needRoastOf_4 : decode cX4_needRoastOf 4 = .ok (.aload_n 1, 1) := by decide +kernel
theorem dX4_needRoastOf_5 : decode cX4_needRoastOf 5 = .ok (.getfield 110, 3) := by decide +kernel
theorem dX4_needRoastOf_8 : decode cX4_needRoastOf 8 = .ok (.invokevirtual 220, 3) := by decide +kernel
theorem dX4_needRoastOf_11 : decode cX4_needRoastOf 11 = .ok (.astore_n 2, 1) := by decide +kernel
theorem dX4_needRoastOf_12 : decode cX4_needRoastOf 12 = .ok (.aload_n 2, 1) := by decide +kernel
theorem dX4_needRoastOf_13 : decode cX4_needRoastOf 13 = .ok (.ifnonnull 13, 3) := by decide +kernel
theorem dX4_needRoastOf_16 : decode cX4_needRoastOf 16 = .ok (.new 23, 3) := by decide +kernel
theorem dX4_needRoastOf_19 : decode cX4_needRoastOf 19 = .ok (.dup, 1) := by decide +kernel
theorem dX4_needRoastOf_20 : decode cX4_needRoastOf 20 = .ok (.ldc 225, 2) := by decide +kernel
theorem dX4_needRoastOf_22 : decode cX4_needRoastOf 22 = .ok (.invokespecial 27, 3) := by decide +kernel
theorem dX4_needRoastOf_25 : decode cX4_needRoastOf 25 = .ok (.athrow, 1) := by decide +kernel
theorem dX4_needRoastOf_26 : decode cX4_needRoastOf 26 = .ok (.aload_n 2, 1) := by decide +kernel
theorem dX4_needRoastOf_27 : decode cX4_needRoastOf 27 = .ok (.areturn, 1) := by decide +kernel
theorem dX4_needFeet_0 : decode cX4_needFeet 0 = .ok (.iload_n 0, 1) := by decide +kernel
theorem dX4_needFeet_1 : decode cX4_needFeet 1 = .ok (.iconst 1, 1) := by decide +kernel
theorem dX4_needFeet_2 : decode cX4_needFeet 2 = .ok (.if_icmp .lt 8, 3) := by decide +kernel
theorem dX4_needFeet_5 : decode cX4_needFeet 5 = .ok (.iload_n 0, 1) := by decide +kernel
theorem dX4_needFeet_6 : decode cX4_needFeet 6 = .ok (.iconst 3, 1) := by decide +kernel
theorem dX4_needFeet_7 : decode cX4_needFeet 7 = .ok (.if_icmp .le 13, 3) := by decide +kernel
theorem dX4_needFeet_10 : decode cX4_needFeet 10 = .ok (.new 34, 3) := by decide +kernel
theorem dX4_needFeet_13 : decode cX4_needFeet 13 = .ok (.dup, 1) := by decide +kernel
theorem dX4_needFeet_14 : decode cX4_needFeet 14 = .ok (.ldc 227, 2) := by decide +kernel
theorem dX4_needFeet_16 : decode cX4_needFeet 16 = .ok (.invokespecial 38, 3) := by decide +kernel
theorem dX4_needFeet_19 : decode cX4_needFeet 19 = .ok (.athrow, 1) := by decide +kernel
theorem dX4_needFeet_20 : decode cX4_needFeet 20 = .ok (.return_, 1) := by decide +kernel
theorem dX4_needPounds_0 : decode cX4_needPounds 0 = .ok (.iload_n 0, 1) := by decide +kernel
theorem dX4_needPounds_1 : decode cX4_needPounds 1 = .ok (.iconst 1, 1) := by decide +kernel
theorem dX4_needPounds_2 : decode cX4_needPounds 2 = .ok (.if_icmp .lt 9, 3) := by decide +kernel
theorem dX4_needPounds_5 : decode cX4_needPounds 5 = .ok (.iload_n 0, 1) := by decide +kernel
theorem dX4_needPounds_6 : decode cX4_needPounds 6 = .ok (.bipush 12, 2) := by decide +kernel
theorem dX4_needPounds_8 : decode cX4_needPounds 8 = .ok (.if_icmp .le 13, 3) := by decide +kernel
theorem dX4_needPounds_11 : decode cX4_needPounds 11 = .ok (.new 34, 3) := by decide +kernel
theorem dX4_needPounds_14 : decode cX4_needPounds 14 = .ok (.dup, 1) := by decide +kernel
theorem dX4_needPounds_15 : decode cX4_needPounds 15 = .ok (.ldc 229, 2) := by decide +kernel
theorem dX4_needPounds_17 : decode cX4_needPounds 17 = .ok (.invokespecial 38, 3) := by decide +kernel
theorem dX4_needPounds_20 : decode cX4_needPounds 20 = .ok (.athrow, 1) := by decide +kernel
theorem dX4_needPounds_21 : decode cX4_needPounds 21 = .ok (.return_, 1) := by decide +kernel
theorem dX4_aheadUntilDone_0 : decode cX4_aheadUntilDone 0 = .ok (.aload_n 0, 1) := by decide +kernel
theorem dX4_aheadUntilDone_1 : decode cX4_aheadUntilDone 1 = .ok (.getfield 16, 3) := by decide +kernel
theorem dX4_aheadUntilDone_4 : decode cX4_aheadUntilDone 4 = .ok (.iload_n 1, 1) := by decide +kernel
theorem dX4_aheadUntilDone_5 : decode cX4_aheadUntilDone 5 = .ok (.invokevirtual 220, 3) := by decide +kernel
theorem dX4_aheadUntilDone_8 : decode cX4_aheadUntilDone 8 = .ok (.astore_n 2, 1) := by decide +kernel
theorem dX4_aheadUntilDone_9 : decode cX4_aheadUntilDone 9 = .ok (.aload_n 2, 1) := by decide +kernel
theorem dX4_aheadUntilDone_10 : decode cX4_aheadUntilDone 10 = .ok (.ifnonnull 5, 3) := by decide +kernel
theorem dX4_aheadUntilDone_13 : decode cX4_aheadUntilDone 13 = .ok (.iconst (-1), 1) := by decide +kernel
theorem dX4_aheadUntilDone_14 : decode cX4_aheadUntilDone 14 = .ok (.ireturn, 1) := by decide +kernel
theorem dX4_aheadUntilDone_15 : decode cX4_aheadUntilDone 15 = .ok (.iconst 0, 1) := by decide +kernel
theorem dX4_aheadUntilDone_16 : decode cX4_aheadUntilDone 16 = .ok (.istore_n 3, 1) := by decide +kernel
theorem dX4_aheadUntilDone_17 : decode cX4_aheadUntilDone 17 = .ok (.iload_n 3, 1) := by decide +kernel
theorem dX4_aheadUntilDone_18 : decode cX4_aheadUntilDone 18 = .ok (.sipush 200, 3) := by decide +kernel
theorem dX4_aheadUntilDone_21 : decode cX4_aheadUntilDone 21 = .ok (.if_icmp .ge 33, 3) := by decide +kernel
theorem dX4_aheadUntilDone_24 : decode cX4_aheadUntilDone 24 = .ok (.aload_n 2, 1) := by decide +kernel
theorem dX4_aheadUntilDone_25 : decode cX4_aheadUntilDone 25 = .ok (.invokevirtual 167, 3) := by decide +kernel
theorem dX4_aheadUntilDone_28 : decode cX4_aheadUntilDone 28 = .ok (.ifCond .ne 26, 3) := by decide +kernel
theorem dX4_aheadUntilDone_31 : decode cX4_aheadUntilDone 31 = .ok (.aload_n 2, 1) := by decide +kernel
theorem dX4_aheadUntilDone_32 : decode cX4_aheadUntilDone 32 = .ok (.invokevirtual 163, 3) := by decide +kernel
theorem dX4_aheadUntilDone_35 : decode cX4_aheadUntilDone 35 = .ok (.ifCond .eq 5, 3) := by decide +kernel
theorem dX4_aheadUntilDone_38 : decode cX4_aheadUntilDone 38 = .ok (.iload_n 3, 1) := by decide +kernel
theorem dX4_aheadUntilDone_39 : decode cX4_aheadUntilDone 39 = .ok (.ireturn, 1) := by decide +kernel
theorem dX4_aheadUntilDone_40 : decode cX4_aheadUntilDone 40 = .ok (.aload_n 0, 1) := by decide +kernel
theorem dX4_aheadUntilDone_41 : decode cX4_aheadUntilDone 41 = .ok (.getfield 16, 3) := by decide +kernel
theorem dX4_aheadUntilDone_44 : decode cX4_aheadUntilDone 44 = .ok (.invokevirtual 231, 3) := by decide +kernel
theorem dX4_aheadUntilDone_47 : decode cX4_aheadUntilDone 47 = .ok (.pop, 1) := by decide +kernel
theorem dX4_aheadUntilDone_48 : decode cX4_aheadUntilDone 48 = .ok (.iinc 3 1, 3) := by decide +kernel
theorem dX4_aheadUntilDone_51 : decode cX4_aheadUntilDone 51 = .ok (.goto (-34), 3) := by decide +kernel
theorem dX4_aheadUntilDone_54 : decode cX4_aheadUntilDone 54 = .ok (.aload_n 2, 1) := by decide +kernel
theorem dX4_aheadUntilDone_55 : decode cX4_aheadUntilDone 55 = .ok (.invokevirtual 163, 3) := by decide +kernel
theorem dX4_aheadUntilDone_58 : decode cX4_aheadUntilDone 58 = .ok (.ifCond .eq 9, 3) := by decide +kernel
theorem dX4_aheadUntilDone_61 : decode cX4_aheadUntilDone 61 = .ok (.sipush 200, 3) := by decide +kernel
theorem dX4_aheadUntilDone_64 : decode cX4_aheadUntilDone 64 = .ok (.goto 4, 3) := by decide +kernel
theorem dX4_aheadUntilDone_67 : decode cX4_aheadUntilDone 67 = .ok (.iconst (-1), 1) := by decide +kernel
theorem dX4_aheadUntilDone_68 : decode cX4_aheadUntilDone 68 = .ok (.ireturn, 1) := by decide +kernel
theorem dX4_aheadUntilBurnt_0 : decode cX4_aheadUntilBurnt 0 = .ok (.aload_n 0, 1) := by decide +kernel
theorem dX4_aheadUntilBurnt_1 : decode cX4_aheadUntilBurnt 1 = .ok (.getfield 16, 3) := by decide +kernel
theorem dX4_aheadUntilBurnt_4 : decode cX4_aheadUntilBurnt 4 = .ok (.iload_n 1, 1) := by decide +kernel
theorem dX4_aheadUntilBurnt_5 : decode cX4_aheadUntilBurnt 5 = .ok (.invokevirtual 220, 3) := by decide +kernel
theorem dX4_aheadUntilBurnt_8 : decode cX4_aheadUntilBurnt 8 = .ok (.astore_n 2, 1) := by decide +kernel
theorem dX4_aheadUntilBurnt_9 : decode cX4_aheadUntilBurnt 9 = .ok (.aload_n 2, 1) := by decide +kernel
theorem dX4_aheadUntilBurnt_10 : decode cX4_aheadUntilBurnt 10 = .ok (.ifnonnull 5, 3) := by decide +kernel
theorem dX4_aheadUntilBurnt_13 : decode cX4_aheadUntilBurnt 13 = .ok (.iconst (-1), 1) := by decide +kernel
theorem dX4_aheadUntilBurnt_14 : decode cX4_aheadUntilBurnt 14 = .ok (.ireturn, 1) := by decide +kernel
theorem dX4_aheadUntilBurnt_15 : decode cX4_aheadUntilBurnt 15 = .ok (.iconst 0, 1) := by decide +kernel
theorem dX4_aheadUntilBurnt_16 : decode cX4_aheadUntilBurnt 16 = .ok (.istore_n 3, 1) := by decide +kernel
theorem dX4_aheadUntilBurnt_17 : decode cX4_aheadUntilBurnt 17 = .ok (.iload_n 3, 1) := by decide +kernel
theorem dX4_aheadUntilBurnt_18 : decode cX4_aheadUntilBurnt 18 = .ok (.sipush 200, 3) := by decide +kernel
theorem dX4_aheadUntilBurnt_21 : decode cX4_aheadUntilBurnt 21 = .ok (.if_icmp .ge 26, 3) := by decide +kernel
theorem dX4_aheadUntilBurnt_24 : decode cX4_aheadUntilBurnt 24 = .ok (.aload_n 2, 1) := by decide +kernel
theorem dX4_aheadUntilBurnt_25 : decode cX4_aheadUntilBurnt 25 = .ok (.invokevirtual 167, 3) := by decide +kernel
theorem dX4_aheadUntilBurnt_28 : decode cX4_aheadUntilBurnt 28 = .ok (.ifCond .eq 5, 3) := by decide +kernel
theorem dX4_aheadUntilBurnt_31 : decode cX4_aheadUntilBurnt 31 = .ok (.iload_n 3, 1) := by decide +kernel
theorem dX4_aheadUntilBurnt_32 : decode cX4_aheadUntilBurnt 32 = .ok (.ireturn, 1) := by decide +kernel
theorem dX4_aheadUntilBurnt_33 : decode cX4_aheadUntilBurnt 33 = .ok (.aload_n 0, 1) := by decide +kernel
theorem dX4_aheadUntilBurnt_34 : decode cX4_aheadUntilBurnt 34 = .ok (.getfield 16, 3) := by decide +kernel
theorem dX4_aheadUntilBurnt_37 : decode cX4_aheadUntilBurnt 37 = .ok (.invokevirtual 231, 3) := by decide +kernel
theorem dX4_aheadUntilBurnt_40 : decode cX4_aheadUntilBurnt 40 = .ok (.pop, 1) := by decide +kernel
theorem dX4_aheadUntilBurnt_41 : decode cX4_aheadUntilBurnt 41 = .ok (.iinc 3 1, 3) := by decide +kernel
theorem dX4_aheadUntilBurnt_44 : decode cX4_aheadUntilBurnt 44 = .ok (.goto (-27), 3) := by decide +kernel
theorem dX4_aheadUntilBurnt_47 : decode cX4_aheadUntilBurnt 47 = .ok (.aload_n 2, 1) := by decide +kernel
theorem dX4_aheadUntilBurnt_48 : decode cX4_aheadUntilBurnt 48 = .ok (.invokevirtual 167, 3) := by decide +kernel
theorem dX4_aheadUntilBurnt_51 : decode cX4_aheadUntilBurnt 51 = .ok (.ifCond .eq 9, 3) := by decide +kernel
theorem dX4_aheadUntilBurnt_54 : decode cX4_aheadUntilBurnt 54 = .ok (.sipush 200, 3) := by decide +kernel
theorem dX4_aheadUntilBurnt_57 : decode cX4_aheadUntilBurnt 57 = .ok (.goto 4, 3) := by decide +kernel
theorem dX4_aheadUntilBurnt_60 : decode cX4_aheadUntilBurnt 60 = .ok (.iconst (-1), 1) := by decide +kernel
theorem dX4_aheadUntilBurnt_61 : decode cX4_aheadUntilBurnt 61 = .ok (.ireturn, 1) := by decide +kernel
theorem dX4_untilDoneTurnedEach_0 : decode cX4_untilDoneTurnedEach 0 = .ok (.aload_n 0, 1) := by decide +kernel
theorem dX4_untilDoneTurnedEach_1 : decode cX4_untilDoneTurnedEach 1 = .ok (.getfield 16, 3) := by decide +kernel
theorem dX4_untilDoneTurnedEach_4 : decode cX4_untilDoneTurnedEach 4 = .ok (.aload_n 0, 1) := by decide +kernel
theorem dX4_untilDoneTurnedEach_5 : decode cX4_untilDoneTurnedEach 5 = .ok (.getfield 10, 3) := by decide +kernel
theorem dX4_untilDoneTurnedEach_8 : decode cX4_untilDoneTurnedEach 8 = .ok (.invokevirtual 170, 3) := by decide +kernel
theorem dX4_untilDoneTurnedEach_11 : decode cX4_untilDoneTurnedEach 11 = .ok (.aload_n 0, 1) := by decide +kernel
theorem dX4_untilDoneTurnedEach_12 : decode cX4_untilDoneTurnedEach 12 = .ok (.getfield 16, 3) := by decide +kernel
theorem dX4_untilDoneTurnedEach_15 : decode cX4_untilDoneTurnedEach 15 = .ok (.iload_n 1, 1) := by decide +kernel
theorem dX4_untilDoneTurnedEach_16 : decode cX4_untilDoneTurnedEach 16 = .ok (.invokevirtual 215, 3) := by decide +kernel
theorem dX4_untilDoneTurnedEach_19 : decode cX4_untilDoneTurnedEach 19 = .ok (.astore_n 3, 1) := by decide +kernel
theorem dX4_untilDoneTurnedEach_20 : decode cX4_untilDoneTurnedEach 20 = .ok (.aload_n 3, 1) := by decide +kernel
theorem dX4_untilDoneTurnedEach_21 : decode cX4_untilDoneTurnedEach 21 = .ok (.ifnonnull 5, 3) := by decide +kernel
theorem dX4_untilDoneTurnedEach_24 : decode cX4_untilDoneTurnedEach 24 = .ok (.iconst (-1), 1) := by decide +kernel
theorem dX4_untilDoneTurnedEach_25 : decode cX4_untilDoneTurnedEach 25 = .ok (.ireturn, 1) := by decide +kernel
theorem dX4_untilDoneTurnedEach_26 : decode cX4_untilDoneTurnedEach 26 = .ok (.aload_n 3, 1) := by decide +kernel
theorem dX4_untilDoneTurnedEach_27 : decode cX4_untilDoneTurnedEach 27 = .ok (.iload_n 2, 1) := by decide +kernel
theorem dX4_untilDoneTurnedEach_28 : decode cX4_untilDoneTurnedEach 28 = .ok (.invokevirtual 74, 3) := by decide +kernel
theorem dX4_untilDoneTurnedEach_31 : decode cX4_untilDoneTurnedEach 31 = .ok (.aload_n 0, 1) := by decide +kernel
theorem dX4_untilDoneTurnedEach_32 : decode cX4_untilDoneTurnedEach 32 = .ok (.aload_n 3, 1) := by decide +kernel
theorem dX4_untilDoneTurnedEach_33 : decode cX4_untilDoneTurnedEach 33 = .ok (.getfield 110, 3) := by decide +kernel
theorem dX4_untilDoneTurnedEach_36 : decode cX4_untilDoneTurnedEach 36 = .ok (.invokevirtual 174, 3) := by decide +kernel
theorem dX4_untilDoneTurnedEach_39 : decode cX4_untilDoneTurnedEach 39 = .ok (.ireturn, 1) := by decide +kernel
theorem dX4_untilDoneHungOn_0 : decode cX4_untilDoneHungOn 0 = .ok (.aload_n 0, 1) := by decide +kernel
theorem dX4_untilDoneHungOn_1 : decode cX4_untilDoneHungOn 1 = .ok (.getfield 16, 3) := by decide +kernel
theorem dX4_untilDoneHungOn_4 : decode cX4_untilDoneHungOn 4 = .ok (.aload_n 0, 1) := by decide +kernel
theorem dX4_untilDoneHungOn_5 : decode cX4_untilDoneHungOn 5 = .ok (.getfield 10, 3) := by decide +kernel
theorem dX4_untilDoneHungOn_8 : decode cX4_untilDoneHungOn 8 = .ok (.invokevirtual 170, 3) := by decide +kernel
theorem dX4_untilDoneHungOn_11 : decode cX4_untilDoneHungOn 11 = .ok (.aload_n 0, 1) := by decide +kernel
theorem dX4_untilDoneHungOn_12 : decode cX4_untilDoneHungOn 12 = .ok (.aload_n 0, 1) := by decide +kernel
theorem dX4_untilDoneHungOn_13 : decode cX4_untilDoneHungOn 13 = .ok (.getfield 16, 3) := by decide +kernel
theorem dX4_untilDoneHungOn_16 : decode cX4_untilDoneHungOn 16 = .ok (.iload_n 1, 1) := by decide +kernel
theorem dX4_untilDoneHungOn_17 : decode cX4_untilDoneHungOn 17 = .ok (.iload_n 2, 1) := by decide +kernel
theorem dX4_untilDoneHungOn_18 : decode cX4_untilDoneHungOn 18 = .ok (.invokevirtual 85, 3) := by decide +kernel
theorem dX4_untilDoneHungOn_21 : decode cX4_untilDoneHungOn 21 = .ok (.invokevirtual 174, 3) := by decide +kernel
theorem dX4_untilDoneHungOn_24 : decode cX4_untilDoneHungOn 24 = .ok (.ireturn, 1) := by decide +kernel
theorem dX4_mix_0 : decode cX4_mix 0 = .ok (.lload_n 0, 1) := by decide +kernel
theorem dX4_mix_1 : decode cX4_mix 1 = .ok (.ldc2_w 234, 3) := by decide +kernel
theorem dX4_mix_4 : decode cX4_mix 4 = .ok (.lmul, 1) := by decide +kernel
theorem dX4_mix_5 : decode cX4_mix 5 = .ok (.lload_n 2, 1) := by decide +kernel
theorem dX4_mix_6 : decode cX4_mix 6 = .ok (.ladd, 1) := by decide +kernel
theorem dX4_mix_7 : decode cX4_mix 7 = .ok (.lreturn, 1) := by decide +kernel
theorem dX4_mixFires_0 : decode cX4_mixFires 0 = .ok (.lload_n 1, 1) := by decide +kernel
theorem dX4_mixFires_1 : decode cX4_mixFires 1 = .ok (.lstore_n 3, 1) := by decide +kernel
theorem dX4_mixFires_2 : decode cX4_mixFires 2 = .ok (.iconst 0, 1) := by decide +kernel
theorem dX4_mixFires_3 : decode cX4_mixFires 3 = .ok (.istore 5, 2) := by decide +kernel
theorem dX4_mixFires_5 : decode cX4_mixFires 5 = .ok (.iload 5, 2) := by decide +kernel
theorem dX4_mixFires_7 : decode cX4_mixFires 7 = .ok (.aload_n 0, 1) := by decide +kernel
theorem dX4_mixFires_8 : decode cX4_mixFires 8 = .ok (.getfield 10, 3) := by decide +kernel
theorem dX4_mixFires_11 : decode cX4_mixFires 11 = .ok (.getfield 236, 3) := by decide +kernel
theorem dX4_mixFires_14 : decode cX4_mixFires 14 = .ok (.arraylength, 1) := by decide +kernel
theorem dX4_mixFires_15 : decode cX4_mixFires 15 = .ok (.if_icmp .ge 55, 3) := by decide +kernel
theorem dX4_mixFires_18 : decode cX4_mixFires 18 = .ok (.iload 5, 2) := by decide +kernel
theorem dX4_mixFires_20 : decode cX4_mixFires 20 = .ok (.aload_n 0, 1) := by decide +kernel
theorem dX4_mixFires_21 : decode cX4_mixFires 21 = .ok (.getfield 10, 3) := by decide +kernel
theorem dX4_mixFires_24 : decode cX4_mixFires 24 = .ok (.getfield 125, 3) := by decide +kernel
theorem dX4_mixFires_27 : decode cX4_mixFires 27 = .ok (.if_icmp .ge 43, 3) := by decide +kernel
theorem dX4_mixFires_30 : decode cX4_mixFires 30 = .ok (.aload_n 0, 1) := by decide +kernel
theorem dX4_mixFires_31 : decode cX4_mixFires 31 = .ok (.getfield 10, 3) := by decide +kernel
theorem dX4_mixFires_34 : decode cX4_mixFires 34 = .ok (.getfield 236, 3) := by decide +kernel
theorem dX4_mixFires_37 : decode cX4_mixFires 37 = .ok (.iload 5, 2) := by decide +kernel
theorem dX4_mixFires_39 : decode cX4_mixFires 39 = .ok (.aaload, 1) := by decide +kernel
theorem dX4_mixFires_40 : decode cX4_mixFires 40 = .ok (.astore 6, 2) := by decide +kernel
theorem dX4_mixFires_42 : decode cX4_mixFires 42 = .ok (.lload_n 3, 1) := by decide +kernel
theorem dX4_mixFires_43 : decode cX4_mixFires 43 = .ok (.aload 6, 2) := by decide +kernel
theorem dX4_mixFires_45 : decode cX4_mixFires 45 = .ok (.getfield 39, 3) := by decide +kernel
theorem dX4_mixFires_48 : decode cX4_mixFires 48 = .ok (.i2l, 1) := by decide +kernel
theorem dX4_mixFires_49 : decode cX4_mixFires 49 = .ok (.invokestatic 196, 3) := by decide +kernel
theorem dX4_mixFires_52 : decode cX4_mixFires 52 = .ok (.lstore_n 3, 1) := by decide +kernel
theorem dX4_mixFires_53 : decode cX4_mixFires 53 = .ok (.lload_n 3, 1) := by decide +kernel
theorem dX4_mixFires_54 : decode cX4_mixFires 54 = .ok (.aload 6, 2) := by decide +kernel
theorem dX4_mixFires_56 : decode cX4_mixFires 56 = .ok (.getfield 128, 3) := by decide +kernel
theorem dX4_mixFires_59 : decode cX4_mixFires 59 = .ok (.i2l, 1) := by decide +kernel
theorem dX4_mixFires_60 : decode cX4_mixFires 60 = .ok (.invokestatic 196, 3) := by decide +kernel
theorem dX4_mixFires_63 : decode cX4_mixFires 63 = .ok (.lstore_n 3, 1) := by decide +kernel
theorem dX4_mixFires_64 : decode cX4_mixFires 64 = .ok (.iinc 5 1, 3) := by decide +kernel
theorem dX4_mixFires_67 : decode cX4_mixFires 67 = .ok (.goto (-62), 3) := by decide +kernel
theorem dX4_mixFires_70 : decode cX4_mixFires 70 = .ok (.lload_n 3, 1) := by decide +kernel
theorem dX4_mixFires_71 : decode cX4_mixFires 71 = .ok (.lreturn, 1) := by decide +kernel
theorem dX4_mixSpits_0 : decode cX4_mixSpits 0 = .ok (.lload_n 1, 1) := by decide +kernel
theorem dX4_mixSpits_1 : decode cX4_mixSpits 1 = .ok (.lstore_n 3, 1) := by decide +kernel
theorem dX4_mixSpits_2 : decode cX4_mixSpits 2 = .ok (.iconst 0, 1) := by decide +kernel
theorem dX4_mixSpits_3 : decode cX4_mixSpits 3 = .ok (.istore 5, 2) := by decide +kernel
theorem dX4_mixSpits_5 : decode cX4_mixSpits 5 = .ok (.iload 5, 2) := by decide +kernel
theorem dX4_mixSpits_7 : decode cX4_mixSpits 7 = .ok (.aload_n 0, 1) := by decide +kernel
theorem dX4_mixSpits_8 : decode cX4_mixSpits 8 = .ok (.getfield 10, 3) := by decide +kernel
theorem dX4_mixSpits_11 : decode cX4_mixSpits 11 = .ok (.getfield 240, 3) := by decide +kernel
theorem dX4_mixSpits_14 : decode cX4_mixSpits 14 = .ok (.arraylength, 1) := by decide +kernel
theorem dX4_mixSpits_15 : decode cX4_mixSpits 15 = .ok (.if_icmp .ge 103, 3) := by decide +kernel
theorem dX4_mixSpits_18 : decode cX4_mixSpits 18 = .ok (.iload 5, 2) := by decide +kernel
theorem dX4_mixSpits_20 : decode cX4_mixSpits 20 = .ok (.aload_n 0, 1) := by decide +kernel
theorem dX4_mixSpits_21 : decode cX4_mixSpits 21 = .ok (.getfield 10, 3) := by decide +kernel
theorem dX4_mixSpits_24 : decode cX4_mixSpits 24 = .ok (.getfield 131, 3) := by decide +kernel
theorem dX4_mixSpits_27 : decode cX4_mixSpits 27 = .ok (.if_icmp .ge 91, 3) := by decide +kernel
theorem dX4_mixSpits_30 : decode cX4_mixSpits 30 = .ok (.aload_n 0, 1) := by decide +kernel
theorem dX4_mixSpits_31 : decode cX4_mixSpits 31 = .ok (.getfield 10, 3) := by decide +kernel
theorem dX4_mixSpits_34 : decode cX4_mixSpits 34 = .ok (.getfield 240, 3) := by decide +kernel
theorem dX4_mixSpits_37 : decode cX4_mixSpits 37 = .ok (.iload 5, 2) := by decide +kernel
theorem dX4_mixSpits_39 : decode cX4_mixSpits 39 = .ok (.aaload, 1) := by decide +kernel
theorem dX4_mixSpits_40 : decode cX4_mixSpits 40 = .ok (.astore 6, 2) := by decide +kernel
theorem dX4_mixSpits_42 : decode cX4_mixSpits 42 = .ok (.lload_n 3, 1) := by decide +kernel
theorem dX4_mixSpits_43 : decode cX4_mixSpits 43 = .ok (.aload 6, 2) := by decide +kernel
theorem dX4_mixSpits_45 : decode cX4_mixSpits 45 = .ok (.getfield 134, 3) := by decide +kernel
theorem dX4_mixSpits_48 : decode cX4_mixSpits 48 = .ok (.i2l, 1) := by decide +kernel
theorem dX4_mixSpits_49 : decode cX4_mixSpits 49 = .ok (.invokestatic 196, 3) := by decide +kernel
theorem dX4_mixSpits_52 : decode cX4_mixSpits 52 = .ok (.lstore_n 3, 1) := by decide +kernel
theorem dX4_mixSpits_53 : decode cX4_mixSpits 53 = .ok (.lload_n 3, 1) := by decide +kernel
theorem dX4_mixSpits_54 : decode cX4_mixSpits 54 = .ok (.aload 6, 2) := by decide +kernel
theorem dX4_mixSpits_56 : decode cX4_mixSpits 56 = .ok (.getfield 64, 3) := by decide +kernel
theorem dX4_mixSpits_59 : decode cX4_mixSpits 59 = .ok (.i2l, 1) := by decide +kernel
theorem dX4_mixSpits_60 : decode cX4_mixSpits 60 = .ok (.invokestatic 196, 3) := by decide +kernel
theorem dX4_mixSpits_63 : decode cX4_mixSpits 63 = .ok (.lstore_n 3, 1) := by decide +kernel
theorem dX4_mixSpits_64 : decode cX4_mixSpits 64 = .ok (.lload_n 3, 1) := by decide +kernel
theorem dX4_mixSpits_65 : decode cX4_mixSpits 65 = .ok (.aload_n 0, 1) := by decide +kernel
theorem dX4_mixSpits_66 : decode cX4_mixSpits 66 = .ok (.getfield 10, 3) := by decide +kernel
theorem dX4_mixSpits_69 : decode cX4_mixSpits 69 = .ok (.aload 6, 2) := by decide +kernel
theorem dX4_mixSpits_71 : decode cX4_mixSpits 71 = .ok (.invokevirtual 137, 3) := by decide +kernel
theorem dX4_mixSpits_74 : decode cX4_mixSpits 74 = .ok (.i2l, 1) := by decide +kernel
theorem dX4_mixSpits_75 : decode cX4_mixSpits 75 = .ok (.invokestatic 196, 3) := by decide +kernel
theorem dX4_mixSpits_78 : decode cX4_mixSpits 78 = .ok (.lstore_n 3, 1) := by decide +kernel
theorem dX4_mixSpits_79 : decode cX4_mixSpits 79 = .ok (.lload_n 3, 1) := by decide +kernel
theorem dX4_mixSpits_80 : decode cX4_mixSpits 80 = .ok (.aload 6, 2) := by decide +kernel
theorem dX4_mixSpits_82 : decode cX4_mixSpits 82 = .ok (.getfield 71, 3) := by decide +kernel
theorem dX4_mixSpits_85 : decode cX4_mixSpits 85 = .ok (.i2l, 1) := by decide +kernel
theorem dX4_mixSpits_86 : decode cX4_mixSpits 86 = .ok (.invokestatic 196, 3) := by decide +kernel
theorem dX4_mixSpits_89 : decode cX4_mixSpits 89 = .ok (.lstore_n 3, 1) := by decide +kernel
theorem dX4_mixSpits_90 : decode cX4_mixSpits 90 = .ok (.lload_n 3, 1) := by decide +kernel
theorem dX4_mixSpits_91 : decode cX4_mixSpits 91 = .ok (.aload 6, 2) := by decide +kernel
theorem dX4_mixSpits_93 : decode cX4_mixSpits 93 = .ok (.getfield 102, 3) := by decide +kernel
theorem dX4_mixSpits_96 : decode cX4_mixSpits 96 = .ok (.i2l, 1) := by decide +kernel
theorem dX4_mixSpits_97 : decode cX4_mixSpits 97 = .ok (.invokestatic 196, 3) := by decide +kernel
theorem dX4_mixSpits_100 : decode cX4_mixSpits 100 = .ok (.lstore_n 3, 1) := by decide +kernel
theorem dX4_mixSpits_101 : decode cX4_mixSpits 101 = .ok (.lload_n 3, 1) := by decide +kernel
theorem dX4_mixSpits_102 : decode cX4_mixSpits 102 = .ok (.aload 6, 2) := by decide +kernel
theorem dX4_mixSpits_104 : decode cX4_mixSpits 104 = .ok (.getfield 110, 3) := by decide +kernel
theorem dX4_mixSpits_107 : decode cX4_mixSpits 107 = .ok (.i2l, 1) := by decide +kernel
theorem dX4_mixSpits_108 : decode cX4_mixSpits 108 = .ok (.invokestatic 196, 3) := by decide +kernel
theorem dX4_mixSpits_111 : decode cX4_mixSpits 111 = .ok (.lstore_n 3, 1) := by decide +kernel
theorem dX4_mixSpits_112 : decode cX4_mixSpits 112 = .ok (.iinc 5 1, 3) := by decide +kernel
theorem dX4_mixSpits_115 : decode cX4_mixSpits 115 = .ok (.goto (-110), 3) := by decide +kernel
theorem dX4_mixSpits_118 : decode cX4_mixSpits 118 = .ok (.lload_n 3, 1) := by decide +kernel
theorem dX4_mixSpits_119 : decode cX4_mixSpits 119 = .ok (.lreturn, 1) := by decide +kernel
theorem dX4_mixRoasts_0 : decode cX4_mixRoasts 0 = .ok (.lload_n 1, 1) := by decide +kernel
theorem dX4_mixRoasts_1 : decode cX4_mixRoasts 1 = .ok (.lstore_n 3, 1) := by decide +kernel
theorem dX4_mixRoasts_2 : decode cX4_mixRoasts 2 = .ok (.iconst 0, 1) := by decide +kernel
theorem dX4_mixRoasts_3 : decode cX4_mixRoasts 3 = .ok (.istore 5, 2) := by decide +kernel
theorem dX4_mixRoasts_5 : decode cX4_mixRoasts 5 = .ok (.iload 5, 2) := by decide +kernel
theorem dX4_mixRoasts_7 : decode cX4_mixRoasts 7 = .ok (.aload_n 0, 1) := by decide +kernel
theorem dX4_mixRoasts_8 : decode cX4_mixRoasts 8 = .ok (.getfield 10, 3) := by decide +kernel
theorem dX4_mixRoasts_11 : decode cX4_mixRoasts 11 = .ok (.getfield 244, 3) := by decide +kernel
theorem dX4_mixRoasts_14 : decode cX4_mixRoasts 14 = .ok (.arraylength, 1) := by decide +kernel
theorem dX4_mixRoasts_15 : decode cX4_mixRoasts 15 = .ok (.if_icmp .ge 167, 3) := by decide +kernel
theorem dX4_mixRoasts_18 : decode cX4_mixRoasts 18 = .ok (.iload 5, 2) := by decide +kernel
theorem dX4_mixRoasts_20 : decode cX4_mixRoasts 20 = .ok (.aload_n 0, 1) := by decide +kernel
theorem dX4_mixRoasts_21 : decode cX4_mixRoasts 21 = .ok (.getfield 10, 3) := by decide +kernel
theorem dX4_mixRoasts_24 : decode cX4_mixRoasts 24 = .ok (.getfield 141, 3) := by decide +kernel
theorem dX4_mixRoasts_27 : decode cX4_mixRoasts 27 = .ok (.if_icmp .ge 155, 3) := by decide +kernel
theorem dX4_mixRoasts_30 : decode cX4_mixRoasts 30 = .ok (.aload_n 0, 1) := by decide +kernel
theorem dX4_mixRoasts_31 : decode cX4_mixRoasts 31 = .ok (.getfield 10, 3) := by decide +kernel
theorem dX4_mixRoasts_34 : decode cX4_mixRoasts 34 = .ok (.getfield 244, 3) := by decide +kernel
theorem dX4_mixRoasts_37 : decode cX4_mixRoasts 37 = .ok (.iload 5, 2) := by decide +kernel
theorem dX4_mixRoasts_39 : decode cX4_mixRoasts 39 = .ok (.aaload, 1) := by decide +kernel
theorem dX4_mixRoasts_40 : decode cX4_mixRoasts 40 = .ok (.astore 6, 2) := by decide +kernel
theorem dX4_mixRoasts_42 : decode cX4_mixRoasts 42 = .ok (.lload_n 3, 1) := by decide +kernel
theorem dX4_mixRoasts_43 : decode cX4_mixRoasts 43 = .ok (.aload 6, 2) := by decide +kernel
theorem dX4_mixRoasts_45 : decode cX4_mixRoasts 45 = .ok (.getfield 148, 3) := by decide +kernel
theorem dX4_mixRoasts_48 : decode cX4_mixRoasts 48 = .ok (.i2l, 1) := by decide +kernel
theorem dX4_mixRoasts_49 : decode cX4_mixRoasts 49 = .ok (.invokestatic 196, 3) := by decide +kernel
theorem dX4_mixRoasts_52 : decode cX4_mixRoasts 52 = .ok (.lstore_n 3, 1) := by decide +kernel
theorem dX4_mixRoasts_53 : decode cX4_mixRoasts 53 = .ok (.lload_n 3, 1) := by decide +kernel
theorem dX4_mixRoasts_54 : decode cX4_mixRoasts 54 = .ok (.aload 6, 2) := by decide +kernel
theorem dX4_mixRoasts_56 : decode cX4_mixRoasts 56 = .ok (.getfield 113, 3) := by decide +kernel
theorem dX4_mixRoasts_59 : decode cX4_mixRoasts 59 = .ok (.i2l, 1) := by decide +kernel
theorem dX4_mixRoasts_60 : decode cX4_mixRoasts 60 = .ok (.invokestatic 196, 3) := by decide +kernel
theorem dX4_mixRoasts_63 : decode cX4_mixRoasts 63 = .ok (.lstore_n 3, 1) := by decide +kernel
theorem dX4_mixRoasts_64 : decode cX4_mixRoasts 64 = .ok (.lload_n 3, 1) := by decide +kernel
theorem dX4_mixRoasts_65 : decode cX4_mixRoasts 65 = .ok (.aload 6, 2) := by decide +kernel
theorem dX4_mixRoasts_67 : decode cX4_mixRoasts 67 = .ok (.getfield 99, 3) := by decide +kernel
theorem dX4_mixRoasts_70 : decode cX4_mixRoasts 70 = .ok (.i2l, 1) := by decide +kernel
theorem dX4_mixRoasts_71 : decode cX4_mixRoasts 71 = .ok (.invokestatic 196, 3) := by decide +kernel
theorem dX4_mixRoasts_74 : decode cX4_mixRoasts 74 = .ok (.lstore_n 3, 1) := by decide +kernel
theorem dX4_mixRoasts_75 : decode cX4_mixRoasts 75 = .ok (.lload_n 3, 1) := by decide +kernel
theorem dX4_mixRoasts_76 : decode cX4_mixRoasts 76 = .ok (.aload 6, 2) := by decide +kernel
theorem dX4_mixRoasts_78 : decode cX4_mixRoasts 78 = .ok (.getfield 160, 3) := by decide +kernel
theorem dX4_mixRoasts_81 : decode cX4_mixRoasts 81 = .ok (.i2l, 1) := by decide +kernel
theorem dX4_mixRoasts_82 : decode cX4_mixRoasts 82 = .ok (.invokestatic 196, 3) := by decide +kernel
theorem dX4_mixRoasts_85 : decode cX4_mixRoasts 85 = .ok (.lstore_n 3, 1) := by decide +kernel
theorem dX4_mixRoasts_86 : decode cX4_mixRoasts 86 = .ok (.lload_n 3, 1) := by decide +kernel
theorem dX4_mixRoasts_87 : decode cX4_mixRoasts 87 = .ok (.aload 6, 2) := by decide +kernel
theorem dX4_mixRoasts_89 : decode cX4_mixRoasts 89 = .ok (.getfield 107, 3) := by decide +kernel
theorem dX4_mixRoasts_92 : decode cX4_mixRoasts 92 = .ok (.i2l, 1) := by decide +kernel
theorem dX4_mixRoasts_93 : decode cX4_mixRoasts 93 = .ok (.invokestatic 196, 3) := by decide +kernel
theorem dX4_mixRoasts_96 : decode cX4_mixRoasts 96 = .ok (.lstore_n 3, 1) := by decide +kernel
theorem dX4_mixRoasts_97 : decode cX4_mixRoasts 97 = .ok (.lload_n 3, 1) := by decide +kernel
theorem dX4_mixRoasts_98 : decode cX4_mixRoasts 98 = .ok (.aload 6, 2) := by decide +kernel
theorem dX4_mixRoasts_100 : decode cX4_mixRoasts 100 = .ok (.invokevirtual 163, 3) := by decide +kernel
theorem dX4_mixRoasts_103 : decode cX4_mixRoasts 103 = .ok (.ifCond .eq 7, 3) := by decide +kernel
theorem dX4_mixRoasts_106 : decode cX4_mixRoasts 106 = .ok (.lconst 1, 1) := by decide +kernel
theorem dX4_mixRoasts_107 : decode cX4_mixRoasts 107 = .ok (.goto 4, 3) := by decide +kernel
theorem dX4_mixRoasts_110 : decode cX4_mixRoasts 110 = .ok (.lconst 0, 1) := by decide +kernel
theorem dX4_mixRoasts_111 : decode cX4_mixRoasts 111 = .ok (.invokestatic 196, 3) := by decide +kernel
theorem dX4_mixRoasts_114 : decode cX4_mixRoasts 114 = .ok (.lstore_n 3, 1) := by decide +kernel
theorem dX4_mixRoasts_115 : decode cX4_mixRoasts 115 = .ok (.lload_n 3, 1) := by decide +kernel
theorem dX4_mixRoasts_116 : decode cX4_mixRoasts 116 = .ok (.aload 6, 2) := by decide +kernel
theorem dX4_mixRoasts_118 : decode cX4_mixRoasts 118 = .ok (.invokevirtual 167, 3) := by decide +kernel
theorem dX4_mixRoasts_121 : decode cX4_mixRoasts 121 = .ok (.ifCond .eq 7, 3) := by decide +kernel
theorem dX4_mixRoasts_124 : decode cX4_mixRoasts 124 = .ok (.lconst 1, 1) := by decide +kernel
theorem dX4_mixRoasts_125 : decode cX4_mixRoasts 125 = .ok (.goto 4, 3) := by decide +kernel
theorem dX4_mixRoasts_128 : decode cX4_mixRoasts 128 = .ok (.lconst 0, 1) := by decide +kernel
theorem dX4_mixRoasts_129 : decode cX4_mixRoasts 129 = .ok (.invokestatic 196, 3) := by decide +kernel
theorem dX4_mixRoasts_132 : decode cX4_mixRoasts 132 = .ok (.lstore_n 3, 1) := by decide +kernel
theorem dX4_mixRoasts_133 : decode cX4_mixRoasts 133 = .ok (.aload 6, 2) := by decide +kernel
theorem dX4_mixRoasts_135 : decode cX4_mixRoasts 135 = .ok (.getfield 151, 3) := by decide +kernel
theorem dX4_mixRoasts_138 : decode cX4_mixRoasts 138 = .ok (.astore 7, 2) := by decide +kernel
theorem dX4_mixRoasts_140 : decode cX4_mixRoasts 140 = .ok (.aload 7, 2) := by decide +kernel
theorem dX4_mixRoasts_142 : decode cX4_mixRoasts 142 = .ok (.arraylength, 1) := by decide +kernel
theorem dX4_mixRoasts_143 : decode cX4_mixRoasts 143 = .ok (.istore 8, 2) := by decide +kernel
theorem dX4_mixRoasts_145 : decode cX4_mixRoasts 145 = .ok (.iconst 0, 1) := by decide +kernel
theorem dX4_mixRoasts_146 : decode cX4_mixRoasts 146 = .ok (.istore 9, 2) := by decide +kernel
theorem dX4_mixRoasts_148 : decode cX4_mixRoasts 148 = .ok (.iload 9, 2) := by decide +kernel
theorem dX4_mixRoasts_150 : decode cX4_mixRoasts 150 = .ok (.iload 8, 2) := by decide +kernel
theorem dX4_mixRoasts_152 : decode cX4_mixRoasts 152 = .ok (.if_icmp .ge 24, 3) := by decide +kernel
theorem dX4_mixRoasts_155 : decode cX4_mixRoasts 155 = .ok (.aload 7, 2) := by decide +kernel
theorem dX4_mixRoasts_157 : decode cX4_mixRoasts 157 = .ok (.iload 9, 2) := by decide +kernel
theorem dX4_mixRoasts_159 : decode cX4_mixRoasts 159 = .ok (.iaload, 1) := by decide +kernel
theorem dX4_mixRoasts_160 : decode cX4_mixRoasts 160 = .ok (.istore 10, 2) := by decide +kernel
theorem dX4_mixRoasts_162 : decode cX4_mixRoasts 162 = .ok (.lload_n 3, 1) := by decide +kernel
theorem dX4_mixRoasts_163 : decode cX4_mixRoasts 163 = .ok (.iload 10, 2) := by decide +kernel
theorem dX4_mixRoasts_165 : decode cX4_mixRoasts 165 = .ok (.i2l, 1) := by decide +kernel
theorem dX4_mixRoasts_166 : decode cX4_mixRoasts 166 = .ok (.invokestatic 196, 3) := by decide +kernel
theorem dX4_mixRoasts_169 : decode cX4_mixRoasts 169 = .ok (.lstore_n 3, 1) := by decide +kernel
theorem dX4_mixRoasts_170 : decode cX4_mixRoasts 170 = .ok (.iinc 9 1, 3) := by decide +kernel
theorem dX4_mixRoasts_173 : decode cX4_mixRoasts 173 = .ok (.goto (-25), 3) := by decide +kernel
theorem dX4_mixRoasts_176 : decode cX4_mixRoasts 176 = .ok (.iinc 5 1, 3) := by decide +kernel
theorem dX4_mixRoasts_179 : decode cX4_mixRoasts 179 = .ok (.goto (-174), 3) := by decide +kernel
theorem dX4_mixRoasts_182 : decode cX4_mixRoasts 182 = .ok (.lload_n 3, 1) := by decide +kernel
theorem dX4_mixRoasts_183 : decode cX4_mixRoasts 183 = .ok (.lreturn, 1) := by decide +kernel
theorem dX5_init_0 : decode cX5_init 0 = .ok (.aload_n 0, 1) := by decide +kernel
theorem dX5_init_1 : decode cX5_init 1 = .ok (.invokespecial 1, 3) := by decide +kernel
theorem dX5_init_4 : decode cX5_init 4 = .ok (.aload_n 0, 1) := by decide +kernel
theorem dX5_init_5 : decode cX5_init 5 = .ok (.bipush 120, 2) := by decide +kernel
theorem dX5_init_7 : decode cX5_init 7 = .ok (.putfield 7, 3) := by decide +kernel
theorem dX5_init_10 : decode cX5_init 10 = .ok (.aload_n 0, 1) := by decide +kernel
theorem dX5_init_11 : decode cX5_init 11 = .ok (.bipush 6, 2) := by decide +kernel
theorem dX5_init_13 : decode cX5_init 13 = .ok (.newarray .int, 2) := by decide +kernel
theorem dX5_init_15 : decode cX5_init 15 = .ok (.putfield 13, 3) := by decide +kernel
theorem dX5_init_18 : decode cX5_init 18 = .ok (.aload_n 0, 1) := by decide +kernel
theorem dX5_init_19 : decode cX5_init 19 = .ok (.bipush 16, 2) := by decide +kernel
theorem dX5_init_21 : decode cX5_init 21 = .ok (.newarray .int, 2) := by decide +kernel
theorem dX5_init_23 : decode cX5_init 23 = .ok (.putfield 17, 3) := by decide +kernel
theorem dX5_init_26 : decode cX5_init 26 = .ok (.aload_n 0, 1) := by decide +kernel
theorem dX5_init_27 : decode cX5_init 27 = .ok (.bipush 16, 2) := by decide +kernel
theorem dX5_init_29 : decode cX5_init 29 = .ok (.newarray .int, 2) := by decide +kernel
theorem dX5_init_31 : decode cX5_init 31 = .ok (.putfield 20, 3) := by decide +kernel
theorem dX5_init_34 : decode cX5_init 34 = .ok (.aload_n 0, 1) := by decide +kernel
theorem dX5_init_35 : decode cX5_init 35 = .ok (.iconst 3, 1) := by decide +kernel
theorem dX5_init_36 : decode cX5_init 36 = .ok (.newarray .int, 2) := by decide +kernel
theorem dX5_init_38 : decode cX5_init 38 = .ok (.putfield 23, 3) := by decide +kernel
theorem dX5_init_41 : decode cX5_init 41 = .ok (.aload_n 0, 1) := by decide +kernel
theorem dX5_init_42 : decode cX5_init 42 = .ok (.sipush 165, 3) := by decide +kernel
theorem dX5_init_45 : decode cX5_init 45 = .ok (.newarray .int, 2) := by decide +kernel
theorem dX5_init_47 : decode cX5_init 47 = .ok (.putfield 26, 3) := by decide +kernel
theorem dX5_init_50 : decode cX5_init 50 = .ok (.aload_n 0, 1) := by decide +kernel
theorem dX5_init_51 : decode cX5_init 51 = .ok (.sipush 165, 3) := by decide +kernel
theorem dX5_init_54 : decode cX5_init 54 = .ok (.newarray .int, 2) := by decide +kernel
theorem dX5_init_56 : decode cX5_init 56 = .ok (.putfield 29, 3) := by decide +kernel
theorem dX5_init_59 : decode cX5_init 59 = .ok (.return_, 1) := by decide +kernel
theorem dX5_thrown_0 : decode cX5_thrown 0 = .ok (.aload_n 0, 1) := by decide +kernel
theorem dX5_thrown_1 : decode cX5_thrown 1 = .ok (.getfield 32, 3) := by decide +kernel
theorem dX5_thrown_4 : decode cX5_thrown 4 = .ok (.ireturn, 1) := by decide +kernel
theorem dX5_fail_0 : decode cX5_fail 0 = .ok (.aload_n 0, 1) := by decide +kernel
theorem dX5_fail_1 : decode cX5_fail 1 = .ok (.iload_n 1, 1) := by decide +kernel
theorem dX5_fail_2 : decode cX5_fail 2 = .ok (.putfield 32, 3) := by decide +kernel
theorem dX5_fail_5 : decode cX5_fail 5 = .ok (.iconst 0, 1) := by decide +kernel
theorem dX5_fail_6 : decode cX5_fail 6 = .ok (.ireturn, 1) := by decide +kernel
theorem dX5_told_0 : decode cX5_told 0 = .ok (.aload_n 0, 1) := by decide +kernel
theorem dX5_told_1 : decode cX5_told 1 = .ok (.iconst 0, 1) := by decide +kernel
theorem dX5_told_2 : decode cX5_told 2 = .ok (.putfield 32, 3) := by decide +kernel
theorem dX5_told_5 : decode cX5_told 5 = .ok (.iload_n 1, 1) := by decide +kernel
theorem dX5_told_6 : decode cX5_told 6 = .ok (.ireturn, 1) := by decide +kernel
theorem dX5_isIn_0 : decode cX5_isIn 0 = .ok (.iload_n 0, 1) := by decide +kernel
theorem dX5_isIn_1 : decode cX5_isIn 1 = .ok (.iload_n 1, 1) := by decide +kernel
theorem dX5_isIn_2 : decode cX5_isIn 2 = .ok (.if_icmp .lt 12, 3) := by decide +kernel
theorem dX5_isIn_5 : decode cX5_isIn 5 = .ok (.iload_n 0, 1) := by decide +kernel
theorem dX5_isIn_6 : decode cX5_isIn 6 = .ok (.iload_n 2, 1) := by decide +kernel
theorem dX5_isIn_7 : decode cX5_isIn 7 = .ok (.if_icmp .gt 7, 3) := by decide +kernel
theorem dX5_isIn_10 : decode cX5_isIn 10 = .ok (.iconst 1, 1) := by decide +kernel
theorem dX5_isIn_11 : decode cX5_isIn 11 = .ok (.goto 4, 3) := by decide +kernel
theorem dX5_isIn_14 : decode cX5_isIn 14 = .ok (.iconst 0, 1) := by decide +kernel
theorem dX5_isIn_15 : decode cX5_isIn 15 = .ok (.ireturn, 1) := by decide +kernel
theorem dX5_isFire_0 : decode cX5_isFire 0 = .ok (.iload_n 1, 1) := by decide +kernel
theorem dX5_isFire_1 : decode cX5_isFire 1 = .ok (.iconst 0, 1) := by decide +kernel
theorem dX5_isFire_2 : decode cX5_isFire 2 = .ok (.aload_n 0, 1) := by decide +kernel
theorem dX5_isFire_3 : decode cX5_isFire 3 = .ok (.getfield 35, 3) := by decide +kernel
theorem dX5_isFire_6 : decode cX5_isFire 6 = .ok (.iconst 1, 1) := by decide +kernel
theorem dX5_isFire_7 : decode cX5_isFire 7 = .ok (.isub, 1) := by decide +kernel
theorem dX5_isFire_8 : decode cX5_isFire 8 = .ok (.invokestatic 38, 3) := by decide +kernel
theorem dX5_isFire_11 : decode cX5_isFire 11 = .ok (.ireturn, 1) := by decide +kernel
theorem dX5_isSpit_0 : decode cX5_isSpit 0 = .ok (.iload_n 1, 1) := by decide +kernel
theorem dX5_isSpit_1 : decode cX5_isSpit 1 = .ok (.iconst 0, 1) := by decide +kernel
theorem dX5_isSpit_2 : decode cX5_isSpit 2 = .ok (.aload_n 0, 1) := by decide +kernel
theorem dX5_isSpit_3 : decode cX5_isSpit 3 = .ok (.getfield 42, 3) := by decide +kernel
theorem dX5_isSpit_6 : decode cX5_isSpit 6 = .ok (.iconst 1, 1) := by decide +kernel
theorem dX5_isSpit_7 : decode cX5_isSpit 7 = .ok (.isub, 1) := by decide +kernel
theorem dX5_isSpit_8 : decode cX5_isSpit 8 = .ok (.invokestatic 38, 3) := by decide +kernel
theorem dX5_isSpit_11 : decode cX5_isSpit 11 = .ok (.ireturn, 1) := by decide +kernel
theorem dX5_isRoast_0 : decode cX5_isRoast 0 = .ok (.iload_n 1, 1) := by decide +kernel
theorem dX5_isRoast_1 : decode cX5_isRoast 1 = .ok (.iconst 0, 1) := by decide +kernel
theorem dX5_isRoast_2 : decode cX5_isRoast 2 = .ok (.aload_n 0, 1) := by decide +kernel
theorem dX5_isRoast_3 : decode cX5_isRoast 3 = .ok (.getfield 45, 3) := by decide +kernel
theorem dX5_isRoast_6 : decode cX5_isRoast 6 = .ok (.iconst 1, 1) := by decide +kernel
theorem dX5_isRoast_7 : decode cX5_isRoast 7 = .ok (.isub, 1) := by decide +kernel
theorem dX5_isRoast_8 : decode cX5_isRoast 8 = .ok (.invokestatic 38, 3) := by decide +kernel
theorem dX5_isRoast_11 : decode cX5_isRoast 11 = .ok (.ireturn, 1) := by decide +kernel
theorem dX5_fi_0 : decode cX5_fi 0 = .ok (.aload_n 0, 1) := by decide +kernel
theorem dX5_fi_1 : decode cX5_fi 1 = .ok (.getfield 26, 3) := by decide +kernel
theorem dX5_fi_4 : decode cX5_fi 4 = .ok (.iconst 1, 1) := by decide +kernel
theorem dX5_fi_5 : decode cX5_fi 5 = .ok (.iconst 2, 1) := by decide +kernel
theorem dX5_fi_6 : decode cX5_fi 6 = .ok (.iload_n 1, 1) := by decide +kernel
theorem dX5_fi_7 : decode cX5_fi 7 = .ok (.imul, 1) := by decide +kernel
theorem dX5_fi_8 : decode cX5_fi 8 = .ok (.iadd, 1) := by decide +kernel
theorem dX5_fi_9 : decode cX5_fi 9 = .ok (.iload_n 2, 1) := by decide +kernel
theorem dX5_fi_10 : decode cX5_fi 10 = .ok (.iadd, 1) := by decide +kernel
theorem dX5_fi_11 : decode cX5_fi 11 = .ok (.iaload, 1) := by decide +kernel
theorem dX5_fi_12 : decode cX5_fi 12 = .ok (.ireturn, 1) := by decide +kernel
theorem dX5_letFire_0 : decode cX5_letFire 0 = .ok (.aload_n 0, 1) := by decide +kernel
theorem dX5_letFire_1 : decode cX5_letFire 1 = .ok (.getfield 26, 3) := by decide +kernel
theorem dX5_letFire_4 : decode cX5_letFire 4 = .ok (.iconst 1, 1) := by decide +kernel
theorem dX5_letFire_5 : decode cX5_letFire 5 = .ok (.iconst 2, 1) := by decide +kernel
theorem dX5_letFire_6 : decode cX5_letFire 6 = .ok (.iload_n 1, 1) := by decide +kernel
theorem dX5_letFire_7 : decode cX5_letFire 7 = .ok (.imul, 1) := by decide +kernel
theorem dX5_letFire_8 : decode cX5_letFire 8 = .ok (.iadd, 1) := by decide +kernel
theorem dX5_letFire_9 : decode cX5_letFire 9 = .ok (.iload_n 2, 1) := by decide +kernel
theorem dX5_letFire_10 : decode cX5_letFire 10 = .ok (.iadd, 1) := by decide +kernel
theorem dX5_letFire_11 : decode cX5_letFire 11 = .ok (.iload_n 3, 1) := by decide +kernel
theorem dX5_letFire_12 : decode cX5_letFire 12 = .ok (.iastore, 1) := by decide +kernel
theorem dX5_letFire_13 : decode cX5_letFire 13 = .ok (.return_, 1) := by decide +kernel
theorem dX5_sp_0 : decode cX5_sp 0 = .ok (.aload_n 0, 1) := by decide +kernel
theorem dX5_sp_1 : decode cX5_sp 1 = .ok (.getfield 26, 3) := by decide +kernel
theorem dX5_sp_4 : decode cX5_sp 4 = .ok (.bipush 7, 2) := by decide +kernel
theorem dX5_sp_6 : decode cX5_sp 6 = .ok (.iconst 5, 1) := by decide +kernel
theorem dX5_sp_7 : decode cX5_sp 7 = .ok (.iload_n 1, 1) := by decide +kernel
theorem dX5_sp_8 : decode cX5_sp 8 = .ok (.imul, 1) := by decide +kernel
theorem dX5_sp_9 : decode cX5_sp 9 = .ok (.iadd, 1) := by decide +kernel
theorem dX5_sp_10 : decode cX5_sp 10 = .ok (.iload_n 2, 1) := by decide +kernel
theorem dX5_sp_11 : decode cX5_sp 11 = .ok (.iadd, 1) := by decide +kernel
theorem dX5_sp_12 : decode cX5_sp 12 = .ok (.iaload, 1) := by decide +kernel
theorem dX5_sp_13 : decode cX5_sp 13 = .ok (.ireturn, 1) := by decide +kernel
theorem dX5_letSpit_0 : decode cX5_letSpit 0 = .ok (.aload_n 0, 1) := by decide +kernel
theorem dX5_letSpit_1 : decode cX5_letSpit 1 = .ok (.getfield 26, 3) := by decide +kernel
theorem dX5_letSpit_4 : decode cX5_letSpit 4 = .ok (.bipush 7, 2) := by decide +kernel
theorem dX5_letSpit_6 : decode cX5_letSpit 6 = .ok (.iconst 5, 1) := by decide +kernel
theorem dX5_letSpit_7 : decode cX5_letSpit 7 = .ok (.iload_n 1, 1) := by decide +kernel
theorem dX5_letSpit_8 : decode cX5_letSpit 8 = .ok (.imul, 1) := by decide +kernel
theorem dX5_letSpit_9 : decode cX5_letSpit 9 = .ok (.iadd, 1) := by decide +kernel
theorem dX5_letSpit_10 : decode cX5_letSpit 10 = .ok (.iload_n 2, 1) := by decide +kernel
theorem dX5_letSpit_11 : decode cX5_letSpit 11 = .ok (.iadd, 1) := by decide +kernel
theorem dX5_letSpit_12 : decode cX5_letSpit 12 = .ok (.iload_n 3, 1) := by decide +kernel
theorem dX5_letSpit_13 : decode cX5_letSpit 13 = .ok (.iastore, 1) := by decide +kernel
theorem dX5_letSpit_14 : decode cX5_letSpit 14 = .ok (.return_, 1) := by decide +kernel
theorem dX5_ro_0 : decode cX5_ro 0 = .ok (.aload_n 0, 1) := by decide +kernel
theorem dX5_ro_1 : decode cX5_ro 1 = .ok (.getfield 26, 3) := by decide +kernel
theorem dX5_ro_4 : decode cX5_ro 4 = .ok (.bipush 37, 2) := by decide +kernel
theorem dX5_ro_6 : decode cX5_ro 6 = .ok (.bipush 8, 2) := by decide +kernel
theorem dX5_ro_8 : decode cX5_ro 8 = .ok (.iload_n 1, 1) := by decide +kernel
theorem dX5_ro_9 : decode cX5_ro 9 = .ok (.imul, 1) := by decide +kernel
theorem dX5_ro_10 : decode cX5_ro 10 = .ok (.iadd, 1) := by decide +kernel
theorem dX5_ro_11 : decode cX5_ro 11 = .ok (.iload_n 2, 1) := by decide +kernel
theorem dX5_ro_12 : decode cX5_ro 12 = .ok (.iadd, 1) := by decide +kernel
theorem dX5_ro_13 : decode cX5_ro 13 = .ok (.iaload, 1) := by decide +kernel
theorem dX5_ro_14 : decode cX5_ro 14 = .ok (.ireturn, 1) := by decide +kernel
theorem dX5_let_0 : decode cX5_let 0 = .ok (.aload_n 0, 1) := by decide +kernel
theorem dX5_let_1 : decode cX5_let 1 = .ok (.getfield 26, 3) := by decide +kernel
theorem dX5_let_4 : decode cX5_let 4 = .ok (.bipush 37, 2) := by decide +kernel
theorem dX5_let_6 : decode cX5_let 6 = .ok (.bipush 8, 2) := by decide +kernel
theorem dX5_let_8 : decode cX5_let 8 = .ok (.iload_n 1, 1) := by decide +kernel
theorem dX5_let_9 : decode cX5_let 9 = .ok (.imul, 1) := by decide +kernel
theorem dX5_let_10 : decode cX5_let 10 = .ok (.iadd, 1) := by decide +kernel
theorem dX5_let_11 : decode cX5_let 11 = .ok (.iload_n 2, 1) := by decide +kernel
theorem dX5_let_12 : decode cX5_let 12 = .ok (.iadd, 1) := by decide +kernel
theorem dX5_let_13 : decode cX5_let 13 = .ok (.iload_n 3, 1) := by decide +kernel
theorem dX5_let_14 : decode cX5_let 14 = .ok (.iastore, 1) := by decide +kernel
theorem dX5_let_15 : decode cX5_let 15 = .ok (.return_, 1) := by decide +kernel
theorem dX5_keep_0 : decode cX5_keep 0 = .ok (.aload_n 0, 1) := by decide +kernel
theorem dX5_keep_1 : decode cX5_keep 1 = .ok (.getfield 26, 3) := by decide +kernel
theorem dX5_keep_4 : decode cX5_keep 4 = .ok (.iconst 0, 1) := by decide +kernel
theorem dX5_keep_5 : decode cX5_keep 5 = .ok (.aload_n 0, 1) := by decide +kernel
theorem dX5_keep_6 : decode cX5_keep 6 = .ok (.getfield 29, 3) := by decide +kernel
theorem dX5_keep_9 : decode cX5_keep 9 = .ok (.iconst 0, 1) := by decide +kernel
theorem dX5_keep_10 : decode cX5_keep 10 = .ok (.sipush 165, 3) := by decide +kernel
theorem dX5_keep_13 : decode cX5_keep 13 = .ok (.invokestatic 48, 3) := by decide +kernel
theorem dX5_keep_16 : decode cX5_keep 16 = .ok (.return_, 1) := by decide +kernel
theorem dX5_bringBack_0 : decode cX5_bringBack 0 = .ok (.aload_n 0, 1) := by decide +kernel
theorem dX5_bringBack_1 : decode cX5_bringBack 1 = .ok (.getfield 29, 3) := by decide +kernel
theorem dX5_bringBack_4 : decode cX5_bringBack 4 = .ok (.iconst 0, 1) := by decide +kernel
theorem dX5_bringBack_5 : decode cX5_bringBack 5 = .ok (.aload_n 0, 1) := by decide +kernel
theorem dX5_bringBack_6 : decode cX5_bringBack 6 = .ok (.getfield 26, 3) := by decide +kernel
theorem dX5_bringBack_9 : decode cX5_bringBack 9 = .ok (.iconst 0, 1) := by decide +kernel
theorem dX5_bringBack_10 : decode cX5_bringBack 10 = .ok (.sipush 165, 3) := by decide +kernel
theorem dX5_bringBack_13 : decode cX5_bringBack 13 = .ok (.invokestatic 48, 3) := by decide +kernel
theorem dX5_bringBack_16 : decode cX5_bringBack 16 = .ok (.return_, 1) := by decide +kernel
theorem dX5_glow_0 : decode cX5_glow 0 = .ok (.aload_n 0, 1) := by decide +kernel
theorem dX5_glow_1 : decode cX5_glow 1 = .ok (.aload_n 0, 1) := by decide +kernel
theorem dX5_glow_2 : decode cX5_glow 2 = .ok (.getfield 13, 3) := by decide +kernel
theorem dX5_glow_5 : decode cX5_glow 5 = .ok (.iload_n 1, 1) := by decide +kernel
theorem dX5_glow_6 : decode cX5_glow 6 = .ok (.iaload, 1) := by decide +kernel
theorem dX5_glow_7 : decode cX5_glow 7 = .ok (.iconst 1, 1) := by decide +kernel
theorem dX5_glow_8 : decode cX5_glow 8 = .ok (.invokevirtual 54, 3) := by decide +kernel
theorem dX5_glow_11 : decode cX5_glow 11 = .ok (.aload_n 0, 1) := by decide +kernel
theorem dX5_glow_12 : decode cX5_glow 12 = .ok (.iload_n 1, 1) := by decide +kernel
theorem dX5_glow_13 : decode cX5_glow 13 = .ok (.iconst 0, 1) := by decide +kernel
theorem dX5_glow_14 : decode cX5_glow 14 = .ok (.invokevirtual 58, 3) := by decide +kernel
theorem dX5_glow_17 : decode cX5_glow 17 = .ok (.idiv, 1) := by decide +kernel
theorem dX5_glow_18 : decode cX5_glow 18 = .ok (.ireturn, 1) := by decide +kernel
theorem dX5_most_0 : decode cX5_most 0 = .ok (.iconst 3, 1) := by decide +kernel
theorem dX5_most_1 : decode cX5_most 1 = .ok (.aload_n 0, 1) := by decide +kernel
theorem dX5_most_2 : decode cX5_most 2 = .ok (.getfield 17, 3) := by decide +kernel
theorem dX5_most_5 : decode cX5_most 5 = .ok (.iload_n 1, 1) := by decide +kernel
theorem dX5_most_6 : decode cX5_most 6 = .ok (.iaload, 1) := by decide +kernel
theorem dX5_most_7 : decode cX5_most 7 = .ok (.imul, 1) := by decide +kernel
theorem dX5_most_8 : decode cX5_most 8 = .ok (.bipush 30, 2) := by decide +kernel
theorem dX5_most_10 : decode cX5_most 10 = .ok (.iadd, 1) := by decide +kernel
theorem dX5_most_11 : decode cX5_most 11 = .ok (.ireturn, 1) := by decide +kernel
theorem dX5_done_0 : decode cX5_done 0 = .ok (.iconst 0, 1) := by decide +kernel
theorem dX5_done_1 : decode cX5_done 1 = .ok (.istore_n 2, 1) := by decide +kernel
theorem dX5_done_2 : decode cX5_done 2 = .ok (.iload_n 2, 1) := by decide +kernel
theorem dX5_done_3 : decode cX5_done 3 = .ok (.iconst 4, 1) := by decide +kernel
theorem dX5_done_4 : decode cX5_done 4 = .ok (.if_icmp .ge 46, 3) := by decide +kernel
theorem dX5_done_7 : decode cX5_done 7 = .ok (.aload_n 0, 1) := by decide +kernel
theorem dX5_done_8 : decode cX5_done 8 = .ok (.iload_n 1, 1) := by decide +kernel
theorem dX5_done_9 : decode cX5_done 9 = .ok (.iconst 4, 1) := by decide +kernel
theorem dX5_done_10 : decode cX5_done 10 = .ok (.iload_n 2, 1) := by decide +kernel
theorem dX5_done_11 : decode cX5_done 11 = .ok (.iadd, 1) := by decide +kernel
theorem dX5_done_12 : decode cX5_done 12 = .ok (.invokevirtual 61, 3) := by decide +kernel
theorem dX5_done_15 : decode cX5_done 15 = .ok (.iconst 3, 1) := by decide +kernel
theorem dX5_done_16 : decode cX5_done 16 = .ok (.aload_n 0, 1) := by decide +kernel
theorem dX5_done_17 : decode cX5_done 17 = .ok (.getfield 17, 3) := by decide +kernel
theorem dX5_done_20 : decode cX5_done 20 = .ok (.iload_n 1, 1) := by decide +kernel
theorem dX5_done_21 : decode cX5_done 21 = .ok (.iaload, 1) := by decide +kernel
theorem dX5_done_22 : decode cX5_done 22 = .ok (.imul, 1) := by decide +kernel
theorem dX5_done_23 : decode cX5_done 23 = .ok (.if_icmp .lt 19, 3) := by decide +kernel
theorem dX5_done_26 : decode cX5_done 26 = .ok (.aload_n 0, 1) := by decide +kernel
theorem dX5_done_27 : decode cX5_done 27 = .ok (.iload_n 1, 1) := by decide +kernel
theorem dX5_done_28 : decode cX5_done 28 = .ok (.iconst 4, 1) := by decide +kernel
theorem dX5_done_29 : decode cX5_done 29 = .ok (.iload_n 2, 1) := by decide +kernel
theorem dX5_done_30 : decode cX5_done 30 = .ok (.iadd, 1) := by decide +kernel
theorem dX5_done_31 : decode cX5_done 31 = .ok (.invokevirtual 61, 3) := by decide +kernel
theorem dX5_done_34 : decode cX5_done 34 = .ok (.aload_n 0, 1) := by decide +kernel
theorem dX5_done_35 : decode cX5_done 35 = .ok (.iload_n 1, 1) := by decide +kernel
theorem dX5_done_36 : decode cX5_done 36 = .ok (.invokevirtual 64, 3) := by decide +kernel
theorem dX5_done_39 : decode cX5_done 39 = .ok (.if_icmp .le 5, 3) := by decide +kernel
theorem dX5_done_42 : decode cX5_done 42 = .ok (.iconst 0, 1) := by decide +kernel
theorem dX5_done_43 : decode cX5_done 43 = .ok (.ireturn, 1) := by decide +kernel
theorem dX5_done_44 : decode cX5_done 44 = .ok (.iinc 2 1, 3) := by decide +kernel
theorem dX5_done_47 : decode cX5_done 47 = .ok (.goto (-45), 3) := by decide +kernel
theorem dX5_done_50 : decode cX5_done 50 = .ok (.iconst 1, 1) := by decide +kernel
theorem dX5_done_51 : decode cX5_done 51 = .ok (.ireturn, 1) := by decide +kernel
theorem dX5_burnt_0 : decode cX5_burnt 0 = .ok (.iconst 0, 1) := by decide +kernel
theorem dX5_burnt_1 : decode cX5_burnt 1 = .ok (.istore_n 2, 1) := by decide +kernel
theorem dX5_burnt_2 : decode cX5_burnt 2 = .ok (.iload_n 2, 1) := by decide +kernel
theorem dX5_burnt_3 : decode cX5_burnt 3 = .ok (.iconst 4, 1) := by decide +kernel
theorem dX5_burnt_4 : decode cX5_burnt 4 = .ok (.if_icmp .ge 27, 3) := by decide +kernel
theorem dX5_burnt_7 : decode cX5_burnt 7 = .ok (.aload_n 0, 1) := by decide +kernel
theorem dX5_burnt_8 : decode cX5_burnt 8 = .ok (.iload_n 1, 1) := by decide +kernel
theorem dX5_burnt_9 : decode cX5_burnt 9 = .ok (.iconst 4, 1) := by decide +kernel
theorem dX5_burnt_10 : decode cX5_burnt 10 = .ok (.iload_n 2, 1) := by decide +kernel
theorem dX5_burnt_11 : decode cX5_burnt 11 = .ok (.iadd, 1) := by decide +kernel
theorem dX5_burnt_12 : decode cX5_burnt 12 = .ok (.invokevirtual 61, 3) := by decide +kernel
theorem dX5_burnt_15 : decode cX5_burnt 15 = .ok (.aload_n 0, 1) := by decide +kernel
theorem dX5_burnt_16 : decode cX5_burnt 16 = .ok (.iload_n 1, 1) := by decide +kernel
theorem dX5_burnt_17 : decode cX5_burnt 17 = .ok (.invokevirtual 64, 3) := by decide +kernel
theorem dX5_burnt_20 : decode cX5_burnt 20 = .ok (.if_icmp .le 5, 3) := by decide +kernel
theorem dX5_burnt_23 : decode cX5_burnt 23 = .ok (.iconst 1, 1) := by decide +kernel
theorem dX5_burnt_24 : decode cX5_burnt 24 = .ok (.ireturn, 1) := by decide +kernel
theorem dX5_burnt_25 : decode cX5_burnt 25 = .ok (.iinc 2 1, 3) := by decide +kernel
theorem dX5_burnt_28 : decode cX5_burnt 28 = .ok (.goto (-26), 3) := by decide +kernel
theorem dX5_burnt_31 : decode cX5_burnt 31 = .ok (.iconst 0, 1) := by decide +kernel
theorem dX5_burnt_32 : decode cX5_burnt 32 = .ok (.ireturn, 1) := by decide +kernel
theorem dX5_tan_0 : decode cX5_tan 0 = .ok (.iconst 4, 1) := by decide +kernel
theorem dX5_tan_1 : decode cX5_tan 1 = .ok (.iload_n 2, 1) := by decide +kernel
theorem dX5_tan_2 : decode cX5_tan 2 = .ok (.iconst 4, 1) := by decide +kernel
theorem dX5_tan_3 : decode cX5_tan 3 = .ok (.irem, 1) := by decide +kernel
theorem dX5_tan_4 : decode cX5_tan 4 = .ok (.iadd, 1) := by decide +kernel
theorem dX5_tan_5 : decode cX5_tan 5 = .ok (.istore 4, 2) := by decide +kernel
theorem dX5_tan_7 : decode cX5_tan 7 = .ok (.aload_n 0, 1) := by decide +kernel
theorem dX5_tan_8 : decode cX5_tan 8 = .ok (.iload_n 1, 1) := by decide +kernel
theorem dX5_tan_9 : decode cX5_tan 9 = .ok (.iload 4, 2) := by decide +kernel
theorem dX5_tan_11 : decode cX5_tan 11 = .ok (.bipush 99, 2) := by decide +kernel
theorem dX5_tan_13 : decode cX5_tan 13 = .ok (.aload_n 0, 1) := by decide +kernel
theorem dX5_tan_14 : decode cX5_tan 14 = .ok (.iload_n 1, 1) := by decide +kernel
theorem dX5_tan_15 : decode cX5_tan 15 = .ok (.iload 4, 2) := by decide +kernel
theorem dX5_tan_17 : decode cX5_tan 17 = .ok (.invokevirtual 61, 3) := by decide +kernel
theorem dX5_tan_20 : decode cX5_tan 20 = .ok (.iload_n 3, 1) := by decide +kernel
theorem dX5_tan_21 : decode cX5_tan 21 = .ok (.iadd, 1) := by decide +kernel
theorem dX5_tan_22 : decode cX5_tan 22 = .ok (.invokestatic 68, 3) := by decide +kernel
theorem dX5_tan_25 : decode cX5_tan 25 = .ok (.invokevirtual 73, 3) := by decide +kernel
theorem dX5_tan_28 : decode cX5_tan 28 = .ok (.return_, 1) := by decide +kernel
theorem dX5_roasted_0 : decode cX5_roasted 0 = .ok (.aload_n 0, 1) := by decide +kernel
theorem dX5_roasted_1 : decode cX5_roasted 1 = .ok (.iload_n 1, 1) := by decide +kernel
theorem dX5_roasted_2 : decode cX5_roasted 2 = .ok (.iconst 3, 1) := by decide +kernel
theorem dX5_roasted_3 : decode cX5_roasted 3 = .ok (.invokevirtual 61, 3) := by decide +kernel
theorem dX5_roasted_6 : decode cX5_roasted 6 = .ok (.ifCond .le 7, 3) := by decide +kernel
theorem dX5_roasted_9 : decode cX5_roasted 9 = .ok (.iconst 1, 1) := by decide +kernel
theorem dX5_roasted_10 : decode cX5_roasted 10 = .ok (.goto 4, 3) := by decide +kernel
theorem dX5_roasted_13 : decode cX5_roasted 13 = .ok (.iconst 0, 1) := by decide +kernel
theorem dX5_roasted_14 : decode cX5_roasted 14 = .ok (.istore_n 3, 1) := by decide +kernel
theorem dX5_roasted_15 : decode cX5_roasted 15 = .ok (.aload_n 0, 1) := by decide +kernel
theorem dX5_roasted_16 : decode cX5_roasted 16 = .ok (.getfield 20, 3) := by decide +kernel
theorem dX5_roasted_19 : decode cX5_roasted 19 = .ok (.iload_n 1, 1) := by decide +kernel
theorem dX5_roasted_20 : decode cX5_roasted 20 = .ok (.iconst 0, 1) := by decide +kernel
theorem dX5_roasted_21 : decode cX5_roasted 21 = .ok (.aload_n 0, 1) := by decide +kernel
theorem dX5_roasted_22 : decode cX5_roasted 22 = .ok (.iload_n 2, 1) := by decide +kernel
theorem dX5_roasted_23 : decode cX5_roasted 23 = .ok (.invokevirtual 77, 3) := by decide +kernel
theorem dX5_roasted_26 : decode cX5_roasted 26 = .ok (.iload_n 3, 1) := by decide +kernel
theorem dX5_roasted_27 : decode cX5_roasted 27 = .ok (.ifCond .eq 7, 3) := by decide +kernel
theorem dX5_roasted_30 : decode cX5_roasted 30 = .ok (.iconst 1, 1) := by decide +kernel
theorem dX5_roasted_31 : decode cX5_roasted 31 = .ok (.goto 4, 3) := by decide +kernel
theorem dX5_roasted_34 : decode cX5_roasted 34 = .ok (.iconst 0, 1) := by decide +kernel
theorem dX5_roasted_35 : decode cX5_roasted 35 = .ok (.isub, 1) := by decide +kernel
theorem dX5_roasted_36 : decode cX5_roasted 36 = .ok (.invokestatic 80, 3) := by decide +kernel
theorem dX5_roasted_39 : decode cX5_roasted 39 = .ok (.iastore, 1) := by decide +kernel
theorem dX5_roasted_40 : decode cX5_roasted 40 = .ok (.iload_n 3, 1) := by decide +kernel
theorem dX5_roasted_41 : decode cX5_roasted 41 = .ok (.ifCond .eq 17, 3) := by decide +kernel
theorem dX5_roasted_44 : decode cX5_roasted 44 = .ok (.aload_n 0, 1) := by decide +kernel
theorem dX5_roasted_45 : decode cX5_roasted 45 = .ok (.iload_n 1, 1) := by decide +kernel
theorem dX5_roasted_46 : decode cX5_roasted 46 = .ok (.iconst 3, 1) := by decide +kernel
theorem dX5_roasted_47 : decode cX5_roasted 47 = .ok (.aload_n 0, 1) := by decide +kernel
theorem dX5_roasted_48 : decode cX5_roasted 48 = .ok (.iload_n 1, 1) := by decide +kernel
theorem dX5_roasted_49 : decode cX5_roasted 49 = .ok (.iconst 3, 1) := by decide +kernel
theorem dX5_roasted_50 : decode cX5_roasted 50 = .ok (.invokevirtual 61, 3) := by decide +kernel
theorem dX5_roasted_53 : decode cX5_roasted 53 = .ok (.iconst 1, 1) := by decide +kernel
theorem dX5_roasted_54 : decode cX5_roasted 54 = .ok (.isub, 1) := by decide +kernel
theorem dX5_roasted_55 : decode cX5_roasted 55 = .ok (.invokevirtual 73, 3) := by decide +kernel
theorem dX5_roasted_58 : decode cX5_roasted 58 = .ok (.aload_n 0, 1) := by decide +kernel
theorem dX5_roasted_59 : decode cX5_roasted 59 = .ok (.iload_n 1, 1) := by decide +kernel
theorem dX5_roasted_60 : decode cX5_roasted 60 = .ok (.iconst 1, 1) := by decide +kernel
theorem dX5_roasted_61 : decode cX5_roasted 61 = .ok (.invokevirtual 61, 3) := by decide +kernel
theorem dX5_roasted_64 : decode cX5_roasted 64 = .ok (.istore 4, 2) := by decide +kernel
theorem dX5_roasted_66 : decode cX5_roasted 66 = .ok (.aload_n 0, 1) := by decide +kernel
theorem dX5_roasted_67 : decode cX5_roasted 67 = .ok (.iload_n 1, 1) := by decide +kernel
theorem dX5_roasted_68 : decode cX5_roasted 68 = .ok (.iload 4, 2) := by decide +kernel
theorem dX5_roasted_70 : decode cX5_roasted 70 = .ok (.aload_n 0, 1) := by decide +kernel
theorem dX5_roasted_71 : decode cX5_roasted 71 = .ok (.getfield 20, 3) := by decide +kernel
theorem dX5_roasted_74 : decode cX5_roasted 74 = .ok (.iload_n 1, 1) := by decide +kernel
theorem dX5_roasted_75 : decode cX5_roasted 75 = .ok (.iaload, 1) := by decide +kernel
theorem dX5_roasted_76 : decode cX5_roasted 76 = .ok (.invokevirtual 83, 3) := by decide +kernel
theorem dX5_roasted_79 : decode cX5_roasted 79 = .ok (.aload_n 0, 1) := by decide +kernel
theorem dX5_roasted_80 : decode cX5_roasted 80 = .ok (.iload_n 1, 1) := by decide +kernel
theorem dX5_roasted_81 : decode cX5_roasted 81 = .ok (.iload 4, 2) := by decide +kernel
theorem dX5_roasted_83 : decode cX5_roasted 83 = .ok (.iconst 1, 1) := by decide +kernel
theorem dX5_roasted_84 : decode cX5_roasted 84 = .ok (.iadd, 1) := by decide +kernel
theorem dX5_roasted_85 : decode cX5_roasted 85 = .ok (.aload_n 0, 1) := by decide +kernel
theorem dX5_roasted_86 : decode cX5_roasted 86 = .ok (.getfield 20, 3) := by decide +kernel
theorem dX5_roasted_89 : decode cX5_roasted 89 = .ok (.iload_n 1, 1) := by decide +kernel
theorem dX5_roasted_90 : decode cX5_roasted 90 = .ok (.iaload, 1) := by decide +kernel
theorem dX5_roasted_91 : decode cX5_roasted 91 = .ok (.iconst 3, 1) := by decide +kernel
theorem dX5_roasted_92 : decode cX5_roasted 92 = .ok (.idiv, 1) := by decide +kernel
theorem dX5_roasted_93 : decode cX5_roasted 93 = .ok (.invokevirtual 83, 3) := by decide +kernel
theorem dX5_roasted_96 : decode cX5_roasted 96 = .ok (.aload_n 0, 1) := by decide +kernel
theorem dX5_roasted_97 : decode cX5_roasted 97 = .ok (.iload_n 1, 1) := by decide +kernel
theorem dX5_roasted_98 : decode cX5_roasted 98 = .ok (.iload 4, 2) := by decide +kernel
theorem dX5_roasted_100 : decode cX5_roasted 100 = .ok (.iconst 3, 1) := by decide +kernel
theorem dX5_roasted_101 : decode cX5_roasted 101 = .ok (.iadd, 1) := by decide +kernel
theorem dX5_roasted_102 : decode cX5_roasted 102 = .ok (.aload_n 0, 1) := by decide +kernel
theorem dX5_roasted_103 : decode cX5_roasted 103 = .ok (.getfield 20, 3) := by decide +kernel
theorem dX5_roasted_106 : decode cX5_roasted 106 = .ok (.iload_n 1, 1) := by decide +kernel
theorem dX5_roasted_107 : decode cX5_roasted 107 = .ok (.iaload, 1) := by decide +kernel
theorem dX5_roasted_108 : decode cX5_roasted 108 = .ok (.iconst 3, 1) := by decide +kernel
theorem dX5_roasted_109 : decode cX5_roasted 109 = .ok (.idiv, 1) := by decide +kernel
theorem dX5_roasted_110 : decode cX5_roasted 110 = .ok (.invokevirtual 83, 3) := by decide +kernel
theorem dX5_roasted_113 : decode cX5_roasted 113 = .ok (.return_, 1) := by decide +kernel
theorem dX5_drip_0 : decode cX5_drip 0 = .ok (.aload_n 0, 1) := by decide +kernel
theorem dX5_drip_1 : decode cX5_drip 1 = .ok (.getfield 20, 3) := by decide +kernel
theorem dX5_drip_4 : decode cX5_drip 4 = .ok (.iload_n 1, 1) := by decide +kernel
theorem dX5_drip_5 : decode cX5_drip 5 = .ok (.iaload, 1) := by decide +kernel
theorem dX5_drip_6 : decode cX5_drip 6 = .ok (.iconst 2, 1) := by decide +kernel
theorem dX5_drip_7 : decode cX5_drip 7 = .ok (.if_icmp .lt 12, 3) := by decide +kernel
theorem dX5_drip_10 : decode cX5_drip 10 = .ok (.aload_n 0, 1) := by decide +kernel
theorem dX5_drip_11 : decode cX5_drip 11 = .ok (.iload_n 1, 1) := by decide +kernel
theorem dX5_drip_12 : decode cX5_drip 12 = .ok (.iconst 2, 1) := by decide +kernel
theorem dX5_drip_13 : decode cX5_drip 13 = .ok (.invokevirtual 61, 3) := by decide +kernel
theorem dX5_drip_16 : decode cX5_drip 16 = .ok (.ifCond .ne 4, 3) := by decide +kernel
theorem dX5_drip_19 : decode cX5_drip 19 = .ok (.return_, 1) := by decide +kernel
theorem dX5_drip_20 : decode cX5_drip 20 = .ok (.aload_n 0, 1) := by decide +kernel
theorem dX5_drip_21 : decode cX5_drip 21 = .ok (.iload_n 1, 1) := by decide +kernel
theorem dX5_drip_22 : decode cX5_drip 22 = .ok (.iconst 2, 1) := by decide +kernel
theorem dX5_drip_23 : decode cX5_drip 23 = .ok (.aload_n 0, 1) := by decide +kernel
theorem dX5_drip_24 : decode cX5_drip 24 = .ok (.iload_n 1, 1) := by decide +kernel
theorem dX5_drip_25 : decode cX5_drip 25 = .ok (.iconst 2, 1) := by decide +kernel
theorem dX5_drip_26 : decode cX5_drip 26 = .ok (.invokevirtual 61, 3) := by decide +kernel
theorem dX5_drip_29 : decode cX5_drip 29 = .ok (.iconst 1, 1) := by decide +kernel
theorem dX5_drip_30 : decode cX5_drip 30 = .ok (.isub, 1) := by decide +kernel
theorem dX5_drip_31 : decode cX5_drip 31 = .ok (.invokevirtual 73, 3) := by decide +kernel
theorem dX5_drip_34 : decode cX5_drip 34 = .ok (.aload_n 0, 1) := by decide +kernel
theorem dX5_drip_35 : decode cX5_drip 35 = .ok (.iload_n 2, 1) := by decide +kernel
theorem dX5_drip_36 : decode cX5_drip 36 = .ok (.iconst 1, 1) := by decide +kernel
theorem dX5_drip_37 : decode cX5_drip 37 = .ok (.invokevirtual 58, 3) := by decide +kernel
theorem dX5_drip_40 : decode cX5_drip 40 = .ok (.bipush 20, 2) := by decide +kernel
theorem dX5_drip_42 : decode cX5_drip 42 = .ok (.if_icmp .ge 20, 3) := by decide +kernel
theorem dX5_drip_45 : decode cX5_drip 45 = .ok (.aload_n 0, 1) := by decide +kernel
theorem dX5_drip_46 : decode cX5_drip 46 = .ok (.iload_n 2, 1) := by decide +kernel
theorem dX5_drip_47 : decode cX5_drip 47 = .ok (.iconst 1, 1) := by decide +kernel
theorem dX5_drip_48 : decode cX5_drip 48 = .ok (.aload_n 0, 1) := by decide +kernel
theorem dX5_drip_49 : decode cX5_drip 49 = .ok (.iload_n 2, 1) := by decide +kernel
theorem dX5_drip_50 : decode cX5_drip 50 = .ok (.iconst 1, 1) := by decide +kernel
theorem dX5_drip_51 : decode cX5_drip 51 = .ok (.invokevirtual 58, 3) := by decide +kernel
theorem dX5_drip_54 : decode cX5_drip 54 = .ok (.iconst 1, 1) := by decide +kernel
theorem dX5_drip_55 : decode cX5_drip 55 = .ok (.iadd, 1) := by decide +kernel
theorem dX5_drip_56 : decode cX5_drip 56 = .ok (.invokevirtual 86, 3) := by decide +kernel
theorem dX5_drip_59 : decode cX5_drip 59 = .ok (.goto 18, 3) := by decide +kernel
theorem dX5_drip_62 : decode cX5_drip 62 = .ok (.aload_n 0, 1) := by decide +kernel
theorem dX5_drip_63 : decode cX5_drip 63 = .ok (.getfield 23, 3) := by decide +kernel
theorem dX5_drip_66 : decode cX5_drip 66 = .ok (.aload_n 0, 1) := by decide +kernel
theorem dX5_drip_67 : decode cX5_drip 67 = .ok (.getfield 13, 3) := by decide +kernel
theorem dX5_drip_70 : decode cX5_drip 70 = .ok (.iload_n 2, 1) := by decide +kernel
theorem dX5_drip_71 : decode cX5_drip 71 = .ok (.iaload, 1) := by decide +kernel
theorem dX5_drip_72 : decode cX5_drip 72 = .ok (.dup2, 1) := by decide +kernel
theorem dX5_drip_73 : decode cX5_drip 73 = .ok (.iaload, 1) := by decide +kernel
theorem dX5_drip_74 : decode cX5_drip 74 = .ok (.iconst 1, 1) := by decide +kernel
theorem dX5_drip_75 : decode cX5_drip 75 = .ok (.iadd, 1) := by decide +kernel
theorem dX5_drip_76 : decode cX5_drip 76 = .ok (.iastore, 1) := by decide +kernel
theorem dX5_drip_77 : decode cX5_drip 77 = .ok (.return_, 1) := by decide +kernel
theorem dX5_turn_0 : decode cX5_turn 0 = .ok (.aload_n 0, 1) := by decide +kernel
theorem dX5_turn_1 : decode cX5_turn 1 = .ok (.iload_n 1, 1) := by decide +kernel
theorem dX5_turn_2 : decode cX5_turn 2 = .ok (.iconst 1, 1) := by decide +kernel
theorem dX5_turn_3 : decode cX5_turn 3 = .ok (.aload_n 0, 1) := by decide +kernel
theorem dX5_turn_4 : decode cX5_turn 4 = .ok (.iload_n 1, 1) := by decide +kernel
theorem dX5_turn_5 : decode cX5_turn 5 = .ok (.iconst 1, 1) := by decide +kernel
theorem dX5_turn_6 : decode cX5_turn 6 = .ok (.invokevirtual 61, 3) := by decide +kernel
theorem dX5_turn_9 : decode cX5_turn 9 = .ok (.iconst 1, 1) := by decide +kernel
theorem dX5_turn_10 : decode cX5_turn 10 = .ok (.iadd, 1) := by decide +kernel
theorem dX5_turn_11 : decode cX5_turn 11 = .ok (.iconst 4, 1) := by decide +kernel
theorem dX5_turn_12 : decode cX5_turn 12 = .ok (.irem, 1) := by decide +kernel
theorem dX5_turn_13 : decode cX5_turn 13 = .ok (.invokevirtual 73, 3) := by decide +kernel
theorem dX5_turn_16 : decode cX5_turn 16 = .ok (.return_, 1) := by decide +kernel
theorem dX5_minuteOn_0 : decode cX5_minuteOn 0 = .ok (.iconst 0, 1) := by decide +kernel
theorem dX5_minuteOn_1 : decode cX5_minuteOn 1 = .ok (.istore_n 1, 1) := by decide +kernel
theorem dX5_minuteOn_2 : decode cX5_minuteOn 2 = .ok (.iconst 0, 1) := by decide +kernel
theorem dX5_minuteOn_3 : decode cX5_minuteOn 3 = .ok (.istore_n 2, 1) := by decide +kernel
theorem dX5_minuteOn_4 : decode cX5_minuteOn 4 = .ok (.iload_n 2, 1) := by decide +kernel
theorem dX5_minuteOn_5 : decode cX5_minuteOn 5 = .ok (.aload_n 0, 1) := by decide +kernel
theorem dX5_minuteOn_6 : decode cX5_minuteOn 6 = .ok (.getfield 35, 3) := by decide +kernel
theorem dX5_minuteOn_9 : decode cX5_minuteOn 9 = .ok (.if_icmp .ge 16, 3) := by decide +kernel
theorem dX5_minuteOn_12 : decode cX5_minuteOn 12 = .ok (.aload_n 0, 1) := by decide +kernel
theorem dX5_minuteOn_13 : decode cX5_minuteOn 13 = .ok (.getfield 23, 3) := by decide +kernel
theorem dX5_minuteOn_16 : decode cX5_minuteOn 16 = .ok (.iload_n 2, 1) := by decide +kernel
theorem dX5_minuteOn_17 : decode cX5_minuteOn 17 = .ok (.iconst 0, 1) := by decide +kernel
theorem dX5_minuteOn_18 : decode cX5_minuteOn 18 = .ok (.iastore, 1) := by decide +kernel
theorem dX5_minuteOn_19 : decode cX5_minuteOn 19 = .ok (.iinc 2 1, 3) := by decide +kernel
theorem dX5_minuteOn_22 : decode cX5_minuteOn 22 = .ok (.goto (-18), 3) := by decide +kernel
theorem dX5_minuteOn_25 : decode cX5_minuteOn 25 = .ok (.iconst 0, 1) := by decide +kernel
theorem dX5_minuteOn_26 : decode cX5_minuteOn 26 = .ok (.istore_n 2, 1) := by decide +kernel
theorem dX5_minuteOn_27 : decode cX5_minuteOn 27 = .ok (.iload_n 2, 1) := by decide +kernel
theorem dX5_minuteOn_28 : decode cX5_minuteOn 28 = .ok (.aload_n 0, 1) := by decide +kernel
theorem dX5_minuteOn_29 : decode cX5_minuteOn 29 = .ok (.getfield 42, 3) := by decide +kernel
theorem dX5_minuteOn_32 : decode cX5_minuteOn 32 = .ok (.if_icmp .ge 81, 3) := by decide +kernel
theorem dX5_minuteOn_35 : decode cX5_minuteOn 35 = .ok (.aload_n 0, 1) := by decide +kernel
theorem dX5_minuteOn_36 : decode cX5_minuteOn 36 = .ok (.iload_n 2, 1) := by decide +kernel
theorem dX5_minuteOn_37 : decode cX5_minuteOn 37 = .ok (.iconst 2, 1) := by decide +kernel
theorem dX5_minuteOn_38 : decode cX5_minuteOn 38 = .ok (.invokevirtual 58, 3) := by decide +kernel
theorem dX5_minuteOn_41 : decode cX5_minuteOn 41 = .ok (.iconst 1, 1) := by decide +kernel
theorem dX5_minuteOn_42 : decode cX5_minuteOn 42 = .ok (.isub, 1) := by decide +kernel
theorem dX5_minuteOn_43 : decode cX5_minuteOn 43 = .ok (.istore_n 3, 1) := by decide +kernel
theorem dX5_minuteOn_44 : decode cX5_minuteOn 44 = .ok (.iload_n 3, 1) := by decide +kernel
theorem dX5_minuteOn_45 : decode cX5_minuteOn 45 = .ok (.ifCond .ge 6, 3) := by decide +kernel
theorem dX5_minuteOn_48 : decode cX5_minuteOn 48 = .ok (.goto 59, 3) := by decide +kernel
theorem dX5_minuteOn_51 : decode cX5_minuteOn 51 = .ok (.aload_n 0, 1) := by decide +kernel
theorem dX5_minuteOn_52 : decode cX5_minuteOn 52 = .ok (.iload_n 3, 1) := by decide +kernel
theorem dX5_minuteOn_53 : decode cX5_minuteOn 53 = .ok (.iload_n 2, 1) := by decide +kernel
theorem dX5_minuteOn_54 : decode cX5_minuteOn 54 = .ok (.invokevirtual 89, 3) := by decide +kernel
theorem dX5_minuteOn_57 : decode cX5_minuteOn 57 = .ok (.aload_n 0, 1) := by decide +kernel
theorem dX5_minuteOn_58 : decode cX5_minuteOn 58 = .ok (.iload_n 3, 1) := by decide +kernel
theorem dX5_minuteOn_59 : decode cX5_minuteOn 59 = .ok (.iload_n 2, 1) := by decide +kernel
theorem dX5_minuteOn_60 : decode cX5_minuteOn 60 = .ok (.invokevirtual 93, 3) := by decide +kernel
theorem dX5_minuteOn_63 : decode cX5_minuteOn 63 = .ok (.aload_n 0, 1) := by decide +kernel
theorem dX5_minuteOn_64 : decode cX5_minuteOn 64 = .ok (.iload_n 2, 1) := by decide +kernel
theorem dX5_minuteOn_65 : decode cX5_minuteOn 65 = .ok (.iconst 3, 1) := by decide +kernel
theorem dX5_minuteOn_66 : decode cX5_minuteOn 66 = .ok (.aload_n 0, 1) := by decide +kernel
theorem dX5_minuteOn_67 : decode cX5_minuteOn 67 = .ok (.iload_n 2, 1) := by decide +kernel
theorem dX5_minuteOn_68 : decode cX5_minuteOn 68 = .ok (.iconst 3, 1) := by decide +kernel
theorem dX5_minuteOn_69 : decode cX5_minuteOn 69 = .ok (.invokevirtual 58, 3) := by decide +kernel
theorem dX5_minuteOn_72 : decode cX5_minuteOn 72 = .ok (.iconst 1, 1) := by decide +kernel
theorem dX5_minuteOn_73 : decode cX5_minuteOn 73 = .ok (.iadd, 1) := by decide +kernel
theorem dX5_minuteOn_74 : decode cX5_minuteOn 74 = .ok (.invokevirtual 86, 3) := by decide +kernel
theorem dX5_minuteOn_77 : decode cX5_minuteOn 77 = .ok (.aload_n 0, 1) := by decide +kernel
theorem dX5_minuteOn_78 : decode cX5_minuteOn 78 = .ok (.iload_n 2, 1) := by decide +kernel
theorem dX5_minuteOn_79 : decode cX5_minuteOn 79 = .ok (.iconst 4, 1) := by decide +kernel
theorem dX5_minuteOn_80 : decode cX5_minuteOn 80 = .ok (.invokevirtual 58, 3) := by decide +kernel
theorem dX5_minuteOn_83 : decode cX5_minuteOn 83 = .ok (.ifCond .le 24, 3) := by decide +kernel
theorem dX5_minuteOn_86 : decode cX5_minuteOn 86 = .ok (.aload_n 0, 1) := by decide +kernel
theorem dX5_minuteOn_87 : decode cX5_minuteOn 87 = .ok (.iload_n 2, 1) := by decide +kernel
theorem dX5_minuteOn_88 : decode cX5_minuteOn 88 = .ok (.iconst 3, 1) := by decide +kernel
theorem dX5_minuteOn_89 : decode cX5_minuteOn 89 = .ok (.invokevirtual 58, 3) := by decide +kernel
theorem dX5_minuteOn_92 : decode cX5_minuteOn 92 = .ok (.aload_n 0, 1) := by decide +kernel
theorem dX5_minuteOn_93 : decode cX5_minuteOn 93 = .ok (.iload_n 2, 1) := by decide +kernel
theorem dX5_minuteOn_94 : decode cX5_minuteOn 94 = .ok (.iconst 4, 1) := by decide +kernel
theorem dX5_minuteOn_95 : decode cX5_minuteOn 95 = .ok (.invokevirtual 58, 3) := by decide +kernel
theorem dX5_minuteOn_98 : decode cX5_minuteOn 98 = .ok (.irem, 1) := by decide +kernel
theorem dX5_minuteOn_99 : decode cX5_minuteOn 99 = .ok (.ifCond .ne 8, 3) := by decide +kernel
theorem dX5_minuteOn_102 : decode cX5_minuteOn 102 = .ok (.aload_n 0, 1) := by decide +kernel
theorem dX5_minuteOn_103 : decode cX5_minuteOn 103 = .ok (.iload_n 3, 1) := by decide +kernel
theorem dX5_minuteOn_104 : decode cX5_minuteOn 104 = .ok (.invokevirtual 96, 3) := by decide +kernel
theorem dX5_minuteOn_107 : decode cX5_minuteOn 107 = .ok (.iinc 2 1, 3) := by decide +kernel
theorem dX5_minuteOn_110 : decode cX5_minuteOn 110 = .ok (.goto (-83), 3) := by decide +kernel
theorem dX5_minuteOn_113 : decode cX5_minuteOn 113 = .ok (.iconst 0, 1) := by decide +kernel
theorem dX5_minuteOn_114 : decode cX5_minuteOn 114 = .ok (.istore_n 2, 1) := by decide +kernel
theorem dX5_minuteOn_115 : decode cX5_minuteOn 115 = .ok (.iload_n 2, 1) := by decide +kernel
theorem dX5_minuteOn_116 : decode cX5_minuteOn 116 = .ok (.aload_n 0, 1) := by decide +kernel
theorem dX5_minuteOn_117 : decode cX5_minuteOn 117 = .ok (.getfield 35, 3) := by decide +kernel
theorem dX5_minuteOn_120 : decode cX5_minuteOn 120 = .ok (.if_icmp .ge 100, 3) := by decide +kernel
theorem dX5_minuteOn_123 : decode cX5_minuteOn 123 = .ok (.aload_n 0, 1) := by decide +kernel
theorem dX5_minuteOn_124 : decode cX5_minuteOn 124 = .ok (.iload_n 2, 1) := by decide +kernel
theorem dX5_minuteOn_125 : decode cX5_minuteOn 125 = .ok (.iconst 0, 1) := by decide +kernel
theorem dX5_minuteOn_126 : decode cX5_minuteOn 126 = .ok (.invokevirtual 54, 3) := by decide +kernel
theorem dX5_minuteOn_129 : decode cX5_minuteOn 129 = .ok (.ifCond .le 7, 3) := by decide +kernel
theorem dX5_minuteOn_132 : decode cX5_minuteOn 132 = .ok (.iconst 1, 1) := by decide +kernel
theorem dX5_minuteOn_133 : decode cX5_minuteOn 133 = .ok (.goto 4, 3) := by decide +kernel
theorem dX5_minuteOn_136 : decode cX5_minuteOn 136 = .ok (.iconst 0, 1) := by decide +kernel
theorem dX5_minuteOn_137 : decode cX5_minuteOn 137 = .ok (.istore_n 3, 1) := by decide +kernel
theorem dX5_minuteOn_138 : decode cX5_minuteOn 138 = .ok (.iload_n 3, 1) := by decide +kernel
theorem dX5_minuteOn_139 : decode cX5_minuteOn 139 = .ok (.ifCond .eq 28, 3) := by decide +kernel
theorem dX5_minuteOn_142 : decode cX5_minuteOn 142 = .ok (.aload_n 0, 1) := by decide +kernel
theorem dX5_minuteOn_143 : decode cX5_minuteOn 143 = .ok (.getfield 26, 3) := by decide +kernel
theorem dX5_minuteOn_146 : decode cX5_minuteOn 146 = .ok (.iconst 0, 1) := by decide +kernel
theorem dX5_minuteOn_147 : decode cX5_minuteOn 147 = .ok (.iaload, 1) := by decide +kernel
theorem dX5_minuteOn_148 : decode cX5_minuteOn 148 = .ok (.iconst 5, 1) := by decide +kernel
theorem dX5_minuteOn_149 : decode cX5_minuteOn 149 = .ok (.irem, 1) := by decide +kernel
theorem dX5_minuteOn_150 : decode cX5_minuteOn 150 = .ok (.ifCond .ne 17, 3) := by decide +kernel
theorem dX5_minuteOn_153 : decode cX5_minuteOn 153 = .ok (.aload_n 0, 1) := by decide +kernel
theorem dX5_minuteOn_154 : decode cX5_minuteOn 154 = .ok (.iload_n 2, 1) := by decide +kernel
theorem dX5_minuteOn_155 : decode cX5_minuteOn 155 = .ok (.iconst 0, 1) := by decide +kernel
theorem dX5_minuteOn_156 : decode cX5_minuteOn 156 = .ok (.aload_n 0, 1) := by decide +kernel
theorem dX5_minuteOn_157 : decode cX5_minuteOn 157 = .ok (.iload_n 2, 1) := by decide +kernel
theorem dX5_minuteOn_158 : decode cX5_minuteOn 158 = .ok (.iconst 0, 1) := by decide +kernel
theorem dX5_minuteOn_159 : decode cX5_minuteOn 159 = .ok (.invokevirtual 54, 3) := by decide +kernel
theorem dX5_minuteOn_162 : decode cX5_minuteOn 162 = .ok (.iconst 1, 1) := by decide +kernel
theorem dX5_minuteOn_163 : decode cX5_minuteOn 163 = .ok (.isub, 1) := by decide +kernel
theorem dX5_minuteOn_164 : decode cX5_minuteOn 164 = .ok (.invokevirtual 100, 3) := by decide +kernel
theorem dX5_minuteOn_167 : decode cX5_minuteOn 167 = .ok (.aload_n 0, 1) := by decide +kernel
theorem dX5_minuteOn_168 : decode cX5_minuteOn 168 = .ok (.iload_n 2, 1) := by decide +kernel
theorem dX5_minuteOn_169 : decode cX5_minuteOn 169 = .ok (.iconst 1, 1) := by decide +kernel
theorem dX5_minuteOn_170 : decode cX5_minuteOn 170 = .ok (.iconst 0, 1) := by decide +kernel
theorem dX5_minuteOn_171 : decode cX5_minuteOn 171 = .ok (.bipush 9, 2) := by decide +kernel
theorem dX5_minuteOn_173 : decode cX5_minuteOn 173 = .ok (.aload_n 0, 1) := by decide +kernel
theorem dX5_minuteOn_174 : decode cX5_minuteOn 174 = .ok (.iload_n 2, 1) := by decide +kernel
theorem dX5_minuteOn_175 : decode cX5_minuteOn 175 = .ok (.iconst 1, 1) := by decide +kernel
theorem dX5_minuteOn_176 : decode cX5_minuteOn 176 = .ok (.invokevirtual 54, 3) := by decide +kernel
theorem dX5_minuteOn_179 : decode cX5_minuteOn 179 = .ok (.iload_n 3, 1) := by decide +kernel
theorem dX5_minuteOn_180 : decode cX5_minuteOn 180 = .ok (.ifCond .eq 7, 3) := by decide +kernel
theorem dX5_minuteOn_183 : decode cX5_minuteOn 183 = .ok (.iconst 1, 1) := by decide +kernel
theorem dX5_minuteOn_184 : decode cX5_minuteOn 184 = .ok (.goto 4, 3) := by decide +kernel
theorem dX5_minuteOn_187 : decode cX5_minuteOn 187 = .ok (.iconst (-1), 1) := by decide +kernel
theorem dX5_minuteOn_188 : decode cX5_minuteOn 188 = .ok (.iadd, 1) := by decide +kernel
theorem dX5_minuteOn_189 : decode cX5_minuteOn 189 = .ok (.aload_n 0, 1) := by decide +kernel
theorem dX5_minuteOn_190 : decode cX5_minuteOn 190 = .ok (.getfield 23, 3) := by decide +kernel
theorem dX5_minuteOn_193 : decode cX5_minuteOn 193 = .ok (.iload_n 2, 1) := by decide +kernel
theorem dX5_minuteOn_194 : decode cX5_minuteOn 194 = .ok (.iaload, 1) := by decide +kernel
theorem dX5_minuteOn_195 : decode cX5_minuteOn 195 = .ok (.iadd, 1) := by decide +kernel
theorem dX5_minuteOn_196 : decode cX5_minuteOn 196 = .ok (.invokestatic 68, 3) := by decide +kernel
theorem dX5_minuteOn_199 : decode cX5_minuteOn 199 = .ok (.invokestatic 80, 3) := by decide +kernel
theorem dX5_minuteOn_202 : decode cX5_minuteOn 202 = .ok (.invokevirtual 100, 3) := by decide +kernel
theorem dX5_minuteOn_205 : decode cX5_minuteOn 205 = .ok (.iload_n 1, 1) := by decide +kernel
theorem dX5_minuteOn_206 : decode cX5_minuteOn 206 = .ok (.aload_n 0, 1) := by decide +kernel
theorem dX5_minuteOn_207 : decode cX5_minuteOn 207 = .ok (.getfield 23, 3) := by decide +kernel
theorem dX5_minuteOn_210 : decode cX5_minuteOn 210 = .ok (.iload_n 2, 1) := by decide +kernel
theorem dX5_minuteOn_211 : decode cX5_minuteOn 211 = .ok (.iaload, 1) := by decide +kernel
theorem dX5_minuteOn_212 : decode cX5_minuteOn 212 = .ok (.iadd, 1) := by decide +kernel
theorem dX5_minuteOn_213 : decode cX5_minuteOn 213 = .ok (.istore_n 1, 1) := by decide +kernel
theorem dX5_minuteOn_214 : decode cX5_minuteOn 214 = .ok (.iinc 2 1, 3) := by decide +kernel
theorem dX5_minuteOn_217 : decode cX5_minuteOn 217 = .ok (.goto (-102), 3) := by decide +kernel
theorem dX5_minuteOn_220 : decode cX5_minuteOn 220 = .ok (.aload_n 0, 1) := by decide +kernel
theorem dX5_minuteOn_221 : decode cX5_minuteOn 221 = .ok (.getfield 26, 3) := by decide +kernel
theorem dX5_minuteOn_224 : decode cX5_minuteOn 224 = .ok (.iconst 0, 1) := by decide +kernel
theorem dX5_minuteOn_225 : decode cX5_minuteOn 225 = .ok (.dup2, 1) := by decide +kernel
theorem dX5_minuteOn_226 : decode cX5_minuteOn 226 = .ok (.iaload, 1) := by decide +kernel
theorem dX5_minuteOn_227 : decode cX5_minuteOn 227 = .ok (.iconst 1, 1) := by decide +kernel
theorem dX5_minuteOn_228 : decode cX5_minuteOn 228 = .ok (.iadd, 1) := by decide +kernel
theorem dX5_minuteOn_229 : decode cX5_minuteOn 229 = .ok (.iastore, 1) := by decide +kernel
theorem dX5_minuteOn_230 : decode cX5_minuteOn 230 = .ok (.iload_n 1, 1) := by decide +kernel
theorem dX5_minuteOn_231 : decode cX5_minuteOn 231 = .ok (.ireturn, 1) := by decide +kernel
theorem dX5_addFire_0 : decode cX5_addFire 0 = .ok (.aload_n 0, 1) := by decide +kernel
theorem dX5_addFire_1 : decode cX5_addFire 1 = .ok (.iconst 0, 1) := by decide +kernel
theorem dX5_addFire_2 : decode cX5_addFire 2 = .ok (.putfield 32, 3) := by decide +kernel
theorem dX5_addFire_5 : decode cX5_addFire 5 = .ok (.aload_n 0, 1) := by decide +kernel
theorem dX5_addFire_6 : decode cX5_addFire 6 = .ok (.getfield 35, 3) := by decide +kernel
theorem dX5_addFire_9 : decode cX5_addFire 9 = .ok (.iconst 3, 1) := by decide +kernel
theorem dX5_addFire_10 : decode cX5_addFire 10 = .ok (.if_icmp .ne 9, 3) := by decide +kernel
theorem dX5_addFire_13 : decode cX5_addFire 13 = .ok (.aload_n 0, 1) := by decide +kernel
theorem dX5_addFire_14 : decode cX5_addFire 14 = .ok (.iconst 1, 1) := by decide +kernel
theorem dX5_addFire_15 : decode cX5_addFire 15 = .ok (.invokevirtual 103, 3) := by decide +kernel
theorem dX5_addFire_18 : decode cX5_addFire 18 = .ok (.ireturn, 1) := by decide +kernel
theorem dX5_addFire_19 : decode cX5_addFire 19 = .ok (.aload_n 0, 1) := by decide +kernel
theorem dX5_addFire_20 : decode cX5_addFire 20 = .ok (.dup, 1) := by decide +kernel
theorem dX5_addFire_21 : decode cX5_addFire 21 = .ok (.getfield 35, 3) := by decide +kernel
theorem dX5_addFire_24 : decode cX5_addFire 24 = .ok (.iconst 1, 1) := by decide +kernel
theorem dX5_addFire_25 : decode cX5_addFire 25 = .ok (.iadd, 1) := by decide +kernel
theorem dX5_addFire_26 : decode cX5_addFire 26 = .ok (.putfield 35, 3) := by decide +kernel
theorem dX5_addFire_29 : decode cX5_addFire 29 = .ok (.aload_n 0, 1) := by decide +kernel
theorem dX5_addFire_30 : decode cX5_addFire 30 = .ok (.getfield 35, 3) := by decide +kernel
theorem dX5_addFire_33 : decode cX5_addFire 33 = .ok (.iconst 1, 1) := by decide +kernel
theorem dX5_addFire_34 : decode cX5_addFire 34 = .ok (.isub, 1) := by decide +kernel
theorem dX5_addFire_35 : decode cX5_addFire 35 = .ok (.ireturn, 1) := by decide +kernel
theorem dX5_layLogs_0 : decode cX5_layLogs 0 = .ok (.aload_n 0, 1) := by decide +kernel
theorem dX5_layLogs_1 : decode cX5_layLogs 1 = .ok (.iconst 0, 1) := by decide +kernel
theorem dX5_layLogs_2 : decode cX5_layLogs 2 = .ok (.putfield 32, 3) := by decide +kernel
theorem dX5_layLogs_5 : decode cX5_layLogs 5 = .ok (.aload_n 0, 1) := by decide +kernel
theorem dX5_layLogs_6 : decode cX5_layLogs 6 = .ok (.iload_n 1, 1) := by decide +kernel
theorem dX5_layLogs_7 : decode cX5_layLogs 7 = .ok (.invokevirtual 106, 3) := by decide +kernel
theorem dX5_layLogs_10 : decode cX5_layLogs 10 = .ok (.ifCond .ne 9, 3) := by decide +kernel
theorem dX5_layLogs_13 : decode cX5_layLogs 13 = .ok (.aload_n 0, 1) := by decide +kernel
theorem dX5_layLogs_14 : decode cX5_layLogs 14 = .ok (.iconst 1, 1) := by decide +kernel
theorem dX5_layLogs_15 : decode cX5_layLogs 15 = .ok (.invokevirtual 103, 3) := by decide +kernel
theorem dX5_layLogs_18 : decode cX5_layLogs 18 = .ok (.ireturn, 1) := by decide +kernel
theorem dX5_layLogs_19 : decode cX5_layLogs 19 = .ok (.iload_n 2, 1) := by decide +kernel
theorem dX5_layLogs_20 : decode cX5_layLogs 20 = .ok (.iconst 1, 1) := by decide +kernel
theorem dX5_layLogs_21 : decode cX5_layLogs 21 = .ok (.bipush 40, 2) := by decide +kernel
theorem dX5_layLogs_23 : decode cX5_layLogs 23 = .ok (.invokestatic 38, 3) := by decide +kernel
theorem dX5_layLogs_26 : decode cX5_layLogs 26 = .ok (.ifCond .ne 9, 3) := by decide +kernel
theorem dX5_layLogs_29 : decode cX5_layLogs 29 = .ok (.aload_n 0, 1) := by decide +kernel
theorem dX5_layLogs_30 : decode cX5_layLogs 30 = .ok (.iconst 2, 1) := by decide +kernel
theorem dX5_layLogs_31 : decode cX5_layLogs 31 = .ok (.invokevirtual 103, 3) := by decide +kernel
theorem dX5_layLogs_34 : decode cX5_layLogs 34 = .ok (.ireturn, 1) := by decide +kernel
theorem dX5_layLogs_35 : decode cX5_layLogs 35 = .ok (.aload_n 0, 1) := by decide +kernel
theorem dX5_layLogs_36 : decode cX5_layLogs 36 = .ok (.iload_n 1, 1) := by decide +kernel
theorem dX5_layLogs_37 : decode cX5_layLogs 37 = .ok (.iconst 0, 1) := by decide +kernel
theorem dX5_layLogs_38 : decode cX5_layLogs 38 = .ok (.bipush 40, 2) := by decide +kernel
theorem dX5_layLogs_40 : decode cX5_layLogs 40 = .ok (.aload_n 0, 1) := by decide +kernel
theorem dX5_layLogs_41 : decode cX5_layLogs 41 = .ok (.iload_n 1, 1) := by decide +kernel
theorem dX5_layLogs_42 : decode cX5_layLogs 42 = .ok (.iconst 0, 1) := by decide +kernel
theorem dX5_layLogs_43 : decode cX5_layLogs 43 = .ok (.invokevirtual 54, 3) := by decide +kernel
theorem dX5_layLogs_46 : decode cX5_layLogs 46 = .ok (.iload_n 2, 1) := by decide +kernel
theorem dX5_layLogs_47 : decode cX5_layLogs 47 = .ok (.iadd, 1) := by decide +kernel
theorem dX5_layLogs_48 : decode cX5_layLogs 48 = .ok (.invokestatic 68, 3) := by decide +kernel
theorem dX5_layLogs_51 : decode cX5_layLogs 51 = .ok (.invokevirtual 100, 3) := by decide +kernel
theorem dX5_layLogs_54 : decode cX5_layLogs 54 = .ok (.aload_n 0, 1) := by decide +kernel
theorem dX5_layLogs_55 : decode cX5_layLogs 55 = .ok (.iload_n 1, 1) := by decide +kernel
theorem dX5_layLogs_56 : decode cX5_layLogs 56 = .ok (.iconst 0, 1) := by decide +kernel
theorem dX5_layLogs_57 : decode cX5_layLogs 57 = .ok (.invokevirtual 54, 3) := by decide +kernel
theorem dX5_layLogs_60 : decode cX5_layLogs 60 = .ok (.ireturn, 1) := by decide +kernel
theorem dX5_addSpit_0 : decode cX5_addSpit 0 = .ok (.aload_n 0, 1) := by decide +kernel
theorem dX5_addSpit_1 : decode cX5_addSpit 1 = .ok (.iconst 0, 1) := by decide +kernel
theorem dX5_addSpit_2 : decode cX5_addSpit 2 = .ok (.putfield 32, 3) := by decide +kernel
theorem dX5_addSpit_5 : decode cX5_addSpit 5 = .ok (.aload_n 0, 1) := by decide +kernel
theorem dX5_addSpit_6 : decode cX5_addSpit 6 = .ok (.iload_n 1, 1) := by decide +kernel
theorem dX5_addSpit_7 : decode cX5_addSpit 7 = .ok (.invokevirtual 106, 3) := by decide +kernel
theorem dX5_addSpit_10 : decode cX5_addSpit 10 = .ok (.ifCond .ne 9, 3) := by decide +kernel
theorem dX5_addSpit_13 : decode cX5_addSpit 13 = .ok (.aload_n 0, 1) := by decide +kernel
theorem dX5_addSpit_14 : decode cX5_addSpit 14 = .ok (.iconst 1, 1) := by decide +kernel
theorem dX5_addSpit_15 : decode cX5_addSpit 15 = .ok (.invokevirtual 103, 3) := by decide +kernel
theorem dX5_addSpit_18 : decode cX5_addSpit 18 = .ok (.ireturn, 1) := by decide +kernel
theorem dX5_addSpit_19 : decode cX5_addSpit 19 = .ok (.iload_n 2, 1) := by decide +kernel
theorem dX5_addSpit_20 : decode cX5_addSpit 20 = .ok (.iconst 1, 1) := by decide +kernel
theorem dX5_addSpit_21 : decode cX5_addSpit 21 = .ok (.iconst 3, 1) := by decide +kernel
theorem dX5_addSpit_22 : decode cX5_addSpit 22 = .ok (.invokestatic 38, 3) := by decide +kernel
theorem dX5_addSpit_25 : decode cX5_addSpit 25 = .ok (.ifCond .ne 9, 3) := by decide +kernel
theorem dX5_addSpit_28 : decode cX5_addSpit 28 = .ok (.aload_n 0, 1) := by decide +kernel
theorem dX5_addSpit_29 : decode cX5_addSpit 29 = .ok (.iconst 2, 1) := by decide +kernel
theorem dX5_addSpit_30 : decode cX5_addSpit 30 = .ok (.invokevirtual 103, 3) := by decide +kernel
theorem dX5_addSpit_33 : decode cX5_addSpit 33 = .ok (.ireturn, 1) := by decide +kernel
theorem dX5_addSpit_34 : decode cX5_addSpit 34 = .ok (.aload_n 0, 1) := by decide +kernel
theorem dX5_addSpit_35 : decode cX5_addSpit 35 = .ok (.getfield 42, 3) := by decide +kernel
theorem dX5_addSpit_38 : decode cX5_addSpit 38 = .ok (.bipush 6, 2) := by decide +kernel
theorem dX5_addSpit_40 : decode cX5_addSpit 40 = .ok (.if_icmp .ne 9, 3) := by decide +kernel
theorem dX5_addSpit_43 : decode cX5_addSpit 43 = .ok (.aload_n 0, 1) := by decide +kernel
theorem dX5_addSpit_44 : decode cX5_addSpit 44 = .ok (.iconst 3, 1) := by decide +kernel
theorem dX5_addSpit_45 : decode cX5_addSpit 45 = .ok (.invokevirtual 103, 3) := by decide +kernel
theorem dX5_addSpit_48 : decode cX5_addSpit 48 = .ok (.ireturn, 1) := by decide +kernel
theorem dX5_addSpit_49 : decode cX5_addSpit 49 = .ok (.aload_n 0, 1) := by decide +kernel
theorem dX5_addSpit_50 : decode cX5_addSpit 50 = .ok (.getfield 13, 3) := by decide +kernel
theorem dX5_addSpit_53 : decode cX5_addSpit 53 = .ok (.aload_n 0, 1) := by decide +kernel
theorem dX5_addSpit_54 : decode cX5_addSpit 54 = .ok (.getfield 42, 3) := by decide +kernel
theorem dX5_addSpit_57 : decode cX5_addSpit 57 = .ok (.iload_n 1, 1) := by decide +kernel
theorem dX5_addSpit_58 : decode cX5_addSpit 58 = .ok (.iastore, 1) := by decide +kernel
theorem dX5_addSpit_59 : decode cX5_addSpit 59 = .ok (.aload_n 0, 1) := by decide +kernel
theorem dX5_addSpit_60 : decode cX5_addSpit 60 = .ok (.aload_n 0, 1) := by decide +kernel
theorem dX5_addSpit_61 : decode cX5_addSpit 61 = .ok (.getfield 42, 3) := by decide +kernel
theorem dX5_addSpit_64 : decode cX5_addSpit 64 = .ok (.iconst 0, 1) := by decide +kernel
theorem dX5_addSpit_65 : decode cX5_addSpit 65 = .ok (.iload_n 2, 1) := by decide +kernel
theorem dX5_addSpit_66 : decode cX5_addSpit 66 = .ok (.invokevirtual 86, 3) := by decide +kernel
theorem dX5_addSpit_69 : decode cX5_addSpit 69 = .ok (.aload_n 0, 1) := by decide +kernel
theorem dX5_addSpit_70 : decode cX5_addSpit 70 = .ok (.dup, 1) := by decide +kernel
theorem dX5_addSpit_71 : decode cX5_addSpit 71 = .ok (.getfield 42, 3) := by decide +kernel
theorem dX5_addSpit_74 : decode cX5_addSpit 74 = .ok (.iconst 1, 1) := by decide +kernel
theorem dX5_addSpit_75 : decode cX5_addSpit 75 = .ok (.iadd, 1) := by decide +kernel
theorem dX5_addSpit_76 : decode cX5_addSpit 76 = .ok (.putfield 42, 3) := by decide +kernel
theorem dX5_addSpit_79 : decode cX5_addSpit 79 = .ok (.aload_n 0, 1) := by decide +kernel
theorem dX5_addSpit_80 : decode cX5_addSpit 80 = .ok (.getfield 42, 3) := by decide +kernel
theorem dX5_addSpit_83 : decode cX5_addSpit 83 = .ok (.iconst 1, 1) := by decide +kernel
theorem dX5_addSpit_84 : decode cX5_addSpit 84 = .ok (.isub, 1) := by decide +kernel
theorem dX5_addSpit_85 : decode cX5_addSpit 85 = .ok (.ireturn, 1) := by decide +kernel
theorem dX5_moveSpit_0 : decode cX5_moveSpit 0 = .ok (.aload_n 0, 1) := by decide +kernel
theorem dX5_moveSpit_1 : decode cX5_moveSpit 1 = .ok (.iconst 0, 1) := by decide +kernel
theorem dX5_moveSpit_2 : decode cX5_moveSpit 2 = .ok (.putfield 32, 3) := by decide +kernel
theorem dX5_moveSpit_5 : decode cX5_moveSpit 5 = .ok (.aload_n 0, 1) := by decide +kernel
theorem dX5_moveSpit_6 : decode cX5_moveSpit 6 = .ok (.iload_n 1, 1) := by decide +kernel
theorem dX5_moveSpit_7 : decode cX5_moveSpit 7 = .ok (.invokevirtual 110, 3) := by decide +kernel
theorem dX5_moveSpit_10 : decode cX5_moveSpit 10 = .ok (.ifCond .ne 9, 3) := by decide +kernel
theorem dX5_moveSpit_13 : decode cX5_moveSpit 13 = .ok (.aload_n 0, 1) := by decide +kernel
theorem dX5_moveSpit_14 : decode cX5_moveSpit 14 = .ok (.iconst 1, 1) := by decide +kernel
theorem dX5_moveSpit_15 : decode cX5_moveSpit 15 = .ok (.invokevirtual 103, 3) := by decide +kernel
theorem dX5_moveSpit_18 : decode cX5_moveSpit 18 = .ok (.ireturn, 1) := by decide +kernel
theorem dX5_moveSpit_19 : decode cX5_moveSpit 19 = .ok (.iload_n 2, 1) := by decide +kernel
theorem dX5_moveSpit_20 : decode cX5_moveSpit 20 = .ok (.iconst 1, 1) := by decide +kernel
theorem dX5_moveSpit_21 : decode cX5_moveSpit 21 = .ok (.iconst 3, 1) := by decide +kernel
theorem dX5_moveSpit_22 : decode cX5_moveSpit 22 = .ok (.invokestatic 38, 3) := by decide +kernel
theorem dX5_moveSpit_25 : decode cX5_moveSpit 25 = .ok (.ifCond .ne 9, 3) := by decide +kernel
theorem dX5_moveSpit_28 : decode cX5_moveSpit 28 = .ok (.aload_n 0, 1) := by decide +kernel
theorem dX5_moveSpit_29 : decode cX5_moveSpit 29 = .ok (.iconst 2, 1) := by decide +kernel
theorem dX5_moveSpit_30 : decode cX5_moveSpit 30 = .ok (.invokevirtual 103, 3) := by decide +kernel
theorem dX5_moveSpit_33 : decode cX5_moveSpit 33 = .ok (.ireturn, 1) := by decide +kernel
theorem dX5_moveSpit_34 : decode cX5_moveSpit 34 = .ok (.aload_n 0, 1) := by decide +kernel
theorem dX5_moveSpit_35 : decode cX5_moveSpit 35 = .ok (.iload_n 1, 1) := by decide +kernel
theorem dX5_moveSpit_36 : decode cX5_moveSpit 36 = .ok (.iconst 0, 1) := by decide +kernel
theorem dX5_moveSpit_37 : decode cX5_moveSpit 37 = .ok (.invokevirtual 58, 3) := by decide +kernel
theorem dX5_moveSpit_40 : decode cX5_moveSpit 40 = .ok (.istore_n 3, 1) := by decide +kernel
theorem dX5_moveSpit_41 : decode cX5_moveSpit 41 = .ok (.aload_n 0, 1) := by decide +kernel
theorem dX5_moveSpit_42 : decode cX5_moveSpit 42 = .ok (.iload_n 1, 1) := by decide +kernel
theorem dX5_moveSpit_43 : decode cX5_moveSpit 43 = .ok (.iconst 0, 1) := by decide +kernel
theorem dX5_moveSpit_44 : decode cX5_moveSpit 44 = .ok (.iload_n 2, 1) := by decide +kernel
theorem dX5_moveSpit_45 : decode cX5_moveSpit 45 = .ok (.invokevirtual 86, 3) := by decide +kernel
theorem dX5_moveSpit_48 : decode cX5_moveSpit 48 = .ok (.iload_n 3, 1) := by decide +kernel
theorem dX5_moveSpit_49 : decode cX5_moveSpit 49 = .ok (.ireturn, 1) := by decide +kernel
theorem dX5_each_0 : decode cX5_each 0 = .ok (.aload_n 0, 1) := by decide +kernel
theorem dX5_each_1 : decode cX5_each 1 = .ok (.iload_n 1, 1) := by decide +kernel
theorem dX5_each_2 : decode cX5_each 2 = .ok (.iconst 4, 1) := by decide +kernel
theorem dX5_each_3 : decode cX5_each 3 = .ok (.iload_n 2, 1) := by decide +kernel
theorem dX5_each_4 : decode cX5_each 4 = .ok (.invokevirtual 86, 3) := by decide +kernel
theorem dX5_each_7 : decode cX5_each 7 = .ok (.aload_n 0, 1) := by decide +kernel
theorem dX5_each_8 : decode cX5_each 8 = .ok (.iload_n 1, 1) := by decide +kernel
theorem dX5_each_9 : decode cX5_each 9 = .ok (.iconst 3, 1) := by decide +kernel
theorem dX5_each_10 : decode cX5_each 10 = .ok (.iconst 0, 1) := by decide +kernel
theorem dX5_each_11 : decode cX5_each 11 = .ok (.invokevirtual 86, 3) := by decide +kernel
theorem dX5_each_14 : decode cX5_each 14 = .ok (.return_, 1) := by decide +kernel
theorem dX5_turnEach_0 : decode cX5_turnEach 0 = .ok (.aload_n 0, 1) := by decide +kernel
theorem dX5_turnEach_1 : decode cX5_turnEach 1 = .ok (.iconst 0, 1) := by decide +kernel
theorem dX5_turnEach_2 : decode cX5_turnEach 2 = .ok (.putfield 32, 3) := by decide +kernel
theorem dX5_turnEach_5 : decode cX5_turnEach 5 = .ok (.aload_n 0, 1) := by decide +kernel
theorem dX5_turnEach_6 : decode cX5_turnEach 6 = .ok (.iload_n 1, 1) := by decide +kernel
theorem dX5_turnEach_7 : decode cX5_turnEach 7 = .ok (.invokevirtual 110, 3) := by decide +kernel
theorem dX5_turnEach_10 : decode cX5_turnEach 10 = .ok (.ifCond .ne 9, 3) := by decide +kernel
theorem dX5_turnEach_13 : decode cX5_turnEach 13 = .ok (.aload_n 0, 1) := by decide +kernel
theorem dX5_turnEach_14 : decode cX5_turnEach 14 = .ok (.iconst 1, 1) := by decide +kernel
theorem dX5_turnEach_15 : decode cX5_turnEach 15 = .ok (.invokevirtual 103, 3) := by decide +kernel
theorem dX5_turnEach_18 : decode cX5_turnEach 18 = .ok (.ireturn, 1) := by decide +kernel
theorem dX5_turnEach_19 : decode cX5_turnEach 19 = .ok (.iload_n 2, 1) := by decide +kernel
theorem dX5_turnEach_20 : decode cX5_turnEach 20 = .ok (.iconst 0, 1) := by decide +kernel
theorem dX5_turnEach_21 : decode cX5_turnEach 21 = .ok (.bipush 9, 2) := by decide +kernel
theorem dX5_turnEach_23 : decode cX5_turnEach 23 = .ok (.invokestatic 38, 3) := by decide +kernel
theorem dX5_turnEach_26 : decode cX5_turnEach 26 = .ok (.ifCond .ne 9, 3) := by decide +kernel
theorem dX5_turnEach_29 : decode cX5_turnEach 29 = .ok (.aload_n 0, 1) := by decide +kernel
theorem dX5_turnEach_30 : decode cX5_turnEach 30 = .ok (.iconst 2, 1) := by decide +kernel
theorem dX5_turnEach_31 : decode cX5_turnEach 31 = .ok (.invokevirtual 103, 3) := by decide +kernel
theorem dX5_turnEach_34 : decode cX5_turnEach 34 = .ok (.ireturn, 1) := by decide +kernel
theorem dX5_turnEach_35 : decode cX5_turnEach 35 = .ok (.aload_n 0, 1) := by decide +kernel
theorem dX5_turnEach_36 : decode cX5_turnEach 36 = .ok (.iload_n 1, 1) := by decide +kernel
theorem dX5_turnEach_37 : decode cX5_turnEach 37 = .ok (.iconst 4, 1) := by decide +kernel
theorem dX5_turnEach_38 : decode cX5_turnEach 38 = .ok (.invokevirtual 58, 3) := by decide +kernel
theorem dX5_turnEach_41 : decode cX5_turnEach 41 = .ok (.istore_n 3, 1) := by decide +kernel
theorem dX5_turnEach_42 : decode cX5_turnEach 42 = .ok (.aload_n 0, 1) := by decide +kernel
theorem dX5_turnEach_43 : decode cX5_turnEach 43 = .ok (.iload_n 1, 1) := by decide +kernel
theorem dX5_turnEach_44 : decode cX5_turnEach 44 = .ok (.iload_n 2, 1) := by decide +kernel
theorem dX5_turnEach_45 : decode cX5_turnEach 45 = .ok (.invokevirtual 113, 3) := by decide +kernel
theorem dX5_turnEach_48 : decode cX5_turnEach 48 = .ok (.iload_n 3, 1) := by decide +kernel
theorem dX5_turnEach_49 : decode cX5_turnEach 49 = .ok (.ireturn, 1) := by decide +kernel
theorem dX5_setFeast_0 : decode cX5_setFeast 0 = .ok (.aload_n 0, 1) := by decide +kernel
theorem dX5_setFeast_1 : decode cX5_setFeast 1 = .ok (.iconst 0, 1) := by decide +kernel
theorem dX5_setFeast_2 : decode cX5_setFeast 2 = .ok (.putfield 32, 3) := by decide +kernel
theorem dX5_setFeast_5 : decode cX5_setFeast 5 = .ok (.iload_n 1, 1) := by decide +kernel
theorem dX5_setFeast_6 : decode cX5_setFeast 6 = .ok (.iconst 0, 1) := by decide +kernel
theorem dX5_setFeast_7 : decode cX5_setFeast 7 = .ok (.sipush 5000, 3) := by decide +kernel
theorem dX5_setFeast_10 : decode cX5_setFeast 10 = .ok (.invokestatic 38, 3) := by decide +kernel
theorem dX5_setFeast_13 : decode cX5_setFeast 13 = .ok (.ifCond .ne 9, 3) := by decide +kernel
theorem dX5_setFeast_16 : decode cX5_setFeast 16 = .ok (.aload_n 0, 1) := by decide +kernel
theorem dX5_setFeast_17 : decode cX5_setFeast 17 = .ok (.iconst 1, 1) := by decide +kernel
theorem dX5_setFeast_18 : decode cX5_setFeast 18 = .ok (.invokevirtual 103, 3) := by decide +kernel
theorem dX5_setFeast_21 : decode cX5_setFeast 21 = .ok (.ireturn, 1) := by decide +kernel
theorem dX5_setFeast_22 : decode cX5_setFeast 22 = .ok (.aload_n 0, 1) := by decide +kernel
theorem dX5_setFeast_23 : decode cX5_setFeast 23 = .ok (.getfield 7, 3) := by decide +kernel
theorem dX5_setFeast_26 : decode cX5_setFeast 26 = .ok (.istore_n 2, 1) := by decide +kernel
theorem dX5_setFeast_27 : decode cX5_setFeast 27 = .ok (.aload_n 0, 1) := by decide +kernel
theorem dX5_setFeast_28 : decode cX5_setFeast 28 = .ok (.iload_n 1, 1) := by decide +kernel
theorem dX5_setFeast_29 : decode cX5_setFeast 29 = .ok (.putfield 7, 3) := by decide +kernel
theorem dX5_setFeast_32 : decode cX5_setFeast 32 = .ok (.iload_n 2, 1) := by decide +kernel
theorem dX5_setFeast_33 : decode cX5_setFeast 33 = .ok (.ireturn, 1) := by decide +kernel
theorem dX5_hangNext_0 : decode cX5_hangNext 0 = .ok (.aload_n 0, 1) := by decide +kernel
theorem dX5_hangNext_1 : decode cX5_hangNext 1 = .ok (.getfield 17, 3) := by decide +kernel
theorem dX5_hangNext_4 : decode cX5_hangNext 4 = .ok (.aload_n 0, 1) := by decide +kernel
theorem dX5_hangNext_5 : decode cX5_hangNext 5 = .ok (.getfield 45, 3) := by decide +kernel
theorem dX5_hangNext_8 : decode cX5_hangNext 8 = .ok (.iload_n 2, 1) := by decide +kernel
theorem dX5_hangNext_9 : decode cX5_hangNext 9 = .ok (.iastore, 1) := by decide +kernel
theorem dX5_hangNext_10 : decode cX5_hangNext 10 = .ok (.iconst 0, 1) := by decide +kernel
theorem dX5_hangNext_11 : decode cX5_hangNext 11 = .ok (.istore_n 3, 1) := by decide +kernel
theorem dX5_hangNext_12 : decode cX5_hangNext 12 = .ok (.iload_n 3, 1) := by decide +kernel
theorem dX5_hangNext_13 : decode cX5_hangNext 13 = .ok (.bipush 8, 2) := by decide +kernel
theorem dX5_hangNext_15 : decode cX5_hangNext 15 = .ok (.if_icmp .ge 19, 3) := by decide +kernel
theorem dX5_hangNext_18 : decode cX5_hangNext 18 = .ok (.aload_n 0, 1) := by decide +kernel
theorem dX5_hangNext_19 : decode cX5_hangNext 19 = .ok (.aload_n 0, 1) := by decide +kernel
theorem dX5_hangNext_20 : decode cX5_hangNext 20 = .ok (.getfield 45, 3) := by decide +kernel
theorem dX5_hangNext_23 : decode cX5_hangNext 23 = .ok (.iload_n 3, 1) := by decide +kernel
theorem dX5_hangNext_24 : decode cX5_hangNext 24 = .ok (.iconst 0, 1) := by decide +kernel
theorem dX5_hangNext_25 : decode cX5_hangNext 25 = .ok (.invokevirtual 73, 3) := by decide +kernel
theorem dX5_hangNext_28 : decode cX5_hangNext 28 = .ok (.iinc 3 1, 3) := by decide +kernel
theorem dX5_hangNext_31 : decode cX5_hangNext 31 = .ok (.goto (-19), 3) := by decide +kernel
theorem dX5_hangNext_34 : decode cX5_hangNext 34 = .ok (.aload_n 0, 1) := by decide +kernel
theorem dX5_hangNext_35 : decode cX5_hangNext 35 = .ok (.aload_n 0, 1) := by decide +kernel
theorem dX5_hangNext_36 : decode cX5_hangNext 36 = .ok (.getfield 45, 3) := by decide +kernel
theorem dX5_hangNext_39 : decode cX5_hangNext 39 = .ok (.iconst 0, 1) := by decide +kernel
theorem dX5_hangNext_40 : decode cX5_hangNext 40 = .ok (.iload_n 1, 1) := by decide +kernel
theorem dX5_hangNext_41 : decode cX5_hangNext 41 = .ok (.iconst 1, 1) := by decide +kernel
theorem dX5_hangNext_42 : decode cX5_hangNext 42 = .ok (.iadd, 1) := by decide +kernel
theorem dX5_hangNext_43 : decode cX5_hangNext 43 = .ok (.invokevirtual 73, 3) := by decide +kernel
theorem dX5_hangNext_46 : decode cX5_hangNext 46 = .ok (.aload_n 0, 1) := by decide +kernel
theorem dX5_hangNext_47 : decode cX5_hangNext 47 = .ok (.aload_n 0, 1) := by decide +kernel
theorem dX5_hangNext_48 : decode cX5_hangNext 48 = .ok (.getfield 45, 3) := by decide +kernel
theorem dX5_hangNext_51 : decode cX5_hangNext 51 = .ok (.iconst 2, 1) := by decide +kernel
theorem dX5_hangNext_52 : decode cX5_hangNext 52 = .ok (.iconst 3, 1) := by decide +kernel
theorem dX5_hangNext_53 : decode cX5_hangNext 53 = .ok (.iload_n 2, 1) := by decide +kernel
theorem dX5_hangNext_54 : decode cX5_hangNext 54 = .ok (.imul, 1) := by decide +kernel
theorem dX5_hangNext_55 : decode cX5_hangNext 55 = .ok (.invokevirtual 73, 3) := by decide +kernel
theorem dX5_hangNext_58 : decode cX5_hangNext 58 = .ok (.aload_n 0, 1) := by decide +kernel
theorem dX5_hangNext_59 : decode cX5_hangNext 59 = .ok (.iload_n 1, 1) := by decide +kernel
theorem dX5_hangNext_60 : decode cX5_hangNext 60 = .ok (.iconst 2, 1) := by decide +kernel
theorem dX5_hangNext_61 : decode cX5_hangNext 61 = .ok (.aload_n 0, 1) := by decide +kernel
theorem dX5_hangNext_62 : decode cX5_hangNext 62 = .ok (.getfield 45, 3) := by decide +kernel
theorem dX5_hangNext_65 : decode cX5_hangNext 65 = .ok (.iconst 1, 1) := by decide +kernel
theorem dX5_hangNext_66 : decode cX5_hangNext 66 = .ok (.iadd, 1) := by decide +kernel
theorem dX5_hangNext_67 : decode cX5_hangNext 67 = .ok (.invokevirtual 86, 3) := by decide +kernel
theorem dX5_hangNext_70 : decode cX5_hangNext 70 = .ok (.aload_n 0, 1) := by decide +kernel
theorem dX5_hangNext_71 : decode cX5_hangNext 71 = .ok (.iload_n 1, 1) := by decide +kernel
theorem dX5_hangNext_72 : decode cX5_hangNext 72 = .ok (.iconst 3, 1) := by decide +kernel
theorem dX5_hangNext_73 : decode cX5_hangNext 73 = .ok (.iconst 0, 1) := by decide +kernel
theorem dX5_hangNext_74 : decode cX5_hangNext 74 = .ok (.invokevirtual 86, 3) := by decide +kernel
theorem dX5_hangNext_77 : decode cX5_hangNext 77 = .ok (.return_, 1) := by decide +kernel
theorem dX5_hang_0 : decode cX5_hang 0 = .ok (.aload_n 0, 1) := by decide +kernel
theorem dX5_hang_1 : decode cX5_hang 1 = .ok (.iconst 0, 1) := by decide +kernel
theorem dX5_hang_2 : decode cX5_hang 2 = .ok (.putfield 32, 3) := by decide +kernel
theorem dX5_hang_5 : decode cX5_hang 5 = .ok (.aload_n 0, 1) := by decide +kernel
theorem dX5_hang_6 : decode cX5_hang 6 = .ok (.iload_n 1, 1) := by decide +kernel
theorem dX5_hang_7 : decode cX5_hang 7 = .ok (.invokevirtual 110, 3) := by decide +kernel
theorem dX5_hang_10 : decode cX5_hang 10 = .ok (.ifCond .ne 9, 3) := by decide +kernel
theorem dX5_hang_13 : decode cX5_hang 13 = .ok (.aload_n 0, 1) := by decide +kernel
theorem dX5_hang_14 : decode cX5_hang 14 = .ok (.iconst 1, 1) := by decide +kernel
theorem dX5_hang_15 : decode cX5_hang 15 = .ok (.invokevirtual 103, 3) := by decide +kernel
theorem dX5_hang_18 : decode cX5_hang 18 = .ok (.ireturn, 1) := by decide +kernel
theorem dX5_hang_19 : decode cX5_hang 19 = .ok (.iload_n 2, 1) := by decide +kernel
theorem dX5_hang_20 : decode cX5_hang 20 = .ok (.iconst 1, 1) := by decide +kernel
theorem dX5_hang_21 : decode cX5_hang 21 = .ok (.bipush 12, 2) := by decide +kernel
theorem dX5_hang_23 : decode cX5_hang 23 = .ok (.invokestatic 38, 3) := by decide +kernel
theorem dX5_hang_26 : decode cX5_hang 26 = .ok (.ifCond .ne 9, 3) := by decide +kernel
theorem dX5_hang_29 : decode cX5_hang 29 = .ok (.aload_n 0, 1) := by decide +kernel
theorem dX5_hang_30 : decode cX5_hang 30 = .ok (.iconst 2, 1) := by decide +kernel
theorem dX5_hang_31 : decode cX5_hang 31 = .ok (.invokevirtual 103, 3) := by decide +kernel
theorem dX5_hang_34 : decode cX5_hang 34 = .ok (.ireturn, 1) := by decide +kernel
theorem dX5_hang_35 : decode cX5_hang 35 = .ok (.aload_n 0, 1) := by decide +kernel
theorem dX5_hang_36 : decode cX5_hang 36 = .ok (.iload_n 1, 1) := by decide +kernel
theorem dX5_hang_37 : decode cX5_hang 37 = .ok (.iconst 2, 1) := by decide +kernel
theorem dX5_hang_38 : decode cX5_hang 38 = .ok (.invokevirtual 58, 3) := by decide +kernel
theorem dX5_hang_41 : decode cX5_hang 41 = .ok (.ifCond .gt 12, 3) := by decide +kernel
theorem dX5_hang_44 : decode cX5_hang 44 = .ok (.aload_n 0, 1) := by decide +kernel
theorem dX5_hang_45 : decode cX5_hang 45 = .ok (.getfield 45, 3) := by decide +kernel
theorem dX5_hang_48 : decode cX5_hang 48 = .ok (.bipush 16, 2) := by decide +kernel
theorem dX5_hang_50 : decode cX5_hang 50 = .ok (.if_icmp .ne 9, 3) := by decide +kernel
theorem dX5_hang_53 : decode cX5_hang 53 = .ok (.aload_n 0, 1) := by decide +kernel
theorem dX5_hang_54 : decode cX5_hang 54 = .ok (.iconst 3, 1) := by decide +kernel
theorem dX5_hang_55 : decode cX5_hang 55 = .ok (.invokevirtual 103, 3) := by decide +kernel
theorem dX5_hang_58 : decode cX5_hang 58 = .ok (.ireturn, 1) := by decide +kernel
theorem dX5_hang_59 : decode cX5_hang 59 = .ok (.aload_n 0, 1) := by decide +kernel
theorem dX5_hang_60 : decode cX5_hang 60 = .ok (.iload_n 1, 1) := by decide +kernel
theorem dX5_hang_61 : decode cX5_hang 61 = .ok (.iload_n 2, 1) := by decide +kernel
theorem dX5_hang_62 : decode cX5_hang 62 = .ok (.invokevirtual 116, 3) := by decide +kernel
theorem dX5_hang_65 : decode cX5_hang 65 = .ok (.aload_n 0, 1) := by decide +kernel
theorem dX5_hang_66 : decode cX5_hang 66 = .ok (.dup, 1) := by decide +kernel
theorem dX5_hang_67 : decode cX5_hang 67 = .ok (.getfield 45, 3) := by decide +kernel
theorem dX5_hang_70 : decode cX5_hang 70 = .ok (.iconst 1, 1) := by decide +kernel
theorem dX5_hang_71 : decode cX5_hang 71 = .ok (.iadd, 1) := by decide +kernel
theorem dX5_hang_72 : decode cX5_hang 72 = .ok (.putfield 45, 3) := by decide +kernel
theorem dX5_hang_75 : decode cX5_hang 75 = .ok (.aload_n 0, 1) := by decide +kernel
theorem dX5_hang_76 : decode cX5_hang 76 = .ok (.getfield 45, 3) := by decide +kernel
theorem dX5_hang_79 : decode cX5_hang 79 = .ok (.iconst 1, 1) := by decide +kernel
theorem dX5_hang_80 : decode cX5_hang 80 = .ok (.isub, 1) := by decide +kernel
theorem dX5_hang_81 : decode cX5_hang 81 = .ok (.ireturn, 1) := by decide +kernel
theorem dX5_holds_0 : decode cX5_holds 0 = .ok (.aload_n 0, 1) := by decide +kernel
theorem dX5_holds_1 : decode cX5_holds 1 = .ok (.aload_n 0, 1) := by decide +kernel
theorem dX5_holds_2 : decode cX5_holds 2 = .ok (.iload_n 1, 1) := by decide +kernel
theorem dX5_holds_3 : decode cX5_holds 3 = .ok (.invokevirtual 110, 3) := by decide +kernel
theorem dX5_holds_6 : decode cX5_holds 6 = .ok (.ifCond .ne 7, 3) := by decide +kernel
theorem dX5_holds_9 : decode cX5_holds 9 = .ok (.iconst 1, 1) := by decide +kernel
theorem dX5_holds_10 : decode cX5_holds 10 = .ok (.goto 17, 3) := by decide +kernel
theorem dX5_holds_13 : decode cX5_holds 13 = .ok (.aload_n 0, 1) := by decide +kernel
theorem dX5_holds_14 : decode cX5_holds 14 = .ok (.iload_n 1, 1) := by decide +kernel
theorem dX5_holds_15 : decode cX5_holds 15 = .ok (.iconst 2, 1) := by decide +kernel
theorem dX5_holds_16 : decode cX5_holds 16 = .ok (.invokevirtual 58, 3) := by decide +kernel
theorem dX5_holds_19 : decode cX5_holds 19 = .ok (.ifCond .ne 7, 3) := by decide +kernel
theorem dX5_holds_22 : decode cX5_holds 22 = .ok (.iconst 2, 1) := by decide +kernel
theorem dX5_holds_23 : decode cX5_holds 23 = .ok (.goto 4, 3) := by decide +kernel
theorem dX5_holds_26 : decode cX5_holds 26 = .ok (.iconst 0, 1) := by decide +kernel
theorem dX5_holds_27 : decode cX5_holds 27 = .ok (.putfield 32, 3) := by decide +kernel
theorem dX5_holds_30 : decode cX5_holds 30 = .ok (.aload_n 0, 1) := by decide +kernel
theorem dX5_holds_31 : decode cX5_holds 31 = .ok (.getfield 32, 3) := by decide +kernel
theorem dX5_holds_34 : decode cX5_holds 34 = .ok (.ifCond .ne 7, 3) := by decide +kernel
theorem dX5_holds_37 : decode cX5_holds 37 = .ok (.iconst 1, 1) := by decide +kernel
theorem dX5_holds_38 : decode cX5_holds 38 = .ok (.goto 4, 3) := by decide +kernel
theorem dX5_holds_41 : decode cX5_holds 41 = .ok (.iconst 0, 1) := by decide +kernel
theorem dX5_holds_42 : decode cX5_holds 42 = .ok (.ireturn, 1) := by decide +kernel
theorem dX5_turnNow_0 : decode cX5_turnNow 0 = .ok (.aload_n 0, 1) := by decide +kernel
theorem dX5_turnNow_1 : decode cX5_turnNow 1 = .ok (.iload_n 1, 1) := by decide +kernel
theorem dX5_turnNow_2 : decode cX5_turnNow 2 = .ok (.invokevirtual 119, 3) := by decide +kernel
theorem dX5_turnNow_5 : decode cX5_turnNow 5 = .ok (.ifCond .ne 5, 3) := by decide +kernel
theorem dX5_turnNow_8 : decode cX5_turnNow 8 = .ok (.iconst 0, 1) := by decide +kernel
theorem dX5_turnNow_9 : decode cX5_turnNow 9 = .ok (.ireturn, 1) := by decide +kernel
theorem dX5_turnNow_10 : decode cX5_turnNow 10 = .ok (.aload_n 0, 1) := by decide +kernel
theorem dX5_turnNow_11 : decode cX5_turnNow 11 = .ok (.aload_n 0, 1) := by decide +kernel
theorem dX5_turnNow_12 : decode cX5_turnNow 12 = .ok (.iload_n 1, 1) := by decide +kernel
theorem dX5_turnNow_13 : decode cX5_turnNow 13 = .ok (.iconst 2, 1) := by decide +kernel
theorem dX5_turnNow_14 : decode cX5_turnNow 14 = .ok (.invokevirtual 58, 3) := by decide +kernel
theorem dX5_turnNow_17 : decode cX5_turnNow 17 = .ok (.iconst 1, 1) := by decide +kernel
theorem dX5_turnNow_18 : decode cX5_turnNow 18 = .ok (.isub, 1) := by decide +kernel
theorem dX5_turnNow_19 : decode cX5_turnNow 19 = .ok (.invokevirtual 96, 3) := by decide +kernel
theorem dX5_turnNow_22 : decode cX5_turnNow 22 = .ok (.aload_n 0, 1) := by decide +kernel
theorem dX5_turnNow_23 : decode cX5_turnNow 23 = .ok (.aload_n 0, 1) := by decide +kernel
theorem dX5_turnNow_24 : decode cX5_turnNow 24 = .ok (.iload_n 1, 1) := by decide +kernel
theorem dX5_turnNow_25 : decode cX5_turnNow 25 = .ok (.iconst 2, 1) := by decide +kernel
theorem dX5_turnNow_26 : decode cX5_turnNow 26 = .ok (.invokevirtual 58, 3) := by decide +kernel
theorem dX5_turnNow_29 : decode cX5_turnNow 29 = .ok (.iconst 1, 1) := by decide +kernel
theorem dX5_turnNow_30 : decode cX5_turnNow 30 = .ok (.isub, 1) := by decide +kernel
theorem dX5_turnNow_31 : decode cX5_turnNow 31 = .ok (.iconst 1, 1) := by decide +kernel
theorem dX5_turnNow_32 : decode cX5_turnNow 32 = .ok (.invokevirtual 61, 3) := by decide +kernel
theorem dX5_turnNow_35 : decode cX5_turnNow 35 = .ok (.ireturn, 1) := by decide +kernel
theorem dX5_baste_0 : decode cX5_baste 0 = .ok (.aload_n 0, 1) := by decide +kernel
theorem dX5_baste_1 : decode cX5_baste 1 = .ok (.iload_n 1, 1) := by decide +kernel
theorem dX5_baste_2 : decode cX5_baste 2 = .ok (.invokevirtual 119, 3) := by decide +kernel
theorem dX5_baste_5 : decode cX5_baste 5 = .ok (.ifCond .ne 5, 3) := by decide +kernel
theorem dX5_baste_8 : decode cX5_baste 8 = .ok (.iconst 0, 1) := by decide +kernel
theorem dX5_baste_9 : decode cX5_baste 9 = .ok (.ireturn, 1) := by decide +kernel
theorem dX5_baste_10 : decode cX5_baste 10 = .ok (.aload_n 0, 1) := by decide +kernel
theorem dX5_baste_11 : decode cX5_baste 11 = .ok (.iload_n 1, 1) := by decide +kernel
theorem dX5_baste_12 : decode cX5_baste 12 = .ok (.iconst 1, 1) := by decide +kernel
theorem dX5_baste_13 : decode cX5_baste 13 = .ok (.invokevirtual 58, 3) := by decide +kernel
theorem dX5_baste_16 : decode cX5_baste 16 = .ok (.iconst 2, 1) := by decide +kernel
theorem dX5_baste_17 : decode cX5_baste 17 = .ok (.if_icmp .ge 9, 3) := by decide +kernel
theorem dX5_baste_20 : decode cX5_baste 20 = .ok (.aload_n 0, 1) := by decide +kernel
theorem dX5_baste_21 : decode cX5_baste 21 = .ok (.iconst 2, 1) := by decide +kernel
theorem dX5_baste_22 : decode cX5_baste 22 = .ok (.invokevirtual 103, 3) := by decide +kernel
theorem dX5_baste_25 : decode cX5_baste 25 = .ok (.ireturn, 1) := by decide +kernel
theorem dX5_baste_26 : decode cX5_baste 26 = .ok (.aload_n 0, 1) := by decide +kernel
theorem dX5_baste_27 : decode cX5_baste 27 = .ok (.iload_n 1, 1) := by decide +kernel
theorem dX5_baste_28 : decode cX5_baste 28 = .ok (.iconst 1, 1) := by decide +kernel
theorem dX5_baste_29 : decode cX5_baste 29 = .ok (.aload_n 0, 1) := by decide +kernel
theorem dX5_baste_30 : decode cX5_baste 30 = .ok (.iload_n 1, 1) := by decide +kernel
theorem dX5_baste_31 : decode cX5_baste 31 = .ok (.iconst 1, 1) := by decide +kernel
theorem dX5_baste_32 : decode cX5_baste 32 = .ok (.invokevirtual 58, 3) := by decide +kernel
theorem dX5_baste_35 : decode cX5_baste 35 = .ok (.iconst 2, 1) := by decide +kernel
theorem dX5_baste_36 : decode cX5_baste 36 = .ok (.isub, 1) := by decide +kernel
theorem dX5_baste_37 : decode cX5_baste 37 = .ok (.invokevirtual 86, 3) := by decide +kernel
theorem dX5_baste_40 : decode cX5_baste 40 = .ok (.aload_n 0, 1) := by decide +kernel
theorem dX5_baste_41 : decode cX5_baste 41 = .ok (.aload_n 0, 1) := by decide +kernel
theorem dX5_baste_42 : decode cX5_baste 42 = .ok (.iload_n 1, 1) := by decide +kernel
theorem dX5_baste_43 : decode cX5_baste 43 = .ok (.iconst 2, 1) := by decide +kernel
theorem dX5_baste_44 : decode cX5_baste 44 = .ok (.invokevirtual 58, 3) := by decide +kernel
theorem dX5_baste_47 : decode cX5_baste 47 = .ok (.iconst 1, 1) := by decide +kernel
theorem dX5_baste_48 : decode cX5_baste 48 = .ok (.isub, 1) := by decide +kernel
theorem dX5_baste_49 : decode cX5_baste 49 = .ok (.iconst 3, 1) := by decide +kernel
theorem dX5_baste_50 : decode cX5_baste 50 = .ok (.iconst 3, 1) := by decide +kernel
theorem dX5_baste_51 : decode cX5_baste 51 = .ok (.invokevirtual 73, 3) := by decide +kernel
theorem dX5_baste_54 : decode cX5_baste 54 = .ok (.aload_n 0, 1) := by decide +kernel
theorem dX5_baste_55 : decode cX5_baste 55 = .ok (.iload_n 1, 1) := by decide +kernel
theorem dX5_baste_56 : decode cX5_baste 56 = .ok (.iconst 1, 1) := by decide +kernel
theorem dX5_baste_57 : decode cX5_baste 57 = .ok (.invokevirtual 58, 3) := by decide +kernel
theorem dX5_baste_60 : decode cX5_baste 60 = .ok (.ireturn, 1) := by decide +kernel
theorem dX5_takeDown_0 : decode cX5_takeDown 0 = .ok (.aload_n 0, 1) := by decide +kernel
theorem dX5_takeDown_1 : decode cX5_takeDown 1 = .ok (.iload_n 1, 1) := by decide +kernel
theorem dX5_takeDown_2 : decode cX5_takeDown 2 = .ok (.invokevirtual 119, 3) := by decide +kernel
theorem dX5_takeDown_5 : decode cX5_takeDown 5 = .ok (.ifCond .ne 5, 3) := by decide +kernel
theorem dX5_takeDown_8 : decode cX5_takeDown 8 = .ok (.iconst 0, 1) := by decide +kernel
theorem dX5_takeDown_9 : decode cX5_takeDown 9 = .ok (.ireturn, 1) := by decide +kernel
theorem dX5_takeDown_10 : decode cX5_takeDown 10 = .ok (.aload_n 0, 1) := by decide +kernel
theorem dX5_takeDown_11 : decode cX5_takeDown 11 = .ok (.iload_n 1, 1) := by decide +kernel
theorem dX5_takeDown_12 : decode cX5_takeDown 12 = .ok (.iconst 2, 1) := by decide +kernel
theorem dX5_takeDown_13 : decode cX5_takeDown 13 = .ok (.invokevirtual 58, 3) := by decide +kernel
theorem dX5_takeDown_16 : decode cX5_takeDown 16 = .ok (.iconst 1, 1) := by decide +kernel
theorem dX5_takeDown_17 : decode cX5_takeDown 17 = .ok (.isub, 1) := by decide +kernel
theorem dX5_takeDown_18 : decode cX5_takeDown 18 = .ok (.istore_n 2, 1) := by decide +kernel
theorem dX5_takeDown_19 : decode cX5_takeDown 19 = .ok (.aload_n 0, 1) := by decide +kernel
theorem dX5_takeDown_20 : decode cX5_takeDown 20 = .ok (.iload_n 1, 1) := by decide +kernel
theorem dX5_takeDown_21 : decode cX5_takeDown 21 = .ok (.iconst 2, 1) := by decide +kernel
theorem dX5_takeDown_22 : decode cX5_takeDown 22 = .ok (.iconst 0, 1) := by decide +kernel
theorem dX5_takeDown_23 : decode cX5_takeDown 23 = .ok (.invokevirtual 86, 3) := by decide +kernel
theorem dX5_takeDown_26 : decode cX5_takeDown 26 = .ok (.aload_n 0, 1) := by decide +kernel
theorem dX5_takeDown_27 : decode cX5_takeDown 27 = .ok (.iload_n 2, 1) := by decide +kernel
theorem dX5_takeDown_28 : decode cX5_takeDown 28 = .ok (.iconst 0, 1) := by decide +kernel
theorem dX5_takeDown_29 : decode cX5_takeDown 29 = .ok (.iconst 0, 1) := by decide +kernel
theorem dX5_takeDown_30 : decode cX5_takeDown 30 = .ok (.invokevirtual 73, 3) := by decide +kernel
theorem dX5_takeDown_33 : decode cX5_takeDown 33 = .ok (.iload_n 2, 1) := by decide +kernel
theorem dX5_takeDown_34 : decode cX5_takeDown 34 = .ok (.ireturn, 1) := by decide +kernel
theorem dX5_emptyPan_0 : decode cX5_emptyPan 0 = .ok (.aload_n 0, 1) := by decide +kernel
theorem dX5_emptyPan_1 : decode cX5_emptyPan 1 = .ok (.iconst 0, 1) := by decide +kernel
theorem dX5_emptyPan_2 : decode cX5_emptyPan 2 = .ok (.putfield 32, 3) := by decide +kernel
theorem dX5_emptyPan_5 : decode cX5_emptyPan 5 = .ok (.aload_n 0, 1) := by decide +kernel
theorem dX5_emptyPan_6 : decode cX5_emptyPan 6 = .ok (.iload_n 1, 1) := by decide +kernel
theorem dX5_emptyPan_7 : decode cX5_emptyPan 7 = .ok (.invokevirtual 110, 3) := by decide +kernel
theorem dX5_emptyPan_10 : decode cX5_emptyPan 10 = .ok (.ifCond .ne 9, 3) := by decide +kernel
theorem dX5_emptyPan_13 : decode cX5_emptyPan 13 = .ok (.aload_n 0, 1) := by decide +kernel
theorem dX5_emptyPan_14 : decode cX5_emptyPan 14 = .ok (.iconst 1, 1) := by decide +kernel
theorem dX5_emptyPan_15 : decode cX5_emptyPan 15 = .ok (.invokevirtual 103, 3) := by decide +kernel
theorem dX5_emptyPan_18 : decode cX5_emptyPan 18 = .ok (.ireturn, 1) := by decide +kernel
theorem dX5_emptyPan_19 : decode cX5_emptyPan 19 = .ok (.aload_n 0, 1) := by decide +kernel
theorem dX5_emptyPan_20 : decode cX5_emptyPan 20 = .ok (.iload_n 1, 1) := by decide +kernel
theorem dX5_emptyPan_21 : decode cX5_emptyPan 21 = .ok (.iconst 1, 1) := by decide +kernel
theorem dX5_emptyPan_22 : decode cX5_emptyPan 22 = .ok (.invokevirtual 58, 3) := by decide +kernel
theorem dX5_emptyPan_25 : decode cX5_emptyPan 25 = .ok (.istore_n 2, 1) := by decide +kernel
theorem dX5_emptyPan_26 : decode cX5_emptyPan 26 = .ok (.aload_n 0, 1) := by decide +kernel
theorem dX5_emptyPan_27 : decode cX5_emptyPan 27 = .ok (.iload_n 1, 1) := by decide +kernel
theorem dX5_emptyPan_28 : decode cX5_emptyPan 28 = .ok (.iconst 1, 1) := by decide +kernel
theorem dX5_emptyPan_29 : decode cX5_emptyPan 29 = .ok (.iconst 0, 1) := by decide +kernel
theorem dX5_emptyPan_30 : decode cX5_emptyPan 30 = .ok (.invokevirtual 86, 3) := by decide +kernel
theorem dX5_emptyPan_33 : decode cX5_emptyPan 33 = .ok (.iload_n 2, 1) := by decide +kernel
theorem dX5_emptyPan_34 : decode cX5_emptyPan 34 = .ok (.ireturn, 1) := by decide +kernel
theorem dX5_pass_0 : decode cX5_pass 0 = .ok (.aload_n 0, 1) := by decide +kernel
theorem dX5_pass_1 : decode cX5_pass 1 = .ok (.iconst 0, 1) := by decide +kernel
theorem dX5_pass_2 : decode cX5_pass 2 = .ok (.putfield 32, 3) := by decide +kernel
theorem dX5_pass_5 : decode cX5_pass 5 = .ok (.iload_n 1, 1) := by decide +kernel
theorem dX5_pass_6 : decode cX5_pass 6 = .ok (.iconst 1, 1) := by decide +kernel
theorem dX5_pass_7 : decode cX5_pass 7 = .ok (.sipush 200, 3) := by decide +kernel
theorem dX5_pass_10 : decode cX5_pass 10 = .ok (.invokestatic 38, 3) := by decide +kernel
theorem dX5_pass_13 : decode cX5_pass 13 = .ok (.ifCond .ne 9, 3) := by decide +kernel
theorem dX5_pass_16 : decode cX5_pass 16 = .ok (.aload_n 0, 1) := by decide +kernel
theorem dX5_pass_17 : decode cX5_pass 17 = .ok (.iconst 1, 1) := by decide +kernel
theorem dX5_pass_18 : decode cX5_pass 18 = .ok (.invokevirtual 103, 3) := by decide +kernel
theorem dX5_pass_21 : decode cX5_pass 21 = .ok (.ireturn, 1) := by decide +kernel
theorem dX5_pass_22 : decode cX5_pass 22 = .ok (.iconst 0, 1) := by decide +kernel
theorem dX5_pass_23 : decode cX5_pass 23 = .ok (.istore_n 2, 1) := by decide +kernel
theorem dX5_pass_24 : decode cX5_pass 24 = .ok (.iconst 0, 1) := by decide +kernel
theorem dX5_pass_25 : decode cX5_pass 25 = .ok (.istore_n 3, 1) := by decide +kernel
theorem dX5_pass_26 : decode cX5_pass 26 = .ok (.iload_n 3, 1) := by decide +kernel
theorem dX5_pass_27 : decode cX5_pass 27 = .ok (.iload_n 1, 1) := by decide +kernel
theorem dX5_pass_28 : decode cX5_pass 28 = .ok (.if_icmp .ge 16, 3) := by decide +kernel
theorem dX5_pass_31 : decode cX5_pass 31 = .ok (.iload_n 2, 1) := by decide +kernel
