theorem dX4_moveSpit_5 : decode cX4_moveSpit 5 = .ok (.astore_n 3, 1) := by decide +kernel
theorem dX4_moveSpit_6 : decode cX4_moveSpit 6 = .ok (.iload_n 2, 1) := by decide +kernel
theorem dX4_moveSpit_7 : decode cX4_moveSpit 7 = .ok (.invokestatic 51, 3) := by decide +kernel
theorem dX4_moveSpit_10 : decode cX4_moveSpit 10 = .ok (.aload_n 3, 1) := by decide +kernel
theorem dX4_moveSpit_11 : decode cX4_moveSpit 11 = .ok (.getfield 64, 3) := by decide +kernel
theorem dX4_moveSpit_14 : decode cX4_moveSpit 14 = .ok (.istore 4, 2) := by decide +kernel
theorem dX4_moveSpit_16 : decode cX4_moveSpit 16 = .ok (.aload_n 3, 1) := by decide +kernel
theorem dX4_moveSpit_17 : decode cX4_moveSpit 17 = .ok (.iload_n 2, 1) := by decide +kernel
theorem dX4_moveSpit_18 : decode cX4_moveSpit 18 = .ok (.putfield 64, 3) := by decide +kernel
theorem dX4_moveSpit_21 : decode cX4_moveSpit 21 = .ok (.iload 4, 2) := by decide +kernel
theorem dX4_moveSpit_23 : decode cX4_moveSpit 23 = .ok (.ireturn, 1) := by decide +kernel
theorem dX4_turnEach_0 : decode cX4_turnEach 0 = .ok (.aload_n 0, 1) := by decide +kernel
theorem dX4_turnEach_1 : decode cX4_turnEach 1 = .ok (.iload_n 1, 1) := by decide +kernel
theorem dX4_turnEach_2 : decode cX4_turnEach 2 = .ok (.invokevirtual 60, 3) := by decide +kernel
theorem dX4_turnEach_5 : decode cX4_turnEach 5 = .ok (.astore_n 3, 1) := by decide +kernel
theorem dX4_turnEach_6 : decode cX4_turnEach 6 = .ok (.iload_n 2, 1) := by decide +kernel
theorem dX4_turnEach_7 : decode cX4_turnEach 7 = .ok (.ifCond .lt 9, 3) := by decide +kernel
theorem dX4_turnEach_10 : decode cX4_turnEach 10 = .ok (.iload_n 2, 1) := by decide +kernel
theorem dX4_turnEach_11 : decode cX4_turnEach 11 = .ok (.bipush 9, 2) := by decide +kernel
theorem dX4_turnEach_13 : decode cX4_turnEach 13 = .ok (.if_icmp .le 13, 3) := by decide +kernel
theorem dX4_turnEach_16 : decode cX4_turnEach 16 = .ok (.new 34, 3) := by decide +kernel
theorem dX4_turnEach_19 : decode cX4_turnEach 19 = .ok (.dup, 1) := by decide +kernel
theorem dX4_turnEach_20 : decode cX4_turnEach 20 = .ok (.ldc 69, 2) := by decide +kernel
theorem dX4_turnEach_22 : decode cX4_turnEach 22 = .ok (.invokespecial 38, 3) := by decide +kernel
theorem dX4_turnEach_25 : decode cX4_turnEach 25 = .ok (.athrow, 1) := by decide +kernel
theorem dX4_turnEach_26 : decode cX4_turnEach 26 = .ok (.aload_n 3, 1) := by decide +kernel
theorem dX4_turnEach_27 : decode cX4_turnEach 27 = .ok (.getfield 71, 3) := by decide +kernel
theorem dX4_turnEach_30 : decode cX4_turnEach 30 = .ok (.istore 4, 2) := by decide +kernel
theorem dX4_turnEach_32 : decode cX4_turnEach 32 = .ok (.aload_n 3, 1) := by decide +kernel
theorem dX4_turnEach_33 : decode cX4_turnEach 33 = .ok (.iload_n 2, 1) := by decide +kernel
theorem dX4_turnEach_34 : decode cX4_turnEach 34 = .ok (.invokevirtual 74, 3) := by decide +kernel
theorem dX4_turnEach_37 : decode cX4_turnEach 37 = .ok (.iload 4, 2) := by decide +kernel
theorem dX4_turnEach_39 : decode cX4_turnEach 39 = .ok (.ireturn, 1) := by decide +kernel
theorem dX4_setFeast_0 : decode cX4_setFeast 0 = .ok (.iload_n 1, 1) := by decide +kernel
theorem dX4_setFeast_1 : decode cX4_setFeast 1 = .ok (.ifCond .lt 10, 3) := by decide +kernel
theorem dX4_setFeast_4 : decode cX4_setFeast 4 = .ok (.iload_n 1, 1) := by decide +kernel
theorem dX4_setFeast_5 : decode cX4_setFeast 5 = .ok (.sipush 5000, 3) := by decide +kernel
theorem dX4_setFeast_8 : decode cX4_setFeast 8 = .ok (.if_icmp .le 13, 3) := by decide +kernel
theorem dX4_setFeast_11 : decode cX4_setFeast 11 = .ok (.new 34, 3) := by decide +kernel
theorem dX4_setFeast_14 : decode cX4_setFeast 14 = .ok (.dup, 1) := by decide +kernel
theorem dX4_setFeast_15 : decode cX4_setFeast 15 = .ok (.ldc 77, 2) := by decide +kernel
theorem dX4_setFeast_17 : decode cX4_setFeast 17 = .ok (.invokespecial 38, 3) := by decide +kernel
theorem dX4_setFeast_20 : decode cX4_setFeast 20 = .ok (.athrow, 1) := by decide +kernel
theorem dX4_setFeast_21 : decode cX4_setFeast 21 = .ok (.aload_n 0, 1) := by decide +kernel
theorem dX4_setFeast_22 : decode cX4_setFeast 22 = .ok (.getfield 10, 3) := by decide +kernel
theorem dX4_setFeast_25 : decode cX4_setFeast 25 = .ok (.getfield 79, 3) := by decide +kernel
theorem dX4_setFeast_28 : decode cX4_setFeast 28 = .ok (.istore_n 2, 1) := by decide +kernel
theorem dX4_setFeast_29 : decode cX4_setFeast 29 = .ok (.aload_n 0, 1) := by decide +kernel
theorem dX4_setFeast_30 : decode cX4_setFeast 30 = .ok (.getfield 10, 3) := by decide +kernel
theorem dX4_setFeast_33 : decode cX4_setFeast 33 = .ok (.iload_n 1, 1) := by decide +kernel
theorem dX4_setFeast_34 : decode cX4_setFeast 34 = .ok (.putfield 79, 3) := by decide +kernel
theorem dX4_setFeast_37 : decode cX4_setFeast 37 = .ok (.iload_n 2, 1) := by decide +kernel
theorem dX4_setFeast_38 : decode cX4_setFeast 38 = .ok (.ireturn, 1) := by decide +kernel
theorem dX4_hang_0 : decode cX4_hang 0 = .ok (.aload_n 0, 1) := by decide +kernel
theorem dX4_hang_1 : decode cX4_hang 1 = .ok (.iload_n 1, 1) := by decide +kernel
theorem dX4_hang_2 : decode cX4_hang 2 = .ok (.invokevirtual 60, 3) := by decide +kernel
theorem dX4_hang_5 : decode cX4_hang 5 = .ok (.pop, 1) := by decide +kernel
theorem dX4_hang_6 : decode cX4_hang 6 = .ok (.iload_n 2, 1) := by decide +kernel
theorem dX4_hang_7 : decode cX4_hang 7 = .ok (.invokestatic 82, 3) := by decide +kernel
theorem dX4_hang_10 : decode cX4_hang 10 = .ok (.aload_n 0, 1) := by decide +kernel
theorem dX4_hang_11 : decode cX4_hang 11 = .ok (.getfield 10, 3) := by decide +kernel
theorem dX4_hang_14 : decode cX4_hang 14 = .ok (.iload_n 1, 1) := by decide +kernel
theorem dX4_hang_15 : decode cX4_hang 15 = .ok (.iload_n 2, 1) := by decide +kernel
theorem dX4_hang_16 : decode cX4_hang 16 = .ok (.invokevirtual 85, 3) := by decide +kernel
theorem dX4_hang_19 : decode cX4_hang 19 = .ok (.istore_n 3, 1) := by decide +kernel
theorem dX4_hang_20 : decode cX4_hang 20 = .ok (.iload_n 3, 1) := by decide +kernel
theorem dX4_hang_21 : decode cX4_hang 21 = .ok (.iconst (-1), 1) := by decide +kernel
theorem dX4_hang_22 : decode cX4_hang 22 = .ok (.if_icmp .ne 13, 3) := by decide +kernel
theorem dX4_hang_25 : decode cX4_hang 25 = .ok (.new 23, 3) := by decide +kernel
theorem dX4_hang_28 : decode cX4_hang 28 = .ok (.dup, 1) := by decide +kernel
theorem dX4_hang_29 : decode cX4_hang 29 = .ok (.ldc 88, 2) := by decide +kernel
theorem dX4_hang_31 : decode cX4_hang 31 = .ok (.invokespecial 27, 3) := by decide +kernel
theorem dX4_hang_34 : decode cX4_hang 34 = .ok (.athrow, 1) := by decide +kernel
theorem dX4_hang_35 : decode cX4_hang 35 = .ok (.iload_n 3, 1) := by decide +kernel
theorem dX4_hang_36 : decode cX4_hang 36 = .ok (.ireturn, 1) := by decide +kernel
theorem dX4_turnNow_0 : decode cX4_turnNow 0 = .ok (.aload_n 0, 1) := by decide +kernel
theorem dX4_turnNow_1 : decode cX4_turnNow 1 = .ok (.aload_n 0, 1) := by decide +kernel
theorem dX4_turnNow_2 : decode cX4_turnNow 2 = .ok (.iload_n 1, 1) := by decide +kernel
theorem dX4_turnNow_3 : decode cX4_turnNow 3 = .ok (.invokevirtual 60, 3) := by decide +kernel
theorem dX4_turnNow_6 : decode cX4_turnNow 6 = .ok (.invokevirtual 90, 3) := by decide +kernel
theorem dX4_turnNow_9 : decode cX4_turnNow 9 = .ok (.astore_n 2, 1) := by decide +kernel
theorem dX4_turnNow_10 : decode cX4_turnNow 10 = .ok (.aload_n 2, 1) := by decide +kernel
theorem dX4_turnNow_11 : decode cX4_turnNow 11 = .ok (.invokevirtual 94, 3) := by decide +kernel
theorem dX4_turnNow_14 : decode cX4_turnNow 14 = .ok (.aload_n 2, 1) := by decide +kernel
theorem dX4_turnNow_15 : decode cX4_turnNow 15 = .ok (.getfield 99, 3) := by decide +kernel
theorem dX4_turnNow_18 : decode cX4_turnNow 18 = .ok (.ireturn, 1) := by decide +kernel
theorem dX4_baste_0 : decode cX4_baste 0 = .ok (.aload_n 0, 1) := by decide +kernel
theorem dX4_baste_1 : decode cX4_baste 1 = .ok (.iload_n 1, 1) := by decide +kernel
theorem dX4_baste_2 : decode cX4_baste 2 = .ok (.invokevirtual 60, 3) := by decide +kernel
theorem dX4_baste_5 : decode cX4_baste 5 = .ok (.astore_n 2, 1) := by decide +kernel
theorem dX4_baste_6 : decode cX4_baste 6 = .ok (.aload_n 0, 1) := by decide +kernel
theorem dX4_baste_7 : decode cX4_baste 7 = .ok (.aload_n 2, 1) := by decide +kernel
theorem dX4_baste_8 : decode cX4_baste 8 = .ok (.invokevirtual 90, 3) := by decide +kernel
theorem dX4_baste_11 : decode cX4_baste 11 = .ok (.astore_n 3, 1) := by decide +kernel
theorem dX4_baste_12 : decode cX4_baste 12 = .ok (.aload_n 2, 1) := by decide +kernel
theorem dX4_baste_13 : decode cX4_baste 13 = .ok (.getfield 102, 3) := by decide +kernel
theorem dX4_baste_16 : decode cX4_baste 16 = .ok (.iconst 2, 1) := by decide +kernel
theorem dX4_baste_17 : decode cX4_baste 17 = .ok (.if_icmp .ge 13, 3) := by decide +kernel
theorem dX4_baste_20 : decode cX4_baste 20 = .ok (.new 23, 3) := by decide +kernel
theorem dX4_baste_23 : decode cX4_baste 23 = .ok (.dup, 1) := by decide +kernel
theorem dX4_baste_24 : decode cX4_baste 24 = .ok (.ldc 105, 2) := by decide +kernel
theorem dX4_baste_26 : decode cX4_baste 26 = .ok (.invokespecial 27, 3) := by decide +kernel
theorem dX4_baste_29 : decode cX4_baste 29 = .ok (.athrow, 1) := by decide +kernel
theorem dX4_baste_30 : decode cX4_baste 30 = .ok (.aload_n 2, 1) := by decide +kernel
theorem dX4_baste_31 : decode cX4_baste 31 = .ok (.dup, 1) := by decide +kernel
theorem dX4_baste_32 : decode cX4_baste 32 = .ok (.getfield 102, 3) := by decide +kernel
theorem dX4_baste_35 : decode cX4_baste 35 = .ok (.iconst 2, 1) := by decide +kernel
theorem dX4_baste_36 : decode cX4_baste 36 = .ok (.isub, 1) := by decide +kernel
theorem dX4_baste_37 : decode cX4_baste 37 = .ok (.putfield 102, 3) := by decide +kernel
theorem dX4_baste_40 : decode cX4_baste 40 = .ok (.aload_n 3, 1) := by decide +kernel
theorem dX4_baste_41 : decode cX4_baste 41 = .ok (.iconst 3, 1) := by decide +kernel
theorem dX4_baste_42 : decode cX4_baste 42 = .ok (.putfield 107, 3) := by decide +kernel
theorem dX4_baste_45 : decode cX4_baste 45 = .ok (.aload_n 2, 1) := by decide +kernel
theorem dX4_baste_46 : decode cX4_baste 46 = .ok (.getfield 102, 3) := by decide +kernel
theorem dX4_baste_49 : decode cX4_baste 49 = .ok (.ireturn, 1) := by decide +kernel
theorem dX4_takeDown_0 : decode cX4_takeDown 0 = .ok (.aload_n 0, 1) := by decide +kernel
theorem dX4_takeDown_1 : decode cX4_takeDown 1 = .ok (.iload_n 1, 1) := by decide +kernel
theorem dX4_takeDown_2 : decode cX4_takeDown 2 = .ok (.invokevirtual 60, 3) := by decide +kernel
theorem dX4_takeDown_5 : decode cX4_takeDown 5 = .ok (.astore_n 2, 1) := by decide +kernel
theorem dX4_takeDown_6 : decode cX4_takeDown 6 = .ok (.aload_n 0, 1) := by decide +kernel
theorem dX4_takeDown_7 : decode cX4_takeDown 7 = .ok (.aload_n 2, 1) := by decide +kernel
theorem dX4_takeDown_8 : decode cX4_takeDown 8 = .ok (.invokevirtual 90, 3) := by decide +kernel
theorem dX4_takeDown_11 : decode cX4_takeDown 11 = .ok (.astore_n 3, 1) := by decide +kernel
theorem dX4_takeDown_12 : decode cX4_takeDown 12 = .ok (.aload_n 2, 1) := by decide +kernel
theorem dX4_takeDown_13 : decode cX4_takeDown 13 = .ok (.getfield 110, 3) := by decide +kernel
theorem dX4_takeDown_16 : decode cX4_takeDown 16 = .ok (.istore 4, 2) := by decide +kernel
theorem dX4_takeDown_18 : decode cX4_takeDown 18 = .ok (.aload_n 3, 1) := by decide +kernel
theorem dX4_takeDown_19 : decode cX4_takeDown 19 = .ok (.iconst (-1), 1) := by decide +kernel
theorem dX4_takeDown_20 : decode cX4_takeDown 20 = .ok (.putfield 113, 3) := by decide +kernel
theorem dX4_takeDown_23 : decode cX4_takeDown 23 = .ok (.aload_n 2, 1) := by decide +kernel
theorem dX4_takeDown_24 : decode cX4_takeDown 24 = .ok (.iconst (-1), 1) := by decide +kernel
theorem dX4_takeDown_25 : decode cX4_takeDown 25 = .ok (.putfield 110, 3) := by decide +kernel
theorem dX4_takeDown_28 : decode cX4_takeDown 28 = .ok (.iload 4, 2) := by decide +kernel
theorem dX4_takeDown_30 : decode cX4_takeDown 30 = .ok (.ireturn, 1) := by decide +kernel
theorem dX4_emptyPan_0 : decode cX4_emptyPan 0 = .ok (.aload_n 0, 1) := by decide +kernel
theorem dX4_emptyPan_1 : decode cX4_emptyPan 1 = .ok (.iload_n 1, 1) := by decide +kernel
theorem dX4_emptyPan_2 : decode cX4_emptyPan 2 = .ok (.invokevirtual 60, 3) := by decide +kernel
theorem dX4_emptyPan_5 : decode cX4_emptyPan 5 = .ok (.astore_n 2, 1) := by decide +kernel
theorem dX4_emptyPan_6 : decode cX4_emptyPan 6 = .ok (.aload_n 2, 1) := by decide +kernel
theorem dX4_emptyPan_7 : decode cX4_emptyPan 7 = .ok (.getfield 102, 3) := by decide +kernel
theorem dX4_emptyPan_10 : decode cX4_emptyPan 10 = .ok (.istore_n 3, 1) := by decide +kernel
theorem dX4_emptyPan_11 : decode cX4_emptyPan 11 = .ok (.aload_n 2, 1) := by decide +kernel
theorem dX4_emptyPan_12 : decode cX4_emptyPan 12 = .ok (.iconst 0, 1) := by decide +kernel
theorem dX4_emptyPan_13 : decode cX4_emptyPan 13 = .ok (.putfield 102, 3) := by decide +kernel
theorem dX4_emptyPan_16 : decode cX4_emptyPan 16 = .ok (.iload_n 3, 1) := by decide +kernel
theorem dX4_emptyPan_17 : decode cX4_emptyPan 17 = .ok (.ireturn, 1) := by decide +kernel
theorem dX4_pass_0 : decode cX4_pass 0 = .ok (.iload_n 1, 1) := by decide +kernel
theorem dX4_pass_1 : decode cX4_pass 1 = .ok (.iconst 1, 1) := by decide +kernel
theorem dX4_pass_2 : decode cX4_pass 2 = .ok (.if_icmp .lt 10, 3) := by decide +kernel
theorem dX4_pass_5 : decode cX4_pass 5 = .ok (.iload_n 1, 1) := by decide +kernel
theorem dX4_pass_6 : decode cX4_pass 6 = .ok (.sipush 200, 3) := by decide +kernel
theorem dX4_pass_9 : decode cX4_pass 9 = .ok (.if_icmp .le 13, 3) := by decide +kernel
theorem dX4_pass_12 : decode cX4_pass 12 = .ok (.new 34, 3) := by decide +kernel
theorem dX4_pass_15 : decode cX4_pass 15 = .ok (.dup, 1) := by decide +kernel
theorem dX4_pass_16 : decode cX4_pass 16 = .ok (.ldc 116, 2) := by decide +kernel
theorem dX4_pass_18 : decode cX4_pass 18 = .ok (.invokespecial 38, 3) := by decide +kernel
theorem dX4_pass_21 : decode cX4_pass 21 = .ok (.athrow, 1) := by decide +kernel
theorem dX4_pass_22 : decode cX4_pass 22 = .ok (.aload_n 0, 1) := by decide +kernel
theorem dX4_pass_23 : decode cX4_pass 23 = .ok (.getfield 10, 3) := by decide +kernel
theorem dX4_pass_26 : decode cX4_pass 26 = .ok (.iload_n 1, 1) := by decide +kernel
theorem dX4_pass_27 : decode cX4_pass 27 = .ok (.invokevirtual 118, 3) := by decide +kernel
theorem dX4_pass_30 : decode cX4_pass 30 = .ok (.ireturn, 1) := by decide +kernel
theorem dX4_minute_0 : decode cX4_minute 0 = .ok (.aload_n 0, 1) := by decide +kernel
theorem dX4_minute_1 : decode cX4_minute 1 = .ok (.getfield 10, 3) := by decide +kernel
theorem dX4_minute_4 : decode cX4_minute 4 = .ok (.getfield 122, 3) := by decide +kernel
theorem dX4_minute_7 : decode cX4_minute 7 = .ok (.ireturn, 1) := by decide +kernel
theorem dX4_feast_0 : decode cX4_feast 0 = .ok (.aload_n 0, 1) := by decide +kernel
theorem dX4_feast_1 : decode cX4_feast 1 = .ok (.getfield 10, 3) := by decide +kernel
theorem dX4_feast_4 : decode cX4_feast 4 = .ok (.getfield 79, 3) := by decide +kernel
theorem dX4_feast_7 : decode cX4_feast 7 = .ok (.ireturn, 1) := by decide +kernel
theorem dX4_fires_0 : decode cX4_fires 0 = .ok (.aload_n 0, 1) := by decide +kernel
theorem dX4_fires_1 : decode cX4_fires 1 = .ok (.getfield 10, 3) := by decide +kernel
theorem dX4_fires_4 : decode cX4_fires 4 = .ok (.getfield 125, 3) := by decide +kernel
theorem dX4_fires_7 : decode cX4_fires 7 = .ok (.ireturn, 1) := by decide +kernel
theorem dX4_logsOf_0 : decode cX4_logsOf 0 = .ok (.aload_n 0, 1) := by decide +kernel
theorem dX4_logsOf_1 : decode cX4_logsOf 1 = .ok (.iload_n 1, 1) := by decide +kernel
theorem dX4_logsOf_2 : decode cX4_logsOf 2 = .ok (.invokevirtual 30, 3) := by decide +kernel
theorem dX4_logsOf_5 : decode cX4_logsOf 5 = .ok (.getfield 39, 3) := by decide +kernel
theorem dX4_logsOf_8 : decode cX4_logsOf 8 = .ok (.ireturn, 1) := by decide +kernel
theorem dX4_heatOf_0 : decode cX4_heatOf 0 = .ok (.aload_n 0, 1) := by decide +kernel
theorem dX4_heatOf_1 : decode cX4_heatOf 1 = .ok (.iload_n 1, 1) := by decide +kernel
theorem dX4_heatOf_2 : decode cX4_heatOf 2 = .ok (.invokevirtual 30, 3) := by decide +kernel
theorem dX4_heatOf_5 : decode cX4_heatOf 5 = .ok (.getfield 128, 3) := by decide +kernel
theorem dX4_heatOf_8 : decode cX4_heatOf 8 = .ok (.ireturn, 1) := by decide +kernel
theorem dX4_spits_0 : decode cX4_spits 0 = .ok (.aload_n 0, 1) := by decide +kernel
theorem dX4_spits_1 : decode cX4_spits 1 = .ok (.getfield 10, 3) := by decide +kernel
theorem dX4_spits_4 : decode cX4_spits 4 = .ok (.getfield 131, 3) := by decide +kernel
theorem dX4_spits_7 : decode cX4_spits 7 = .ok (.ireturn, 1) := by decide +kernel
theorem dX4_fireOf_0 : decode cX4_fireOf 0 = .ok (.aload_n 0, 1) := by decide +kernel
theorem dX4_fireOf_1 : decode cX4_fireOf 1 = .ok (.iload_n 1, 1) := by decide +kernel
theorem dX4_fireOf_2 : decode cX4_fireOf 2 = .ok (.invokevirtual 60, 3) := by decide +kernel
theorem dX4_fireOf_5 : decode cX4_fireOf 5 = .ok (.getfield 134, 3) := by decide +kernel
theorem dX4_fireOf_8 : decode cX4_fireOf 8 = .ok (.ireturn, 1) := by decide +kernel
theorem dX4_feetOf_0 : decode cX4_feetOf 0 = .ok (.aload_n 0, 1) := by decide +kernel
theorem dX4_feetOf_1 : decode cX4_feetOf 1 = .ok (.iload_n 1, 1) := by decide +kernel
theorem dX4_feetOf_2 : decode cX4_feetOf 2 = .ok (.invokevirtual 60, 3) := by decide +kernel
theorem dX4_feetOf_5 : decode cX4_feetOf 5 = .ok (.getfield 64, 3) := by decide +kernel
theorem dX4_feetOf_8 : decode cX4_feetOf 8 = .ok (.ireturn, 1) := by decide +kernel
theorem dX4_glowAt_0 : decode cX4_glowAt 0 = .ok (.aload_n 0, 1) := by decide +kernel
theorem dX4_glowAt_1 : decode cX4_glowAt 1 = .ok (.getfield 10, 3) := by decide +kernel
theorem dX4_glowAt_4 : decode cX4_glowAt 4 = .ok (.aload_n 0, 1) := by decide +kernel
theorem dX4_glowAt_5 : decode cX4_glowAt 5 = .ok (.iload_n 1, 1) := by decide +kernel
theorem dX4_glowAt_6 : decode cX4_glowAt 6 = .ok (.invokevirtual 60, 3) := by decide +kernel
theorem dX4_glowAt_9 : decode cX4_glowAt 9 = .ok (.invokevirtual 137, 3) := by decide +kernel
theorem dX4_glowAt_12 : decode cX4_glowAt 12 = .ok (.ireturn, 1) := by decide +kernel
theorem dX4_turnedEach_0 : decode cX4_turnedEach 0 = .ok (.aload_n 0, 1) := by decide +kernel
theorem dX4_turnedEach_1 : decode cX4_turnedEach 1 = .ok (.iload_n 1, 1) := by decide +kernel
theorem dX4_turnedEach_2 : decode cX4_turnedEach 2 = .ok (.invokevirtual 60, 3) := by decide +kernel
theorem dX4_turnedEach_5 : decode cX4_turnedEach 5 = .ok (.getfield 71, 3) := by decide +kernel
theorem dX4_turnedEach_8 : decode cX4_turnedEach 8 = .ok (.ireturn, 1) := by decide +kernel
theorem dX4_drippingsOf_0 : decode cX4_drippingsOf 0 = .ok (.aload_n 0, 1) := by decide +kernel
theorem dX4_drippingsOf_1 : decode cX4_drippingsOf 1 = .ok (.iload_n 1, 1) := by decide +kernel
theorem dX4_drippingsOf_2 : decode cX4_drippingsOf 2 = .ok (.invokevirtual 60, 3) := by decide +kernel
theorem dX4_drippingsOf_5 : decode cX4_drippingsOf 5 = .ok (.getfield 102, 3) := by decide +kernel
theorem dX4_drippingsOf_8 : decode cX4_drippingsOf 8 = .ok (.ireturn, 1) := by decide +kernel
theorem dX4_roastOn_0 : decode cX4_roastOn 0 = .ok (.aload_n 0, 1) := by decide +kernel
theorem dX4_roastOn_1 : decode cX4_roastOn 1 = .ok (.iload_n 1, 1) := by decide +kernel
theorem dX4_roastOn_2 : decode cX4_roastOn 2 = .ok (.invokevirtual 60, 3) := by decide +kernel
theorem dX4_roastOn_5 : decode cX4_roastOn 5 = .ok (.getfield 110, 3) := by decide +kernel
theorem dX4_roastOn_8 : decode cX4_roastOn 8 = .ok (.ireturn, 1) := by decide +kernel
theorem dX4_roasts_0 : decode cX4_roasts 0 = .ok (.aload_n 0, 1) := by decide +kernel
theorem dX4_roasts_1 : decode cX4_roasts 1 = .ok (.getfield 10, 3) := by decide +kernel
theorem dX4_roasts_4 : decode cX4_roasts 4 = .ok (.getfield 141, 3) := by decide +kernel
theorem dX4_roasts_7 : decode cX4_roasts 7 = .ok (.ireturn, 1) := by decide +kernel
theorem dX4_poundsOf_0 : decode cX4_poundsOf 0 = .ok (.aload_n 0, 1) := by decide +kernel
theorem dX4_poundsOf_1 : decode cX4_poundsOf 1 = .ok (.iload_n 1, 1) := by decide +kernel
theorem dX4_poundsOf_2 : decode cX4_poundsOf 2 = .ok (.invokevirtual 144, 3) := by decide +kernel
theorem dX4_poundsOf_5 : decode cX4_poundsOf 5 = .ok (.getfield 148, 3) := by decide +kernel
theorem dX4_poundsOf_8 : decode cX4_poundsOf 8 = .ok (.ireturn, 1) := by decide +kernel
theorem dX4_spitOf_0 : decode cX4_spitOf 0 = .ok (.aload_n 0, 1) := by decide +kernel
theorem dX4_spitOf_1 : decode cX4_spitOf 1 = .ok (.iload_n 1, 1) := by decide +kernel
theorem dX4_spitOf_2 : decode cX4_spitOf 2 = .ok (.invokevirtual 144, 3) := by decide +kernel
theorem dX4_spitOf_5 : decode cX4_spitOf 5 = .ok (.getfield 113, 3) := by decide +kernel
theorem dX4_spitOf_8 : decode cX4_spitOf 8 = .ok (.ireturn, 1) := by decide +kernel
theorem dX4_sideToFire_0 : decode cX4_sideToFire 0 = .ok (.aload_n 0, 1) := by decide +kernel
theorem dX4_sideToFire_1 : decode cX4_sideToFire 1 = .ok (.iload_n 1, 1) := by decide +kernel
theorem dX4_sideToFire_2 : decode cX4_sideToFire 2 = .ok (.invokevirtual 144, 3) := by decide +kernel
theorem dX4_sideToFire_5 : decode cX4_sideToFire 5 = .ok (.getfield 99, 3) := by decide +kernel
theorem dX4_sideToFire_8 : decode cX4_sideToFire 8 = .ok (.ireturn, 1) := by decide +kernel
theorem dX4_brownOf_0 : decode cX4_brownOf 0 = .ok (.aload_n 0, 1) := by decide +kernel
theorem dX4_brownOf_1 : decode cX4_brownOf 1 = .ok (.iload_n 1, 1) := by decide +kernel
theorem dX4_brownOf_2 : decode cX4_brownOf 2 = .ok (.invokevirtual 144, 3) := by decide +kernel
theorem dX4_brownOf_5 : decode cX4_brownOf 5 = .ok (.astore_n 3, 1) := by decide +kernel
theorem dX4_brownOf_6 : decode cX4_brownOf 6 = .ok (.iload_n 2, 1) := by decide +kernel
theorem dX4_brownOf_7 : decode cX4_brownOf 7 = .ok (.ifCond .lt 12, 3) := by decide +kernel
theorem dX4_brownOf_10 : decode cX4_brownOf 10 = .ok (.iload_n 2, 1) := by decide +kernel
theorem dX4_brownOf_11 : decode cX4_brownOf 11 = .ok (.aload_n 3, 1) := by decide +kernel
theorem dX4_brownOf_12 : decode cX4_brownOf 12 = .ok (.getfield 151, 3) := by decide +kernel
theorem dX4_brownOf_15 : decode cX4_brownOf 15 = .ok (.arraylength, 1) := by decide +kernel
theorem dX4_brownOf_16 : decode cX4_brownOf 16 = .ok (.if_icmp .lt 13, 3) := by decide +kernel
theorem dX4_brownOf_19 : decode cX4_brownOf 19 = .ok (.new 155, 3) := by decide +kernel
theorem dX4_brownOf_22 : decode cX4_brownOf 22 = .ok (.dup, 1) := by decide +kernel
theorem dX4_brownOf_23 : decode cX4_brownOf 23 = .ok (.ldc 157, 2) := by decide +kernel
theorem dX4_brownOf_25 : decode cX4_brownOf 25 = .ok (.invokespecial 159, 3) := by decide +kernel
theorem dX4_brownOf_28 : decode cX4_brownOf 28 = .ok (.athrow, 1) := by decide +kernel
theorem dX4_brownOf_29 : decode cX4_brownOf 29 = .ok (.aload_n 3, 1) := by decide +kernel
theorem dX4_brownOf_30 : decode cX4_brownOf 30 = .ok (.getfield 151, 3) := by decide +kernel
theorem dX4_brownOf_33 : decode cX4_brownOf 33 = .ok (.iload_n 2, 1) := by decide +kernel
theorem dX4_brownOf_34 : decode cX4_brownOf 34 = .ok (.iaload, 1) := by decide +kernel
theorem dX4_brownOf_35 : decode cX4_brownOf 35 = .ok (.ireturn, 1) := by decide +kernel
theorem dX4_fatOf_0 : decode cX4_fatOf 0 = .ok (.aload_n 0, 1) := by decide +kernel
theorem dX4_fatOf_1 : decode cX4_fatOf 1 = .ok (.iload_n 1, 1) := by decide +kernel
theorem dX4_fatOf_2 : decode cX4_fatOf 2 = .ok (.invokevirtual 144, 3) := by decide +kernel
theorem dX4_fatOf_5 : decode cX4_fatOf 5 = .ok (.getfield 160, 3) := by decide +kernel
theorem dX4_fatOf_8 : decode cX4_fatOf 8 = .ok (.ireturn, 1) := by decide +kernel
theorem dX4_wetFor_0 : decode cX4_wetFor 0 = .ok (.aload_n 0, 1) := by decide +kernel
theorem dX4_wetFor_1 : decode cX4_wetFor 1 = .ok (.iload_n 1, 1) := by decide +kernel
theorem dX4_wetFor_2 : decode cX4_wetFor 2 = .ok (.invokevirtual 144, 3) := by decide +kernel
theorem dX4_wetFor_5 : decode cX4_wetFor 5 = .ok (.getfield 107, 3) := by decide +kernel
theorem dX4_wetFor_8 : decode cX4_wetFor 8 = .ok (.ireturn, 1) := by decide +kernel
theorem dX4_isDone_0 : decode cX4_isDone 0 = .ok (.aload_n 0, 1) := by decide +kernel
theorem dX4_isDone_1 : decode cX4_isDone 1 = .ok (.iload_n 1, 1) := by decide +kernel
theorem dX4_isDone_2 : decode cX4_isDone 2 = .ok (.invokevirtual 144, 3) := by decide +kernel
theorem dX4_isDone_5 : decode cX4_isDone 5 = .ok (.invokevirtual 163, 3) := by decide +kernel
theorem dX4_isDone_8 : decode cX4_isDone 8 = .ok (.ireturn, 1) := by decide +kernel
theorem dX4_isBurnt_0 : decode cX4_isBurnt 0 = .ok (.aload_n 0, 1) := by decide +kernel
theorem dX4_isBurnt_1 : decode cX4_isBurnt 1 = .ok (.iload_n 1, 1) := by decide +kernel
theorem dX4_isBurnt_2 : decode cX4_isBurnt 2 = .ok (.invokevirtual 144, 3) := by decide +kernel
theorem dX4_isBurnt_5 : decode cX4_isBurnt 5 = .ok (.invokevirtual 167, 3) := by decide +kernel
theorem dX4_isBurnt_8 : decode cX4_isBurnt 8 = .ok (.ireturn, 1) := by decide +kernel
theorem dX4_meanBrown_0 : decode cX4_meanBrown 0 = .ok (.aload_n 0, 1) := by decide +kernel
theorem dX4_meanBrown_1 : decode cX4_meanBrown 1 = .ok (.getfield 10, 3) := by decide +kernel
theorem dX4_meanBrown_4 : decode cX4_meanBrown 4 = .ok (.getfield 141, 3) := by decide +kernel
theorem dX4_meanBrown_7 : decode cX4_meanBrown 7 = .ok (.iconst 4, 1) := by decide +kernel
theorem dX4_meanBrown_8 : decode cX4_meanBrown 8 = .ok (.imul, 1) := by decide +kernel
theorem dX4_meanBrown_9 : decode cX4_meanBrown 9 = .ok (.istore_n 1, 1) := by decide +kernel
theorem dX4_meanBrown_10 : decode cX4_meanBrown 10 = .ok (.iload_n 1, 1) := by decide +kernel
theorem dX4_meanBrown_11 : decode cX4_meanBrown 11 = .ok (.ifCond .gt 5, 3) := by decide +kernel
theorem dX4_meanBrown_14 : decode cX4_meanBrown 14 = .ok (.dconst 0, 1) := by decide +kernel
theorem dX4_meanBrown_15 : decode cX4_meanBrown 15 = .ok (.dreturn, 1) := by decide +kernel
theorem dX4_meanBrown_16 : decode cX4_meanBrown 16 = .ok (.aload_n 0, 1) := by decide +kernel
theorem dX4_meanBrown_17 : decode cX4_meanBrown 17 = .ok (.getfield 10, 3) := by decide +kernel
theorem dX4_meanBrown_20 : decode cX4_meanBrown 20 = .ok (.invokevirtual 191, 3) := by decide +kernel
theorem dX4_meanBrown_23 : decode cX4_meanBrown 23 = .ok (.i2d, 1) := by decide +kernel
theorem dX4_meanBrown_24 : decode cX4_meanBrown 24 = .ok (.iload_n 1, 1) := by decide +kernel
theorem dX4_meanBrown_25 : decode cX4_meanBrown 25 = .ok (.i2d, 1) := by decide +kernel
theorem dX4_meanBrown_26 : decode cX4_meanBrown 26 = .ok (.ddiv, 1) := by decide +kernel
theorem dX4_meanBrown_27 : decode cX4_meanBrown 27 = .ok (.dreturn, 1) := by decide +kernel
theorem dX4_needFire_0 : decode cX4_needFire 0 = .ok (.aload_n 0, 1) := by decide +kernel
theorem dX4_needFire_1 : decode cX4_needFire 1 = .ok (.getfield 10, 3) := by decide +kernel
theorem dX4_needFire_4 : decode cX4_needFire 4 = .ok (.iload_n 1, 1) := by decide +kernel
theorem dX4_needFire_5 : decode cX4_needFire 5 = .ok (.invokevirtual 210, 3) := by decide +kernel
theorem dX4_needFire_8 : decode cX4_needFire 8 = .ok (.astore_n 2, 1) := by decide +kernel
theorem dX4_needFire_9 : decode cX4_needFire 9 = .ok (.aload_n 2, 1) := by decide +kernel
theorem dX4_needFire_10 : decode cX4_needFire 10 = .ok (.ifnonnull 13, 3) := by decide +kernel
theorem dX4_needFire_13 : decode cX4_needFire 13 = .ok (.new 155, 3) := by decide +kernel
theorem dX4_needFire_16 : decode cX4_needFire 16 = .ok (.dup, 1) := by decide +kernel
theorem dX4_needFire_17 : decode cX4_needFire 17 = .ok (.ldc 213, 2) := by decide +kernel
theorem dX4_needFire_19 : decode cX4_needFire 19 = .ok (.invokespecial 159, 3) := by decide +kernel
theorem dX4_needFire_22 : decode cX4_needFire 22 = .ok (.athrow, 1) := by decide +kernel
theorem dX4_needFire_23 : decode cX4_needFire 23 = .ok (.aload_n 2, 1) := by decide +kernel
theorem dX4_needFire_24 : decode cX4_needFire 24 = .ok (.areturn, 1) := by decide +kernel
theorem dX4_needSpit_0 : decode cX4_needSpit 0 = .ok (.aload_n 0, 1) := by decide +kernel
theorem dX4_needSpit_1 : decode cX4_needSpit 1 = .ok (.getfield 10, 3) := by decide +kernel
theorem dX4_needSpit_4 : decode cX4_needSpit 4 = .ok (.iload_n 1, 1) := by decide +kernel
theorem dX4_needSpit_5 : decode cX4_needSpit 5 = .ok (.invokevirtual 215, 3) := by decide +kernel
theorem dX4_needSpit_8 : decode cX4_needSpit 8 = .ok (.astore_n 2, 1) := by decide +kernel
theorem dX4_needSpit_9 : decode cX4_needSpit 9 = .ok (.aload_n 2, 1) := by decide +kernel
theorem dX4_needSpit_10 : decode cX4_needSpit 10 = .ok (.ifnonnull 13, 3) := by decide +kernel
theorem dX4_needSpit_13 : decode cX4_needSpit 13 = .ok (.new 155, 3) := by decide +kernel
theorem dX4_needSpit_16 : decode cX4_needSpit 16 = .ok (.dup, 1) := by decide +kernel
theorem dX4_needSpit_17 : decode cX4_needSpit 17 = .ok (.ldc 218, 2) := by decide +kernel
theorem dX4_needSpit_19 : decode cX4_needSpit 19 = .ok (.invokespecial 159, 3) := by decide +kernel
theorem dX4_needSpit_22 : decode cX4_needSpit 22 = .ok (.athrow, 1) := by decide +kernel
theorem dX4_needSpit_23 : decode cX4_needSpit 23 = .ok (.aload_n 2, 1) := by decide +kernel
theorem dX4_needSpit_24 : decode cX4_needSpit 24 = .ok (.areturn, 1) := by decide +kernel
theorem dX4_needRoast_0 : decode cX4_needRoast 0 = .ok (.aload_n 0, 1) := by decide +kernel
theorem dX4_needRoast_1 : decode cX4_needRoast 1 = .ok (.getfield 10, 3) := by decide +kernel
theorem dX4_needRoast_4 : decode cX4_needRoast 4 = .ok (.iload_n 1, 1) := by decide +kernel
theorem dX4_needRoast_5 : decode cX4_needRoast 5 = .ok (.invokevirtual 220, 3) := by decide +kernel
theorem dX4_needRoast_8 : decode cX4_needRoast 8 = .ok (.astore_n 2, 1) := by decide +kernel
theorem dX4_needRoast_9 : decode cX4_needRoast 9 = .ok (.aload_n 2, 1) := by decide +kernel
theorem dX4_needRoast_10 : decode cX4_needRoast 10 = .ok (.ifnonnull 13, 3) := by decide +kernel
theorem dX4_needRoast_13 : decode cX4_needRoast 13 = .ok (.new 155, 3) := by decide +kernel
theorem dX4_needRoast_16 : decode cX4_needRoast 16 = .ok (.dup, 1) := by decide +kernel
theorem dX4_needRoast_17 : decode cX4_needRoast 17 = .ok (.ldc 223, 2) := by decide +kernel
theorem dX4_needRoast_19 : decode cX4_needRoast 19 = .ok (.invokespecial 159, 3) := by decide +kernel
theorem dX4_needRoast_22 : decode cX4_needRoast 22 = .ok (.athrow, 1) := by decide +kernel
theorem dX4_needRoast_23 : decode cX4_needRoast 23 = .ok (.aload_n 2, 1) := by decide +kernel
theorem dX4_needRoast_24 : decode cX4_needRoast 24 = .ok (.areturn, 1) := by decide +kernel
theorem dX4_needRoastOf_0 : decode cX4_needRoastOf 0 = .ok (.aload_n 0, 1) := by decide +kernel
theorem dX4_needRoastOf_1 : decode cX4_needRoastOf 1 = .ok (.getfield 10, 3) := by decide +kernel
theorem dX4_needRoastOf_4 : decode cX4_needRoastOf 4 = .ok (.aload_n 1, 1) := by decide +kernel
theorem dX4_needRoastOf_5 : decode cX4_needRoastOf 5 = .ok (.getfield 110, 3) := by decide +kernel
theorem dX4_needRoastOf_8 : decode cX4_needRoastOf 8 = .ok (.invokevirtual 220, 3) := by decide +kernel
theorem dX4_needRoastOf_11 : decode cX4_needRoastOf 11 = .ok (.astore_n 2, 1) := by decide +kernel
theorem dX4_needRoastOf_12 : decode cX4_needRoastOf 12 = .ok (.aload_n 2, 1) := by decide +kernel
theorem dX4_needRoastOf_13 : decode cX4_needRoastOf 13 = .ok (.ifnonnull 13, 3) := by decide +kernel
theorem dX4_needRoastOf_16 : decode cX4_needRoastOf 16 = .ok (.new 23, 3) := by decide +kernel
theorem dX4_needRoastOf_19 : decode cX4_needRoastOf 19 = .ok (.dup, 1) := by decide +kernel
theorem dX4_needRoastOf_20 : decode cX4_needRoastOf 20 = .ok (.ldc 225, 2) := by decide +kernel
theorem dX4_needRoastOf_22 : decode cX4_needRoastOf 22 = .ok (.invokespecial 27, 3) := by decide +kernel
theorem dX4_needRoastOf_25 : decode cX4_needRoastOf 25 = .ok (.athrow, 1) := by decide +kernel
theorem dX4_needRoastOf_26 : decode cX4_needRoastOf 26 = .ok (.aload_n 2, 1) := by decide +kernel
theorem dX4_needRoastOf_27 : decode cX4_needRoastOf 27 = .ok (.areturn, 1) := by decide +kernel
theorem dX4_needFeet_0 : decode cX4_needFeet 0 = .ok (.iload_n 0, 1) := by decide +kernel
theorem dX4_needFeet_1 : decode cX4_needFeet 1 = .ok (.iconst 1, 1) := by decide +kernel
theorem dX4_needFeet_2 : decode cX4_needFeet 2 = .ok (.if_icmp .lt 8, 3) := by decide +kernel
theorem dX4_needFeet_5 : decode cX4_needFeet 5 = .ok (.iload_n 0, 1) := by decide +kernel
theorem dX4_needFeet_6 : decode cX4_needFeet 6 = .ok (.iconst 3, 1) := by decide +kernel
theorem dX4_needFeet_7 : decode cX4_needFeet 7 = .ok (.if_icmp .le 13, 3) := by decide +kernel
theorem dX4_needFeet_10 : decode cX4_needFeet 10 = .ok (.new 34, 3) := by decide +kernel
theorem dX4_needFeet_13 : decode cX4_needFeet 13 = .ok (.dup, 1) := by decide +kernel
theorem dX4_needFeet_14 : decode cX4_needFeet 14 = .ok (.ldc 227, 2) := by decide +kernel
theorem dX4_needFeet_16 : decode cX4_needFeet 16 = .ok (.invokespecial 38, 3) := by decide +kernel
theorem dX4_needFeet_19 : decode cX4_needFeet 19 = .ok (.athrow, 1) := by decide +kernel
theorem dX4_needFeet_20 : decode cX4_needFeet 20 = .ok (.return_, 1) := by decide +kernel
theorem dX4_needPounds_0 : decode cX4_needPounds 0 = .ok (.iload_n 0, 1) := by decide +kernel
theorem dX4_needPounds_1 : decode cX4_needPounds 1 = .ok (.iconst 1, 1) := by decide +kernel
theorem dX4_needPounds_2 : decode cX4_needPounds 2 = .ok (.if_icmp .lt 9, 3) := by decide +kernel
theorem dX4_needPounds_5 : decode cX4_needPounds 5 = .ok (.iload_n 0, 1) := by decide +kernel
theorem dX4_needPounds_6 : decode cX4_needPounds 6 = .ok (.bipush 12, 2) := by decide +kernel
theorem dX4_needPounds_8 : decode cX4_needPounds 8 = .ok (.if_icmp .le 13, 3) := by decide +kernel
theorem dX4_needPounds_11 : decode cX4_needPounds 11 = .ok (.new 34, 3) := by decide +kernel
theorem dX4_needPounds_14 : decode cX4_needPounds 14 = .ok (.dup, 1) := by decide +kernel
theorem dX4_needPounds_15 : decode cX4_needPounds 15 = .ok (.ldc 229, 2) := by decide +kernel
theorem dX4_needPounds_17 : decode cX4_needPounds 17 = .ok (.invokespecial 38, 3) := by decide +kernel
theorem dX4_needPounds_20 : decode cX4_needPounds 20 = .ok (.athrow, 1) := by decide +kernel
theorem dX4_needPounds_21 : decode cX4_needPounds 21 = .ok (.return_, 1) := by decide +kernel
theorem dX5_init_0 : decode cX5_init 0 = .ok (.aload_n 0, 1) := by decide +kernel
theorem dX5_init_1 : decode cX5_init 1 = .ok (.invokespecial 1, 3) := by decide +kernel
theorem dX5_init_4 : decode cX5_init 4 = .ok (.aload_n 0, 1) := by decide +kernel
theorem dX5_init_5 : decode cX5_init 5 = .ok (.iconst 4, 1) := by decide +kernel
theorem dX5_init_6 : decode cX5_init 6 = .ok (.newarray .int, 2) := by decide +kernel
theorem dX5_init_8 : decode cX5_init 8 = .ok (.putfield 7, 3) := by decide +kernel
theorem dX5_init_11 : decode cX5_init 11 = .ok (.return_, 1) := by decide +kernel
theorem dX5_isDone_0 : decode cX5_isDone 0 = .ok (.aload_n 0, 1) := by decide +kernel
theorem dX5_isDone_1 : decode cX5_isDone 1 = .ok (.getfield 7, 3) := by decide +kernel
theorem dX5_isDone_4 : decode cX5_isDone 4 = .ok (.astore_n 1, 1) := by decide +kernel
theorem dX5_isDone_5 : decode cX5_isDone 5 = .ok (.aload_n 1, 1) := by decide +kernel
theorem dX5_isDone_6 : decode cX5_isDone 6 = .ok (.arraylength, 1) := by decide +kernel
theorem dX5_isDone_7 : decode cX5_isDone 7 = .ok (.istore_n 2, 1) := by decide +kernel
theorem dX5_isDone_8 : decode cX5_isDone 8 = .ok (.iconst 0, 1) := by decide +kernel
theorem dX5_isDone_9 : decode cX5_isDone 9 = .ok (.istore_n 3, 1) := by decide +kernel
theorem dX5_isDone_10 : decode cX5_isDone 10 = .ok (.iload_n 3, 1) := by decide +kernel
theorem dX5_isDone_11 : decode cX5_isDone 11 = .ok (.iload_n 2, 1) := by decide +kernel
theorem dX5_isDone_12 : decode cX5_isDone 12 = .ok (.if_icmp .ge 41, 3) := by decide +kernel
theorem dX5_isDone_15 : decode cX5_isDone 15 = .ok (.aload_n 1, 1) := by decide +kernel
theorem dX5_isDone_16 : decode cX5_isDone 16 = .ok (.iload_n 3, 1) := by decide +kernel
theorem dX5_isDone_17 : decode cX5_isDone 17 = .ok (.iaload, 1) := by decide +kernel
theorem dX5_isDone_18 : decode cX5_isDone 18 = .ok (.istore 4, 2) := by decide +kernel
theorem dX5_isDone_20 : decode cX5_isDone 20 = .ok (.iload 4, 2) := by decide +kernel
theorem dX5_isDone_22 : decode cX5_isDone 22 = .ok (.iconst 3, 1) := by decide +kernel
theorem dX5_isDone_23 : decode cX5_isDone 23 = .ok (.aload_n 0, 1) := by decide +kernel
theorem dX5_isDone_24 : decode cX5_isDone 24 = .ok (.getfield 13, 3) := by decide +kernel
theorem dX5_isDone_27 : decode cX5_isDone 27 = .ok (.imul, 1) := by decide +kernel
theorem dX5_isDone_28 : decode cX5_isDone 28 = .ok (.if_icmp .lt 17, 3) := by decide +kernel
theorem dX5_isDone_31 : decode cX5_isDone 31 = .ok (.iload 4, 2) := by decide +kernel
theorem dX5_isDone_33 : decode cX5_isDone 33 = .ok (.iconst 3, 1) := by decide +kernel
theorem dX5_isDone_34 : decode cX5_isDone 34 = .ok (.aload_n 0, 1) := by decide +kernel
theorem dX5_isDone_35 : decode cX5_isDone 35 = .ok (.getfield 13, 3) := by decide +kernel
theorem dX5_isDone_38 : decode cX5_isDone 38 = .ok (.imul, 1) := by decide +kernel
theorem dX5_isDone_39 : decode cX5_isDone 39 = .ok (.bipush 30, 2) := by decide +kernel
theorem dX5_isDone_41 : decode cX5_isDone 41 = .ok (.iadd, 1) := by decide +kernel
theorem dX5_isDone_42 : decode cX5_isDone 42 = .ok (.if_icmp .le 5, 3) := by decide +kernel
theorem dX5_isDone_45 : decode cX5_isDone 45 = .ok (.iconst 0, 1) := by decide +kernel
theorem dX5_isDone_46 : decode cX5_isDone 46 = .ok (.ireturn, 1) := by decide +kernel
theorem dX5_isDone_47 : decode cX5_isDone 47 = .ok (.iinc 3 1, 3) := by decide +kernel
theorem dX5_isDone_50 : decode cX5_isDone 50 = .ok (.goto (-40), 3) := by decide +kernel
theorem dX5_isDone_53 : decode cX5_isDone 53 = .ok (.iconst 1, 1) := by decide +kernel
theorem dX5_isDone_54 : decode cX5_isDone 54 = .ok (.ireturn, 1) := by decide +kernel
theorem dX5_isBurnt_0 : decode cX5_isBurnt 0 = .ok (.aload_n 0, 1) := by decide +kernel
theorem dX5_isBurnt_1 : decode cX5_isBurnt 1 = .ok (.getfield 7, 3) := by decide +kernel
theorem dX5_isBurnt_4 : decode cX5_isBurnt 4 = .ok (.astore_n 1, 1) := by decide +kernel
theorem dX5_isBurnt_5 : decode cX5_isBurnt 5 = .ok (.aload_n 1, 1) := by decide +kernel
theorem dX5_isBurnt_6 : decode cX5_isBurnt 6 = .ok (.arraylength, 1) := by decide +kernel
theorem dX5_isBurnt_7 : decode cX5_isBurnt 7 = .ok (.istore_n 2, 1) := by decide +kernel
theorem dX5_isBurnt_8 : decode cX5_isBurnt 8 = .ok (.iconst 0, 1) := by decide +kernel
theorem dX5_isBurnt_9 : decode cX5_isBurnt 9 = .ok (.istore_n 3, 1) := by decide +kernel
theorem dX5_isBurnt_10 : decode cX5_isBurnt 10 = .ok (.iload_n 3, 1) := by decide +kernel
theorem dX5_isBurnt_11 : decode cX5_isBurnt 11 = .ok (.iload_n 2, 1) := by decide +kernel
theorem dX5_isBurnt_12 : decode cX5_isBurnt 12 = .ok (.if_icmp .ge 30, 3) := by decide +kernel
theorem dX5_isBurnt_15 : decode cX5_isBurnt 15 = .ok (.aload_n 1, 1) := by decide +kernel
theorem dX5_isBurnt_16 : decode cX5_isBurnt 16 = .ok (.iload_n 3, 1) := by decide +kernel
theorem dX5_isBurnt_17 : decode cX5_isBurnt 17 = .ok (.iaload, 1) := by decide +kernel
theorem dX5_isBurnt_18 : decode cX5_isBurnt 18 = .ok (.istore 4, 2) := by decide +kernel
theorem dX5_isBurnt_20 : decode cX5_isBurnt 20 = .ok (.iload 4, 2) := by decide +kernel
theorem dX5_isBurnt_22 : decode cX5_isBurnt 22 = .ok (.iconst 3, 1) := by decide +kernel
theorem dX5_isBurnt_23 : decode cX5_isBurnt 23 = .ok (.aload_n 0, 1) := by decide +kernel
theorem dX5_isBurnt_24 : decode cX5_isBurnt 24 = .ok (.getfield 13, 3) := by decide +kernel
theorem dX5_isBurnt_27 : decode cX5_isBurnt 27 = .ok (.imul, 1) := by decide +kernel
theorem dX5_isBurnt_28 : decode cX5_isBurnt 28 = .ok (.bipush 30, 2) := by decide +kernel
theorem dX5_isBurnt_30 : decode cX5_isBurnt 30 = .ok (.iadd, 1) := by decide +kernel
theorem dX5_isBurnt_31 : decode cX5_isBurnt 31 = .ok (.if_icmp .le 5, 3) := by decide +kernel
theorem dX5_isBurnt_34 : decode cX5_isBurnt 34 = .ok (.iconst 1, 1) := by decide +kernel
theorem dX5_isBurnt_35 : decode cX5_isBurnt 35 = .ok (.ireturn, 1) := by decide +kernel
theorem dX5_isBurnt_36 : decode cX5_isBurnt 36 = .ok (.iinc 3 1, 3) := by decide +kernel
theorem dX5_isBurnt_39 : decode cX5_isBurnt 39 = .ok (.goto (-29), 3) := by decide +kernel
theorem dX5_isBurnt_42 : decode cX5_isBurnt 42 = .ok (.iconst 0, 1) := by decide +kernel
theorem dX5_isBurnt_43 : decode cX5_isBurnt 43 = .ok (.ireturn, 1) := by decide +kernel
theorem dX5_tan_0 : decode cX5_tan 0 = .ok (.aload_n 0, 1) := by decide +kernel
theorem dX5_tan_1 : decode cX5_tan 1 = .ok (.getfield 7, 3) := by decide +kernel
theorem dX5_tan_4 : decode cX5_tan 4 = .ok (.iload_n 1, 1) := by decide +kernel
theorem dX5_tan_5 : decode cX5_tan 5 = .ok (.aload_n 0, 1) := by decide +kernel
theorem dX5_tan_6 : decode cX5_tan 6 = .ok (.getfield 7, 3) := by decide +kernel
theorem dX5_tan_9 : decode cX5_tan 9 = .ok (.iload_n 1, 1) := by decide +kernel
theorem dX5_tan_10 : decode cX5_tan 10 = .ok (.iaload, 1) := by decide +kernel
theorem dX5_tan_11 : decode cX5_tan 11 = .ok (.iload_n 2, 1) := by decide +kernel
theorem dX5_tan_12 : decode cX5_tan 12 = .ok (.iadd, 1) := by decide +kernel
theorem dX5_tan_13 : decode cX5_tan 13 = .ok (.bipush 99, 2) := by decide +kernel
theorem dX5_tan_15 : decode cX5_tan 15 = .ok (.if_icmp .le 8, 3) := by decide +kernel
theorem dX5_tan_18 : decode cX5_tan 18 = .ok (.bipush 99, 2) := by decide +kernel
theorem dX5_tan_20 : decode cX5_tan 20 = .ok (.goto 11, 3) := by decide +kernel
theorem dX5_tan_23 : decode cX5_tan 23 = .ok (.aload_n 0, 1) := by decide +kernel
theorem dX5_tan_24 : decode cX5_tan 24 = .ok (.getfield 7, 3) := by decide +kernel
theorem dX5_tan_27 : decode cX5_tan 27 = .ok (.iload_n 1, 1) := by decide +kernel
theorem dX5_tan_28 : decode cX5_tan 28 = .ok (.iaload, 1) := by decide +kernel
theorem dX5_tan_29 : decode cX5_tan 29 = .ok (.iload_n 2, 1) := by decide +kernel
theorem dX5_tan_30 : decode cX5_tan 30 = .ok (.iadd, 1) := by decide +kernel
theorem dX5_tan_31 : decode cX5_tan 31 = .ok (.iastore, 1) := by decide +kernel
theorem dX5_tan_32 : decode cX5_tan 32 = .ok (.return_, 1) := by decide +kernel
theorem dX5_gets_0 : decode cX5_gets 0 = .ok (.aload_n 0, 1) := by decide +kernel
theorem dX5_gets_1 : decode cX5_gets 1 = .ok (.aload_n 0, 1) := by decide +kernel
theorem dX5_gets_2 : decode cX5_gets 2 = .ok (.getfield 17, 3) := by decide +kernel
theorem dX5_gets_5 : decode cX5_gets 5 = .ok (.ifCond .le 18, 3) := by decide +kernel
theorem dX5_gets_8 : decode cX5_gets 8 = .ok (.iload_n 1, 1) := by decide +kernel
theorem dX5_gets_9 : decode cX5_gets 9 = .ok (.iconst 1, 1) := by decide +kernel
theorem dX5_gets_10 : decode cX5_gets 10 = .ok (.if_icmp .ge 7, 3) := by decide +kernel
theorem dX5_gets_13 : decode cX5_gets 13 = .ok (.iconst 0, 1) := by decide +kernel
theorem dX5_gets_14 : decode cX5_gets 14 = .ok (.goto 10, 3) := by decide +kernel
theorem dX5_gets_17 : decode cX5_gets 17 = .ok (.iload_n 1, 1) := by decide +kernel
theorem dX5_gets_18 : decode cX5_gets 18 = .ok (.iconst 1, 1) := by decide +kernel
theorem dX5_gets_19 : decode cX5_gets 19 = .ok (.isub, 1) := by decide +kernel
theorem dX5_gets_20 : decode cX5_gets 20 = .ok (.goto 4, 3) := by decide +kernel
theorem dX5_gets_23 : decode cX5_gets 23 = .ok (.iload_n 1, 1) := by decide +kernel
theorem dX5_gets_24 : decode cX5_gets 24 = .ok (.putfield 20, 3) := by decide +kernel
theorem dX5_gets_27 : decode cX5_gets 27 = .ok (.aload_n 0, 1) := by decide +kernel
theorem dX5_gets_28 : decode cX5_gets 28 = .ok (.getfield 17, 3) := by decide +kernel
theorem dX5_gets_31 : decode cX5_gets 31 = .ok (.ifCond .le 13, 3) := by decide +kernel
theorem dX5_gets_34 : decode cX5_gets 34 = .ok (.aload_n 0, 1) := by decide +kernel
theorem dX5_gets_35 : decode cX5_gets 35 = .ok (.dup, 1) := by decide +kernel
theorem dX5_gets_36 : decode cX5_gets 36 = .ok (.getfield 17, 3) := by decide +kernel
theorem dX5_gets_39 : decode cX5_gets 39 = .ok (.iconst 1, 1) := by decide +kernel
theorem dX5_gets_40 : decode cX5_gets 40 = .ok (.isub, 1) := by decide +kernel
theorem dX5_gets_41 : decode cX5_gets 41 = .ok (.putfield 17, 3) := by decide +kernel
theorem dX5_gets_44 : decode cX5_gets 44 = .ok (.aload_n 0, 1) := by decide +kernel
theorem dX5_gets_45 : decode cX5_gets 45 = .ok (.aload_n 0, 1) := by decide +kernel
theorem dX5_gets_46 : decode cX5_gets 46 = .ok (.getfield 23, 3) := by decide +kernel
theorem dX5_gets_49 : decode cX5_gets 49 = .ok (.aload_n 0, 1) := by decide +kernel
theorem dX5_gets_50 : decode cX5_gets 50 = .ok (.getfield 20, 3) := by decide +kernel
theorem dX5_gets_53 : decode cX5_gets 53 = .ok (.invokevirtual 26, 3) := by decide +kernel
theorem dX5_gets_56 : decode cX5_gets 56 = .ok (.aload_n 0, 1) := by decide +kernel
theorem dX5_gets_57 : decode cX5_gets 57 = .ok (.aload_n 0, 1) := by decide +kernel
theorem dX5_gets_58 : decode cX5_gets 58 = .ok (.getfield 23, 3) := by decide +kernel
theorem dX5_gets_61 : decode cX5_gets 61 = .ok (.iconst 3, 1) := by decide +kernel
theorem dX5_gets_62 : decode cX5_gets 62 = .ok (.if_icmp .ne 7, 3) := by decide +kernel
theorem dX5_gets_65 : decode cX5_gets 65 = .ok (.iconst 0, 1) := by decide +kernel
theorem dX5_gets_66 : decode cX5_gets 66 = .ok (.goto 9, 3) := by decide +kernel
theorem dX5_gets_69 : decode cX5_gets 69 = .ok (.aload_n 0, 1) := by decide +kernel
theorem dX5_gets_70 : decode cX5_gets 70 = .ok (.getfield 23, 3) := by decide +kernel
theorem dX5_gets_73 : decode cX5_gets 73 = .ok (.iconst 1, 1) := by decide +kernel
theorem dX5_gets_74 : decode cX5_gets 74 = .ok (.iadd, 1) := by decide +kernel
theorem dX5_gets_75 : decode cX5_gets 75 = .ok (.aload_n 0, 1) := by decide +kernel
theorem dX5_gets_76 : decode cX5_gets 76 = .ok (.getfield 20, 3) := by decide +kernel
theorem dX5_gets_79 : decode cX5_gets 79 = .ok (.iconst 3, 1) := by decide +kernel
theorem dX5_gets_80 : decode cX5_gets 80 = .ok (.idiv, 1) := by decide +kernel
theorem dX5_gets_81 : decode cX5_gets 81 = .ok (.invokevirtual 26, 3) := by decide +kernel
theorem dX5_gets_84 : decode cX5_gets 84 = .ok (.aload_n 0, 1) := by decide +kernel
theorem dX5_gets_85 : decode cX5_gets 85 = .ok (.aload_n 0, 1) := by decide +kernel
theorem dX5_gets_86 : decode cX5_gets 86 = .ok (.getfield 23, 3) := by decide +kernel
theorem dX5_gets_89 : decode cX5_gets 89 = .ok (.ifCond .ne 7, 3) := by decide +kernel
theorem dX5_gets_92 : decode cX5_gets 92 = .ok (.iconst 3, 1) := by decide +kernel
theorem dX5_gets_93 : decode cX5_gets 93 = .ok (.goto 9, 3) := by decide +kernel
theorem dX5_gets_96 : decode cX5_gets 96 = .ok (.aload_n 0, 1) := by decide +kernel
theorem dX5_gets_97 : decode cX5_gets 97 = .ok (.getfield 23, 3) := by decide +kernel
theorem dX5_gets_100 : decode cX5_gets 100 = .ok (.iconst 1, 1) := by decide +kernel
theorem dX5_gets_101 : decode cX5_gets 101 = .ok (.isub, 1) := by decide +kernel
theorem dX5_gets_102 : decode cX5_gets 102 = .ok (.aload_n 0, 1) := by decide +kernel
theorem dX5_gets_103 : decode cX5_gets 103 = .ok (.getfield 20, 3) := by decide +kernel
theorem dX5_gets_106 : decode cX5_gets 106 = .ok (.iconst 3, 1) := by decide +kernel
theorem dX5_gets_107 : decode cX5_gets 107 = .ok (.idiv, 1) := by decide +kernel
theorem dX5_gets_108 : decode cX5_gets 108 = .ok (.invokevirtual 26, 3) := by decide +kernel
theorem dX5_gets_111 : decode cX5_gets 111 = .ok (.return_, 1) := by decide +kernel
theorem dX6_init_0 : decode cX6_init 0 = .ok (.aload_n 0, 1) := by decide +kernel
theorem dX6_init_1 : decode cX6_init 1 = .ok (.invokespecial 1, 3) := by decide +kernel
theorem dX6_init_4 : decode cX6_init 4 = .ok (.aload_n 0, 1) := by decide +kernel
theorem dX6_init_5 : decode cX6_init 5 = .ok (.bipush 120, 2) := by decide +kernel
theorem dX6_init_7 : decode cX6_init 7 = .ok (.putfield 7, 3) := by decide +kernel
theorem dX6_init_10 : decode cX6_init 10 = .ok (.aload_n 0, 1) := by decide +kernel
theorem dX6_init_11 : decode cX6_init 11 = .ok (.iconst 0, 1) := by decide +kernel
theorem dX6_init_12 : decode cX6_init 12 = .ok (.anewarray 13, 3) := by decide +kernel
theorem dX6_init_15 : decode cX6_init 15 = .ok (.putfield 15, 3) := by decide +kernel
theorem dX6_init_18 : decode cX6_init 18 = .ok (.aload_n 0, 1) := by decide +kernel
theorem dX6_init_19 : decode cX6_init 19 = .ok (.iconst 0, 1) := by decide +kernel
theorem dX6_init_20 : decode cX6_init 20 = .ok (.anewarray 13, 3) := by decide +kernel
theorem dX6_init_23 : decode cX6_init 23 = .ok (.putfield 19, 3) := by decide +kernel
theorem dX6_init_26 : decode cX6_init 26 = .ok (.aload_n 0, 1) := by decide +kernel
theorem dX6_init_27 : decode cX6_init 27 = .ok (.iconst 0, 1) := by decide +kernel
theorem dX6_init_28 : decode cX6_init 28 = .ok (.anewarray 22, 3) := by decide +kernel
theorem dX6_init_31 : decode cX6_init 31 = .ok (.putfield 24, 3) := by decide +kernel
theorem dX6_init_34 : decode cX6_init 34 = .ok (.return_, 1) := by decide +kernel
theorem dX6_with_0 : decode cX6_with 0 = .ok (.aload_n 0, 1) := by decide +kernel
theorem dX6_with_1 : decode cX6_with 1 = .ok (.arraylength, 1) := by decide +kernel
theorem dX6_with_2 : decode cX6_with 2 = .ok (.iconst 1, 1) := by decide +kernel
theorem dX6_with_3 : decode cX6_with 3 = .ok (.iadd, 1) := by decide +kernel
theorem dX6_with_4 : decode cX6_with 4 = .ok (.anewarray 13, 3) := by decide +kernel
theorem dX6_with_7 : decode cX6_with 7 = .ok (.astore_n 2, 1) := by decide +kernel
theorem dX6_with_8 : decode cX6_with 8 = .ok (.iconst 0, 1) := by decide +kernel
theorem dX6_with_9 : decode cX6_with 9 = .ok (.istore_n 3, 1) := by decide +kernel
theorem dX6_with_10 : decode cX6_with 10 = .ok (.iload_n 3, 1) := by decide +kernel
theorem dX6_with_11 : decode cX6_with 11 = .ok (.aload_n 0, 1) := by decide +kernel
theorem dX6_with_12 : decode cX6_with 12 = .ok (.arraylength, 1) := by decide +kernel
theorem dX6_with_13 : decode cX6_with 13 = .ok (.if_icmp .ge 15, 3) := by decide +kernel
theorem dX6_with_16 : decode cX6_with 16 = .ok (.aload_n 2, 1) := by decide +kernel
theorem dX6_with_17 : decode cX6_with 17 = .ok (.iload_n 3, 1) := by decide +kernel
theorem dX6_with_18 : decode cX6_with 18 = .ok (.aload_n 0, 1) := by decide +kernel
theorem dX6_with_19 : decode cX6_with 19 = .ok (.iload_n 3, 1) := by decide +kernel
theorem dX6_with_20 : decode cX6_with 20 = .ok (.aaload, 1) := by decide +kernel
theorem dX6_with_21 : decode cX6_with 21 = .ok (.aastore, 1) := by decide +kernel
theorem dX6_with_22 : decode cX6_with 22 = .ok (.iinc 3 1, 3) := by decide +kernel
theorem dX6_with_25 : decode cX6_with 25 = .ok (.goto (-15), 3) := by decide +kernel
theorem dX6_with_28 : decode cX6_with 28 = .ok (.aload_n 2, 1) := by decide +kernel
theorem dX6_with_29 : decode cX6_with 29 = .ok (.aload_n 0, 1) := by decide +kernel
theorem dX6_with_30 : decode cX6_with 30 = .ok (.arraylength, 1) := by decide +kernel
theorem dX6_with_31 : decode cX6_with 31 = .ok (.aload_n 1, 1) := by decide +kernel
theorem dX6_with_32 : decode cX6_with 32 = .ok (.aastore, 1) := by decide +kernel
theorem dX6_with_33 : decode cX6_with 33 = .ok (.aload_n 2, 1) := by decide +kernel
theorem dX6_with_34 : decode cX6_with 34 = .ok (.areturn, 1) := by decide +kernel
theorem dX6_hang_0 : decode cX6_hang 0 = .ok (.aload_n 0, 1) := by decide +kernel
theorem dX6_hang_1 : decode cX6_hang 1 = .ok (.getfield 24, 3) := by decide +kernel
theorem dX6_hang_4 : decode cX6_hang 4 = .ok (.arraylength, 1) := by decide +kernel
theorem dX6_hang_5 : decode cX6_hang 5 = .ok (.iconst 1, 1) := by decide +kernel
theorem dX6_hang_6 : decode cX6_hang 6 = .ok (.iadd, 1) := by decide +kernel
theorem dX6_hang_7 : decode cX6_hang 7 = .ok (.anewarray 22, 3) := by decide +kernel
theorem dX6_hang_10 : decode cX6_hang 10 = .ok (.astore_n 3, 1) := by decide +kernel
theorem dX6_hang_11 : decode cX6_hang 11 = .ok (.iconst 0, 1) := by decide +kernel
theorem dX6_hang_12 : decode cX6_hang 12 = .ok (.istore 4, 2) := by decide +kernel
theorem dX6_hang_14 : decode cX6_hang 14 = .ok (.iload 4, 2) := by decide +kernel
theorem dX6_hang_16 : decode cX6_hang 16 = .ok (.aload_n 0, 1) := by decide +kernel
theorem dX6_hang_17 : decode cX6_hang 17 = .ok (.getfield 24, 3) := by decide +kernel
theorem dX6_hang_20 : decode cX6_hang 20 = .ok (.arraylength, 1) := by decide +kernel
theorem dX6_hang_21 : decode cX6_hang 21 = .ok (.if_icmp .ge 20, 3) := by decide +kernel
theorem dX6_hang_24 : decode cX6_hang 24 = .ok (.aload_n 3, 1) := by decide +kernel
theorem dX6_hang_25 : decode cX6_hang 25 = .ok (.iload 4, 2) := by decide +kernel
theorem dX6_hang_27 : decode cX6_hang 27 = .ok (.aload_n 0, 1) := by decide +kernel
theorem dX6_hang_28 : decode cX6_hang 28 = .ok (.getfield 24, 3) := by decide +kernel
theorem dX6_hang_31 : decode cX6_hang 31 = .ok (.iload 4, 2) := by decide +kernel
theorem dX6_hang_33 : decode cX6_hang 33 = .ok (.aaload, 1) := by decide +kernel
theorem dX6_hang_34 : decode cX6_hang 34 = .ok (.aastore, 1) := by decide +kernel
theorem dX6_hang_35 : decode cX6_hang 35 = .ok (.iinc 4 1, 3) := by decide +kernel
theorem dX6_hang_38 : decode cX6_hang 38 = .ok (.goto (-24), 3) := by decide +kernel
theorem dX6_hang_41 : decode cX6_hang 41 = .ok (.new 22, 3) := by decide +kernel
theorem dX6_hang_44 : decode cX6_hang 44 = .ok (.dup, 1) := by decide +kernel
theorem dX6_hang_45 : decode cX6_hang 45 = .ok (.invokespecial 28, 3) := by decide +kernel
theorem dX6_hang_48 : decode cX6_hang 48 = .ok (.astore 4, 2) := by decide +kernel
theorem dX6_hang_50 : decode cX6_hang 50 = .ok (.aload 4, 2) := by decide +kernel
theorem dX6_hang_52 : decode cX6_hang 52 = .ok (.iload_n 2, 1) := by decide +kernel
theorem dX6_hang_53 : decode cX6_hang 53 = .ok (.putfield 29, 3) := by decide +kernel
theorem dX6_hang_56 : decode cX6_hang 56 = .ok (.aload 4, 2) := by decide +kernel
theorem dX6_hang_58 : decode cX6_hang 58 = .ok (.iload_n 1, 1) := by decide +kernel
theorem dX6_hang_59 : decode cX6_hang 59 = .ok (.putfield 32, 3) := by decide +kernel
theorem dX6_hang_62 : decode cX6_hang 62 = .ok (.aload 4, 2) := by decide +kernel
theorem dX6_hang_64 : decode cX6_hang 64 = .ok (.iconst 3, 1) := by decide +kernel
theorem dX6_hang_65 : decode cX6_hang 65 = .ok (.iload_n 2, 1) := by decide +kernel
theorem dX6_hang_66 : decode cX6_hang 66 = .ok (.imul, 1) := by decide +kernel
theorem dX6_hang_67 : decode cX6_hang 67 = .ok (.putfield 35, 3) := by decide +kernel
theorem dX6_hang_70 : decode cX6_hang 70 = .ok (.aload_n 3, 1) := by decide +kernel
theorem dX6_hang_71 : decode cX6_hang 71 = .ok (.aload_n 0, 1) := by decide +kernel
theorem dX6_hang_72 : decode cX6_hang 72 = .ok (.getfield 24, 3) := by decide +kernel
theorem dX6_hang_75 : decode cX6_hang 75 = .ok (.arraylength, 1) := by decide +kernel
theorem dX6_hang_76 : decode cX6_hang 76 = .ok (.aload 4, 2) := by decide +kernel
theorem dX6_hang_78 : decode cX6_hang 78 = .ok (.aastore, 1) := by decide +kernel
theorem dX6_hang_79 : decode cX6_hang 79 = .ok (.aload_n 0, 1) := by decide +kernel
theorem dX6_hang_80 : decode cX6_hang 80 = .ok (.getfield 19, 3) := by decide +kernel
theorem dX6_hang_83 : decode cX6_hang 83 = .ok (.iload_n 1, 1) := by decide +kernel
theorem dX6_hang_84 : decode cX6_hang 84 = .ok (.aaload, 1) := by decide +kernel
theorem dX6_hang_85 : decode cX6_hang 85 = .ok (.iconst 3, 1) := by decide +kernel
theorem dX6_hang_86 : decode cX6_hang 86 = .ok (.aload_n 0, 1) := by decide +kernel
theorem dX6_hang_87 : decode cX6_hang 87 = .ok (.getfield 24, 3) := by decide +kernel
theorem dX6_hang_90 : decode cX6_hang 90 = .ok (.arraylength, 1) := by decide +kernel
theorem dX6_hang_91 : decode cX6_hang 91 = .ok (.iastore, 1) := by decide +kernel
theorem dX6_hang_92 : decode cX6_hang 92 = .ok (.aload_n 0, 1) := by decide +kernel
theorem dX6_hang_93 : decode cX6_hang 93 = .ok (.getfield 19, 3) := by decide +kernel
theorem dX6_hang_96 : decode cX6_hang 96 = .ok (.iload_n 1, 1) := by decide +kernel
theorem dX6_hang_97 : decode cX6_hang 97 = .ok (.aaload, 1) := by decide +kernel
theorem dX6_hang_98 : decode cX6_hang 98 = .ok (.iconst 4, 1) := by decide +kernel
theorem dX6_hang_99 : decode cX6_hang 99 = .ok (.iconst 0, 1) := by decide +kernel
theorem dX6_hang_100 : decode cX6_hang 100 = .ok (.iastore, 1) := by decide +kernel
theorem dX6_hang_101 : decode cX6_hang 101 = .ok (.aload_n 0, 1) := by decide +kernel
theorem dX6_hang_102 : decode cX6_hang 102 = .ok (.aload_n 3, 1) := by decide +kernel
theorem dX6_hang_103 : decode cX6_hang 103 = .ok (.putfield 24, 3) := by decide +kernel
theorem dX6_hang_106 : decode cX6_hang 106 = .ok (.aload_n 3, 1) := by decide +kernel
theorem dX6_hang_107 : decode cX6_hang 107 = .ok (.arraylength, 1) := by decide +kernel
theorem dX6_hang_108 : decode cX6_hang 108 = .ok (.iconst 1, 1) := by decide +kernel
theorem dX6_hang_109 : decode cX6_hang 109 = .ok (.isub, 1) := by decide +kernel
theorem dX6_hang_110 : decode cX6_hang 110 = .ok (.ireturn, 1) := by decide +kernel
theorem dX6_glow_0 : decode cX6_glow 0 = .ok (.aload_n 0, 1) := by decide +kernel
theorem dX6_glow_1 : decode cX6_glow 1 = .ok (.getfield 15, 3) := by decide +kernel
theorem dX6_glow_4 : decode cX6_glow 4 = .ok (.aload_n 0, 1) := by decide +kernel
theorem dX6_glow_5 : decode cX6_glow 5 = .ok (.getfield 19, 3) := by decide +kernel
theorem dX6_glow_8 : decode cX6_glow 8 = .ok (.iload_n 1, 1) := by decide +kernel
theorem dX6_glow_9 : decode cX6_glow 9 = .ok (.aaload, 1) := by decide +kernel
theorem dX6_glow_10 : decode cX6_glow 10 = .ok (.iconst 0, 1) := by decide +kernel
theorem dX6_glow_11 : decode cX6_glow 11 = .ok (.iaload, 1) := by decide +kernel
theorem dX6_glow_12 : decode cX6_glow 12 = .ok (.aaload, 1) := by decide +kernel
theorem dX6_glow_13 : decode cX6_glow 13 = .ok (.iconst 1, 1) := by decide +kernel
theorem dX6_glow_14 : decode cX6_glow 14 = .ok (.iaload, 1) := by decide +kernel
theorem dX6_glow_15 : decode cX6_glow 15 = .ok (.aload_n 0, 1) := by decide +kernel
theorem dX6_glow_16 : decode cX6_glow 16 = .ok (.getfield 19, 3) := by decide +kernel
theorem dX6_glow_19 : decode cX6_glow 19 = .ok (.iload_n 1, 1) := by decide +kernel
theorem dX6_glow_20 : decode cX6_glow 20 = .ok (.aaload, 1) := by decide +kernel
theorem dX6_glow_21 : decode cX6_glow 21 = .ok (.iconst 1, 1) := by decide +kernel
theorem dX6_glow_22 : decode cX6_glow 22 = .ok (.iaload, 1) := by decide +kernel
theorem dX6_glow_23 : decode cX6_glow 23 = .ok (.idiv, 1) := by decide +kernel
theorem dX6_glow_24 : decode cX6_glow 24 = .ok (.ireturn, 1) := by decide +kernel
theorem dX6_pass_0 : decode cX6_pass 0 = .ok (.aload_n 0, 1) := by decide +kernel
theorem dX6_pass_1 : decode cX6_pass 1 = .ok (.getfield 19, 3) := by decide +kernel
theorem dX6_pass_4 : decode cX6_pass 4 = .ok (.arraylength, 1) := by decide +kernel
theorem dX6_pass_5 : decode cX6_pass 5 = .ok (.newarray .int, 2) := by decide +kernel
theorem dX6_pass_7 : decode cX6_pass 7 = .ok (.astore_n 1, 1) := by decide +kernel
theorem dX6_pass_8 : decode cX6_pass 8 = .ok (.iconst 0, 1) := by decide +kernel
theorem dX6_pass_9 : decode cX6_pass 9 = .ok (.istore_n 2, 1) := by decide +kernel
theorem dX6_pass_10 : decode cX6_pass 10 = .ok (.iload_n 2, 1) := by decide +kernel
theorem dX6_pass_11 : decode cX6_pass 11 = .ok (.aload_n 0, 1) := by decide +kernel
theorem dX6_pass_12 : decode cX6_pass 12 = .ok (.getfield 19, 3) := by decide +kernel
theorem dX6_pass_15 : decode cX6_pass 15 = .ok (.arraylength, 1) := by decide +kernel
theorem dX6_pass_16 : decode cX6_pass 16 = .ok (.if_icmp .ge 17, 3) := by decide +kernel
theorem dX6_pass_19 : decode cX6_pass 19 = .ok (.aload_n 1, 1) := by decide +kernel
theorem dX6_pass_20 : decode cX6_pass 20 = .ok (.iload_n 2, 1) := by decide +kernel
theorem dX6_pass_21 : decode cX6_pass 21 = .ok (.aload_n 0, 1) := by decide +kernel
theorem dX6_pass_22 : decode cX6_pass 22 = .ok (.iload_n 2, 1) := by decide +kernel
theorem dX6_pass_23 : decode cX6_pass 23 = .ok (.invokevirtual 50, 3) := by decide +kernel
theorem dX6_pass_26 : decode cX6_pass 26 = .ok (.iastore, 1) := by decide +kernel
theorem dX6_pass_27 : decode cX6_pass 27 = .ok (.iinc 2 1, 3) := by decide +kernel
theorem dX6_pass_30 : decode cX6_pass 30 = .ok (.goto (-20), 3) := by decide +kernel
theorem dX6_pass_33 : decode cX6_pass 33 = .ok (.aload_n 0, 1) := by decide +kernel
theorem dX6_pass_34 : decode cX6_pass 34 = .ok (.getfield 24, 3) := by decide +kernel
theorem dX6_pass_37 : decode cX6_pass 37 = .ok (.astore_n 2, 1) := by decide +kernel
theorem dX6_pass_38 : decode cX6_pass 38 = .ok (.aload_n 2, 1) := by decide +kernel
theorem dX6_pass_39 : decode cX6_pass 39 = .ok (.arraylength, 1) := by decide +kernel
theorem dX6_pass_40 : decode cX6_pass 40 = .ok (.istore_n 3, 1) := by decide +kernel
theorem dX6_pass_41 : decode cX6_pass 41 = .ok (.iconst 0, 1) := by decide +kernel
theorem dX6_pass_42 : decode cX6_pass 42 = .ok (.istore 4, 2) := by decide +kernel
theorem dX6_pass_44 : decode cX6_pass 44 = .ok (.iload 4, 2) := by decide +kernel
theorem dX6_pass_46 : decode cX6_pass 46 = .ok (.iload_n 3, 1) := by decide +kernel
theorem dX6_pass_47 : decode cX6_pass 47 = .ok (.if_icmp .ge 35, 3) := by decide +kernel
theorem dX6_pass_50 : decode cX6_pass 50 = .ok (.aload_n 2, 1) := by decide +kernel
theorem dX6_pass_51 : decode cX6_pass 51 = .ok (.iload 4, 2) := by decide +kernel
theorem dX6_pass_53 : decode cX6_pass 53 = .ok (.aaload, 1) := by decide +kernel
theorem dX6_pass_54 : decode cX6_pass 54 = .ok (.astore 5, 2) := by decide +kernel
theorem dX6_pass_56 : decode cX6_pass 56 = .ok (.aload 5, 2) := by decide +kernel
theorem dX6_pass_58 : decode cX6_pass 58 = .ok (.getfield 32, 3) := by decide +kernel
theorem dX6_pass_61 : decode cX6_pass 61 = .ok (.ifCond .lt 15, 3) := by decide +kernel
theorem dX6_pass_64 : decode cX6_pass 64 = .ok (.aload 5, 2) := by decide +kernel
theorem dX6_pass_66 : decode cX6_pass 66 = .ok (.aload_n 1, 1) := by decide +kernel
theorem dX6_pass_67 : decode cX6_pass 67 = .ok (.aload 5, 2) := by decide +kernel
theorem dX6_pass_69 : decode cX6_pass 69 = .ok (.getfield 32, 3) := by decide +kernel
theorem dX6_pass_72 : decode cX6_pass 72 = .ok (.iaload, 1) := by decide +kernel
theorem dX6_pass_73 : decode cX6_pass 73 = .ok (.invokevirtual 54, 3) := by decide +kernel
theorem dX6_pass_76 : decode cX6_pass 76 = .ok (.iinc 4 1, 3) := by decide +kernel
theorem dX6_pass_79 : decode cX6_pass 79 = .ok (.goto (-35), 3) := by decide +kernel
theorem dX6_pass_82 : decode cX6_pass 82 = .ok (.aload_n 0, 1) := by decide +kernel
theorem dX6_pass_83 : decode cX6_pass 83 = .ok (.getfield 15, 3) := by decide +kernel
theorem dX6_pass_86 : decode cX6_pass 86 = .ok (.arraylength, 1) := by decide +kernel
theorem dX6_pass_87 : decode cX6_pass 87 = .ok (.newarray .int, 2) := by decide +kernel
theorem dX6_pass_89 : decode cX6_pass 89 = .ok (.astore_n 2, 1) := by decide +kernel
theorem dX6_pass_90 : decode cX6_pass 90 = .ok (.iconst 0, 1) := by decide +kernel
theorem dX6_pass_91 : decode cX6_pass 91 = .ok (.istore_n 3, 1) := by decide +kernel
theorem dX6_pass_92 : decode cX6_pass 92 = .ok (.aload_n 0, 1) := by decide +kernel
theorem dX6_pass_93 : decode cX6_pass 93 = .ok (.getfield 24, 3) := by decide +kernel
theorem dX6_pass_96 : decode cX6_pass 96 = .ok (.astore 4, 2) := by decide +kernel
theorem dX6_pass_98 : decode cX6_pass 98 = .ok (.aload 4, 2) := by decide +kernel
theorem dX6_pass_100 : decode cX6_pass 100 = .ok (.arraylength, 1) := by decide +kernel
theorem dX6_pass_101 : decode cX6_pass 101 = .ok (.istore 5, 2) := by decide +kernel
theorem dX6_pass_103 : decode cX6_pass 103 = .ok (.iconst 0, 1) := by decide +kernel
theorem dX6_pass_104 : decode cX6_pass 104 = .ok (.istore 6, 2) := by decide +kernel
theorem dX6_pass_106 : decode cX6_pass 106 = .ok (.iload 6, 2) := by decide +kernel
theorem dX6_pass_108 : decode cX6_pass 108 = .ok (.iload 5, 2) := by decide +kernel
theorem dX6_pass_110 : decode cX6_pass 110 = .ok (.if_icmp .ge 100, 3) := by decide +kernel
theorem dX6_pass_113 : decode cX6_pass 113 = .ok (.aload 4, 2) := by decide +kernel
theorem dX6_pass_115 : decode cX6_pass 115 = .ok (.iload 6, 2) := by decide +kernel
theorem dX6_pass_117 : decode cX6_pass 117 = .ok (.aaload, 1) := by decide +kernel
theorem dX6_pass_118 : decode cX6_pass 118 = .ok (.astore 7, 2) := by decide +kernel
theorem dX6_pass_120 : decode cX6_pass 120 = .ok (.aload 7, 2) := by decide +kernel
theorem dX6_pass_122 : decode cX6_pass 122 = .ok (.getfield 32, 3) := by decide +kernel
theorem dX6_pass_125 : decode cX6_pass 125 = .ok (.ifCond .lt 79, 3) := by decide +kernel
theorem dX6_pass_128 : decode cX6_pass 128 = .ok (.aload 7, 2) := by decide +kernel
theorem dX6_pass_130 : decode cX6_pass 130 = .ok (.getfield 58, 3) := by decide +kernel
theorem dX6_pass_133 : decode cX6_pass 133 = .ok (.iconst 2, 1) := by decide +kernel
theorem dX6_pass_134 : decode cX6_pass 134 = .ok (.if_icmp .lt 70, 3) := by decide +kernel
theorem dX6_pass_137 : decode cX6_pass 137 = .ok (.aload 7, 2) := by decide +kernel
theorem dX6_pass_139 : decode cX6_pass 139 = .ok (.getfield 35, 3) := by decide +kernel
theorem dX6_pass_142 : decode cX6_pass 142 = .ok (.ifCond .ne 6, 3) := by decide +kernel
theorem dX6_pass_145 : decode cX6_pass 145 = .ok (.goto 59, 3) := by decide +kernel
theorem dX6_pass_148 : decode cX6_pass 148 = .ok (.aload 7, 2) := by decide +kernel
