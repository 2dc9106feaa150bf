theorem dX5_pass_32 : decode cX5_pass 32 = .ok (.aload_n 0, 1) := by decide +kernel
theorem dX5_pass_33 : decode cX5_pass 33 = .ok (.invokevirtual 122, 3) := by decide +kernel
theorem dX5_pass_36 : decode cX5_pass 36 = .ok (.iadd, 1) := by decide +kernel
theorem dX5_pass_37 : decode cX5_pass 37 = .ok (.istore_n 2, 1) := by decide +kernel
theorem dX5_pass_38 : decode cX5_pass 38 = .ok (.iinc 3 1, 3) := by decide +kernel
theorem dX5_pass_41 : decode cX5_pass 41 = .ok (.goto (-15), 3) := by decide +kernel
theorem dX5_pass_44 : decode cX5_pass 44 = .ok (.iload_n 2, 1) := by decide +kernel
theorem dX5_pass_45 : decode cX5_pass 45 = .ok (.ireturn, 1) := by decide +kernel
theorem dX5_minute_0 : decode cX5_minute 0 = .ok (.aload_n 0, 1) := by decide +kernel
theorem dX5_minute_1 : decode cX5_minute 1 = .ok (.aload_n 0, 1) := by decide +kernel
theorem dX5_minute_2 : decode cX5_minute 2 = .ok (.getfield 26, 3) := by decide +kernel
theorem dX5_minute_5 : decode cX5_minute 5 = .ok (.iconst 0, 1) := by decide +kernel
theorem dX5_minute_6 : decode cX5_minute 6 = .ok (.iaload, 1) := by decide +kernel
theorem dX5_minute_7 : decode cX5_minute 7 = .ok (.invokevirtual 126, 3) := by decide +kernel
theorem dX5_minute_10 : decode cX5_minute 10 = .ok (.ireturn, 1) := by decide +kernel
theorem dX5_feast_0 : decode cX5_feast 0 = .ok (.aload_n 0, 1) := by decide +kernel
theorem dX5_feast_1 : decode cX5_feast 1 = .ok (.aload_n 0, 1) := by decide +kernel
theorem dX5_feast_2 : decode cX5_feast 2 = .ok (.getfield 7, 3) := by decide +kernel
theorem dX5_feast_5 : decode cX5_feast 5 = .ok (.invokevirtual 126, 3) := by decide +kernel
theorem dX5_feast_8 : decode cX5_feast 8 = .ok (.ireturn, 1) := by decide +kernel
theorem dX5_fires_0 : decode cX5_fires 0 = .ok (.aload_n 0, 1) := by decide +kernel
theorem dX5_fires_1 : decode cX5_fires 1 = .ok (.aload_n 0, 1) := by decide +kernel
theorem dX5_fires_2 : decode cX5_fires 2 = .ok (.getfield 35, 3) := by decide +kernel
theorem dX5_fires_5 : decode cX5_fires 5 = .ok (.invokevirtual 126, 3) := by decide +kernel
theorem dX5_fires_8 : decode cX5_fires 8 = .ok (.ireturn, 1) := by decide +kernel
theorem dX5_fire_0 : decode cX5_fire 0 = .ok (.aload_n 0, 1) := by decide +kernel
theorem dX5_fire_1 : decode cX5_fire 1 = .ok (.iconst 0, 1) := by decide +kernel
theorem dX5_fire_2 : decode cX5_fire 2 = .ok (.putfield 32, 3) := by decide +kernel
theorem dX5_fire_5 : decode cX5_fire 5 = .ok (.aload_n 0, 1) := by decide +kernel
theorem dX5_fire_6 : decode cX5_fire 6 = .ok (.iload_n 1, 1) := by decide +kernel
theorem dX5_fire_7 : decode cX5_fire 7 = .ok (.invokevirtual 106, 3) := by decide +kernel
theorem dX5_fire_10 : decode cX5_fire 10 = .ok (.ifCond .eq 12, 3) := by decide +kernel
theorem dX5_fire_13 : decode cX5_fire 13 = .ok (.aload_n 0, 1) := by decide +kernel
theorem dX5_fire_14 : decode cX5_fire 14 = .ok (.iload_n 1, 1) := by decide +kernel
theorem dX5_fire_15 : decode cX5_fire 15 = .ok (.iload_n 2, 1) := by decide +kernel
theorem dX5_fire_16 : decode cX5_fire 16 = .ok (.invokevirtual 54, 3) := by decide +kernel
theorem dX5_fire_19 : decode cX5_fire 19 = .ok (.goto 8, 3) := by decide +kernel
theorem dX5_fire_22 : decode cX5_fire 22 = .ok (.aload_n 0, 1) := by decide +kernel
theorem dX5_fire_23 : decode cX5_fire 23 = .ok (.iconst 1, 1) := by decide +kernel
theorem dX5_fire_24 : decode cX5_fire 24 = .ok (.invokevirtual 103, 3) := by decide +kernel
theorem dX5_fire_27 : decode cX5_fire 27 = .ok (.ireturn, 1) := by decide +kernel
theorem dX5_logsOf_0 : decode cX5_logsOf 0 = .ok (.aload_n 0, 1) := by decide +kernel
theorem dX5_logsOf_1 : decode cX5_logsOf 1 = .ok (.iload_n 1, 1) := by decide +kernel
theorem dX5_logsOf_2 : decode cX5_logsOf 2 = .ok (.iconst 0, 1) := by decide +kernel
theorem dX5_logsOf_3 : decode cX5_logsOf 3 = .ok (.invokevirtual 129, 3) := by decide +kernel
theorem dX5_logsOf_6 : decode cX5_logsOf 6 = .ok (.ireturn, 1) := by decide +kernel
theorem dX5_heatOf_0 : decode cX5_heatOf 0 = .ok (.aload_n 0, 1) := by decide +kernel
theorem dX5_heatOf_1 : decode cX5_heatOf 1 = .ok (.iload_n 1, 1) := by decide +kernel
theorem dX5_heatOf_2 : decode cX5_heatOf 2 = .ok (.iconst 1, 1) := by decide +kernel
theorem dX5_heatOf_3 : decode cX5_heatOf 3 = .ok (.invokevirtual 129, 3) := by decide +kernel
theorem dX5_heatOf_6 : decode cX5_heatOf 6 = .ok (.ireturn, 1) := by decide +kernel
theorem dX5_spits_0 : decode cX5_spits 0 = .ok (.aload_n 0, 1) := by decide +kernel
theorem dX5_spits_1 : decode cX5_spits 1 = .ok (.aload_n 0, 1) := by decide +kernel
theorem dX5_spits_2 : decode cX5_spits 2 = .ok (.getfield 42, 3) := by decide +kernel
theorem dX5_spits_5 : decode cX5_spits 5 = .ok (.invokevirtual 126, 3) := by decide +kernel
theorem dX5_spits_8 : decode cX5_spits 8 = .ok (.ireturn, 1) := by decide +kernel
theorem dX5_fireOf_0 : decode cX5_fireOf 0 = .ok (.aload_n 0, 1) := by decide +kernel
theorem dX5_fireOf_1 : decode cX5_fireOf 1 = .ok (.iconst 0, 1) := by decide +kernel
theorem dX5_fireOf_2 : decode cX5_fireOf 2 = .ok (.putfield 32, 3) := by decide +kernel
theorem dX5_fireOf_5 : decode cX5_fireOf 5 = .ok (.aload_n 0, 1) := by decide +kernel
theorem dX5_fireOf_6 : decode cX5_fireOf 6 = .ok (.iload_n 1, 1) := by decide +kernel
theorem dX5_fireOf_7 : decode cX5_fireOf 7 = .ok (.invokevirtual 110, 3) := by decide +kernel
theorem dX5_fireOf_10 : decode cX5_fireOf 10 = .ok (.ifCond .eq 12, 3) := by decide +kernel
theorem dX5_fireOf_13 : decode cX5_fireOf 13 = .ok (.aload_n 0, 1) := by decide +kernel
theorem dX5_fireOf_14 : decode cX5_fireOf 14 = .ok (.getfield 13, 3) := by decide +kernel
theorem dX5_fireOf_17 : decode cX5_fireOf 17 = .ok (.iload_n 1, 1) := by decide +kernel
theorem dX5_fireOf_18 : decode cX5_fireOf 18 = .ok (.iaload, 1) := by decide +kernel
theorem dX5_fireOf_19 : decode cX5_fireOf 19 = .ok (.goto 8, 3) := by decide +kernel
theorem dX5_fireOf_22 : decode cX5_fireOf 22 = .ok (.aload_n 0, 1) := by decide +kernel
theorem dX5_fireOf_23 : decode cX5_fireOf 23 = .ok (.iconst 1, 1) := by decide +kernel
theorem dX5_fireOf_24 : decode cX5_fireOf 24 = .ok (.invokevirtual 103, 3) := by decide +kernel
theorem dX5_fireOf_27 : decode cX5_fireOf 27 = .ok (.ireturn, 1) := by decide +kernel
theorem dX5_spit_0 : decode cX5_spit 0 = .ok (.aload_n 0, 1) := by decide +kernel
theorem dX5_spit_1 : decode cX5_spit 1 = .ok (.iconst 0, 1) := by decide +kernel
theorem dX5_spit_2 : decode cX5_spit 2 = .ok (.putfield 32, 3) := by decide +kernel
theorem dX5_spit_5 : decode cX5_spit 5 = .ok (.aload_n 0, 1) := by decide +kernel
theorem dX5_spit_6 : decode cX5_spit 6 = .ok (.iload_n 1, 1) := by decide +kernel
theorem dX5_spit_7 : decode cX5_spit 7 = .ok (.invokevirtual 110, 3) := by decide +kernel
theorem dX5_spit_10 : decode cX5_spit 10 = .ok (.ifCond .eq 12, 3) := by decide +kernel
theorem dX5_spit_13 : decode cX5_spit 13 = .ok (.aload_n 0, 1) := by decide +kernel
theorem dX5_spit_14 : decode cX5_spit 14 = .ok (.iload_n 1, 1) := by decide +kernel
theorem dX5_spit_15 : decode cX5_spit 15 = .ok (.iload_n 2, 1) := by decide +kernel
theorem dX5_spit_16 : decode cX5_spit 16 = .ok (.invokevirtual 58, 3) := by decide +kernel
theorem dX5_spit_19 : decode cX5_spit 19 = .ok (.goto 8, 3) := by decide +kernel
theorem dX5_spit_22 : decode cX5_spit 22 = .ok (.aload_n 0, 1) := by decide +kernel
theorem dX5_spit_23 : decode cX5_spit 23 = .ok (.iconst 1, 1) := by decide +kernel
theorem dX5_spit_24 : decode cX5_spit 24 = .ok (.invokevirtual 103, 3) := by decide +kernel
theorem dX5_spit_27 : decode cX5_spit 27 = .ok (.ireturn, 1) := by decide +kernel
theorem dX5_feetOf_0 : decode cX5_feetOf 0 = .ok (.aload_n 0, 1) := by decide +kernel
theorem dX5_feetOf_1 : decode cX5_feetOf 1 = .ok (.iload_n 1, 1) := by decide +kernel
theorem dX5_feetOf_2 : decode cX5_feetOf 2 = .ok (.iconst 0, 1) := by decide +kernel
theorem dX5_feetOf_3 : decode cX5_feetOf 3 = .ok (.invokevirtual 132, 3) := by decide +kernel
theorem dX5_feetOf_6 : decode cX5_feetOf 6 = .ok (.ireturn, 1) := by decide +kernel
theorem dX5_glowAt_0 : decode cX5_glowAt 0 = .ok (.aload_n 0, 1) := by decide +kernel
theorem dX5_glowAt_1 : decode cX5_glowAt 1 = .ok (.iconst 0, 1) := by decide +kernel
theorem dX5_glowAt_2 : decode cX5_glowAt 2 = .ok (.putfield 32, 3) := by decide +kernel
theorem dX5_glowAt_5 : decode cX5_glowAt 5 = .ok (.aload_n 0, 1) := by decide +kernel
theorem dX5_glowAt_6 : decode cX5_glowAt 6 = .ok (.iload_n 1, 1) := by decide +kernel
theorem dX5_glowAt_7 : decode cX5_glowAt 7 = .ok (.invokevirtual 110, 3) := by decide +kernel
theorem dX5_glowAt_10 : decode cX5_glowAt 10 = .ok (.ifCond .eq 11, 3) := by decide +kernel
theorem dX5_glowAt_13 : decode cX5_glowAt 13 = .ok (.aload_n 0, 1) := by decide +kernel
theorem dX5_glowAt_14 : decode cX5_glowAt 14 = .ok (.iload_n 1, 1) := by decide +kernel
theorem dX5_glowAt_15 : decode cX5_glowAt 15 = .ok (.invokevirtual 77, 3) := by decide +kernel
theorem dX5_glowAt_18 : decode cX5_glowAt 18 = .ok (.goto 8, 3) := by decide +kernel
theorem dX5_glowAt_21 : decode cX5_glowAt 21 = .ok (.aload_n 0, 1) := by decide +kernel
theorem dX5_glowAt_22 : decode cX5_glowAt 22 = .ok (.iconst 1, 1) := by decide +kernel
theorem dX5_glowAt_23 : decode cX5_glowAt 23 = .ok (.invokevirtual 103, 3) := by decide +kernel
theorem dX5_glowAt_26 : decode cX5_glowAt 26 = .ok (.ireturn, 1) := by decide +kernel
theorem dX5_turnedEach_0 : decode cX5_turnedEach 0 = .ok (.aload_n 0, 1) := by decide +kernel
theorem dX5_turnedEach_1 : decode cX5_turnedEach 1 = .ok (.iload_n 1, 1) := by decide +kernel
theorem dX5_turnedEach_2 : decode cX5_turnedEach 2 = .ok (.iconst 4, 1) := by decide +kernel
theorem dX5_turnedEach_3 : decode cX5_turnedEach 3 = .ok (.invokevirtual 132, 3) := by decide +kernel
theorem dX5_turnedEach_6 : decode cX5_turnedEach 6 = .ok (.ireturn, 1) := by decide +kernel
theorem dX5_drippingsOf_0 : decode cX5_drippingsOf 0 = .ok (.aload_n 0, 1) := by decide +kernel
theorem dX5_drippingsOf_1 : decode cX5_drippingsOf 1 = .ok (.iload_n 1, 1) := by decide +kernel
theorem dX5_drippingsOf_2 : decode cX5_drippingsOf 2 = .ok (.iconst 1, 1) := by decide +kernel
theorem dX5_drippingsOf_3 : decode cX5_drippingsOf 3 = .ok (.invokevirtual 132, 3) := by decide +kernel
theorem dX5_drippingsOf_6 : decode cX5_drippingsOf 6 = .ok (.ireturn, 1) := by decide +kernel
theorem dX5_roastOn_0 : decode cX5_roastOn 0 = .ok (.aload_n 0, 1) := by decide +kernel
theorem dX5_roastOn_1 : decode cX5_roastOn 1 = .ok (.iconst 0, 1) := by decide +kernel
theorem dX5_roastOn_2 : decode cX5_roastOn 2 = .ok (.putfield 32, 3) := by decide +kernel
theorem dX5_roastOn_5 : decode cX5_roastOn 5 = .ok (.aload_n 0, 1) := by decide +kernel
theorem dX5_roastOn_6 : decode cX5_roastOn 6 = .ok (.iload_n 1, 1) := by decide +kernel
theorem dX5_roastOn_7 : decode cX5_roastOn 7 = .ok (.invokevirtual 110, 3) := by decide +kernel
theorem dX5_roastOn_10 : decode cX5_roastOn 10 = .ok (.ifCond .eq 14, 3) := by decide +kernel
theorem dX5_roastOn_13 : decode cX5_roastOn 13 = .ok (.aload_n 0, 1) := by decide +kernel
theorem dX5_roastOn_14 : decode cX5_roastOn 14 = .ok (.iload_n 1, 1) := by decide +kernel
theorem dX5_roastOn_15 : decode cX5_roastOn 15 = .ok (.iconst 2, 1) := by decide +kernel
theorem dX5_roastOn_16 : decode cX5_roastOn 16 = .ok (.invokevirtual 58, 3) := by decide +kernel
theorem dX5_roastOn_19 : decode cX5_roastOn 19 = .ok (.iconst 1, 1) := by decide +kernel
theorem dX5_roastOn_20 : decode cX5_roastOn 20 = .ok (.isub, 1) := by decide +kernel
theorem dX5_roastOn_21 : decode cX5_roastOn 21 = .ok (.goto 8, 3) := by decide +kernel
theorem dX5_roastOn_24 : decode cX5_roastOn 24 = .ok (.aload_n 0, 1) := by decide +kernel
theorem dX5_roastOn_25 : decode cX5_roastOn 25 = .ok (.iconst 1, 1) := by decide +kernel
theorem dX5_roastOn_26 : decode cX5_roastOn 26 = .ok (.invokevirtual 103, 3) := by decide +kernel
theorem dX5_roastOn_29 : decode cX5_roastOn 29 = .ok (.ireturn, 1) := by decide +kernel
theorem dX5_roasts_0 : decode cX5_roasts 0 = .ok (.aload_n 0, 1) := by decide +kernel
theorem dX5_roasts_1 : decode cX5_roasts 1 = .ok (.aload_n 0, 1) := by decide +kernel
theorem dX5_roasts_2 : decode cX5_roasts 2 = .ok (.getfield 45, 3) := by decide +kernel
theorem dX5_roasts_5 : decode cX5_roasts 5 = .ok (.invokevirtual 126, 3) := by decide +kernel
theorem dX5_roasts_8 : decode cX5_roasts 8 = .ok (.ireturn, 1) := by decide +kernel
theorem dX5_poundsOf_0 : decode cX5_poundsOf 0 = .ok (.aload_n 0, 1) := by decide +kernel
theorem dX5_poundsOf_1 : decode cX5_poundsOf 1 = .ok (.iconst 0, 1) := by decide +kernel
theorem dX5_poundsOf_2 : decode cX5_poundsOf 2 = .ok (.putfield 32, 3) := by decide +kernel
theorem dX5_poundsOf_5 : decode cX5_poundsOf 5 = .ok (.aload_n 0, 1) := by decide +kernel
theorem dX5_poundsOf_6 : decode cX5_poundsOf 6 = .ok (.iload_n 1, 1) := by decide +kernel
theorem dX5_poundsOf_7 : decode cX5_poundsOf 7 = .ok (.invokevirtual 135, 3) := by decide +kernel
theorem dX5_poundsOf_10 : decode cX5_poundsOf 10 = .ok (.ifCond .eq 12, 3) := by decide +kernel
theorem dX5_poundsOf_13 : decode cX5_poundsOf 13 = .ok (.aload_n 0, 1) := by decide +kernel
theorem dX5_poundsOf_14 : decode cX5_poundsOf 14 = .ok (.getfield 17, 3) := by decide +kernel
theorem dX5_poundsOf_17 : decode cX5_poundsOf 17 = .ok (.iload_n 1, 1) := by decide +kernel
theorem dX5_poundsOf_18 : decode cX5_poundsOf 18 = .ok (.iaload, 1) := by decide +kernel
theorem dX5_poundsOf_19 : decode cX5_poundsOf 19 = .ok (.goto 8, 3) := by decide +kernel
theorem dX5_poundsOf_22 : decode cX5_poundsOf 22 = .ok (.aload_n 0, 1) := by decide +kernel
theorem dX5_poundsOf_23 : decode cX5_poundsOf 23 = .ok (.iconst 1, 1) := by decide +kernel
theorem dX5_poundsOf_24 : decode cX5_poundsOf 24 = .ok (.invokevirtual 103, 3) := by decide +kernel
theorem dX5_poundsOf_27 : decode cX5_poundsOf 27 = .ok (.ireturn, 1) := by decide +kernel
theorem dX5_roast_0 : decode cX5_roast 0 = .ok (.aload_n 0, 1) := by decide +kernel
theorem dX5_roast_1 : decode cX5_roast 1 = .ok (.iconst 0, 1) := by decide +kernel
theorem dX5_roast_2 : decode cX5_roast 2 = .ok (.putfield 32, 3) := by decide +kernel
theorem dX5_roast_5 : decode cX5_roast 5 = .ok (.aload_n 0, 1) := by decide +kernel
theorem dX5_roast_6 : decode cX5_roast 6 = .ok (.iload_n 1, 1) := by decide +kernel
theorem dX5_roast_7 : decode cX5_roast 7 = .ok (.invokevirtual 135, 3) := by decide +kernel
theorem dX5_roast_10 : decode cX5_roast 10 = .ok (.ifCond .eq 12, 3) := by decide +kernel
theorem dX5_roast_13 : decode cX5_roast 13 = .ok (.aload_n 0, 1) := by decide +kernel
theorem dX5_roast_14 : decode cX5_roast 14 = .ok (.iload_n 1, 1) := by decide +kernel
theorem dX5_roast_15 : decode cX5_roast 15 = .ok (.iload_n 2, 1) := by decide +kernel
theorem dX5_roast_16 : decode cX5_roast 16 = .ok (.invokevirtual 61, 3) := by decide +kernel
theorem dX5_roast_19 : decode cX5_roast 19 = .ok (.goto 8, 3) := by decide +kernel
theorem dX5_roast_22 : decode cX5_roast 22 = .ok (.aload_n 0, 1) := by decide +kernel
theorem dX5_roast_23 : decode cX5_roast 23 = .ok (.iconst 1, 1) := by decide +kernel
theorem dX5_roast_24 : decode cX5_roast 24 = .ok (.invokevirtual 103, 3) := by decide +kernel
theorem dX5_roast_27 : decode cX5_roast 27 = .ok (.ireturn, 1) := by decide +kernel
theorem dX5_spitOf_0 : decode cX5_spitOf 0 = .ok (.aload_n 0, 1) := by decide +kernel
theorem dX5_spitOf_1 : decode cX5_spitOf 1 = .ok (.iconst 0, 1) := by decide +kernel
theorem dX5_spitOf_2 : decode cX5_spitOf 2 = .ok (.putfield 32, 3) := by decide +kernel
theorem dX5_spitOf_5 : decode cX5_spitOf 5 = .ok (.aload_n 0, 1) := by decide +kernel
theorem dX5_spitOf_6 : decode cX5_spitOf 6 = .ok (.iload_n 1, 1) := by decide +kernel
theorem dX5_spitOf_7 : decode cX5_spitOf 7 = .ok (.invokevirtual 135, 3) := by decide +kernel
theorem dX5_spitOf_10 : decode cX5_spitOf 10 = .ok (.ifCond .eq 14, 3) := by decide +kernel
theorem dX5_spitOf_13 : decode cX5_spitOf 13 = .ok (.aload_n 0, 1) := by decide +kernel
theorem dX5_spitOf_14 : decode cX5_spitOf 14 = .ok (.iload_n 1, 1) := by decide +kernel
theorem dX5_spitOf_15 : decode cX5_spitOf 15 = .ok (.iconst 0, 1) := by decide +kernel
theorem dX5_spitOf_16 : decode cX5_spitOf 16 = .ok (.invokevirtual 61, 3) := by decide +kernel
theorem dX5_spitOf_19 : decode cX5_spitOf 19 = .ok (.iconst 1, 1) := by decide +kernel
theorem dX5_spitOf_20 : decode cX5_spitOf 20 = .ok (.isub, 1) := by decide +kernel
theorem dX5_spitOf_21 : decode cX5_spitOf 21 = .ok (.goto 8, 3) := by decide +kernel
theorem dX5_spitOf_24 : decode cX5_spitOf 24 = .ok (.aload_n 0, 1) := by decide +kernel
theorem dX5_spitOf_25 : decode cX5_spitOf 25 = .ok (.iconst 1, 1) := by decide +kernel
theorem dX5_spitOf_26 : decode cX5_spitOf 26 = .ok (.invokevirtual 103, 3) := by decide +kernel
theorem dX5_spitOf_29 : decode cX5_spitOf 29 = .ok (.ireturn, 1) := by decide +kernel
theorem dX5_sideToFire_0 : decode cX5_sideToFire 0 = .ok (.aload_n 0, 1) := by decide +kernel
theorem dX5_sideToFire_1 : decode cX5_sideToFire 1 = .ok (.iload_n 1, 1) := by decide +kernel
theorem dX5_sideToFire_2 : decode cX5_sideToFire 2 = .ok (.iconst 1, 1) := by decide +kernel
theorem dX5_sideToFire_3 : decode cX5_sideToFire 3 = .ok (.invokevirtual 138, 3) := by decide +kernel
theorem dX5_sideToFire_6 : decode cX5_sideToFire 6 = .ok (.ireturn, 1) := by decide +kernel
theorem dX5_brownOf_0 : decode cX5_brownOf 0 = .ok (.aload_n 0, 1) := by decide +kernel
theorem dX5_brownOf_1 : decode cX5_brownOf 1 = .ok (.iconst 0, 1) := by decide +kernel
theorem dX5_brownOf_2 : decode cX5_brownOf 2 = .ok (.putfield 32, 3) := by decide +kernel
theorem dX5_brownOf_5 : decode cX5_brownOf 5 = .ok (.aload_n 0, 1) := by decide +kernel
theorem dX5_brownOf_6 : decode cX5_brownOf 6 = .ok (.iload_n 1, 1) := by decide +kernel
theorem dX5_brownOf_7 : decode cX5_brownOf 7 = .ok (.invokevirtual 135, 3) := by decide +kernel
theorem dX5_brownOf_10 : decode cX5_brownOf 10 = .ok (.ifCond .eq 23, 3) := by decide +kernel
theorem dX5_brownOf_13 : decode cX5_brownOf 13 = .ok (.iload_n 2, 1) := by decide +kernel
theorem dX5_brownOf_14 : decode cX5_brownOf 14 = .ok (.iconst 0, 1) := by decide +kernel
theorem dX5_brownOf_15 : decode cX5_brownOf 15 = .ok (.iconst 3, 1) := by decide +kernel
theorem dX5_brownOf_16 : decode cX5_brownOf 16 = .ok (.invokestatic 38, 3) := by decide +kernel
theorem dX5_brownOf_19 : decode cX5_brownOf 19 = .ok (.ifCond .eq 14, 3) := by decide +kernel
theorem dX5_brownOf_22 : decode cX5_brownOf 22 = .ok (.aload_n 0, 1) := by decide +kernel
theorem dX5_brownOf_23 : decode cX5_brownOf 23 = .ok (.iload_n 1, 1) := by decide +kernel
theorem dX5_brownOf_24 : decode cX5_brownOf 24 = .ok (.iconst 4, 1) := by decide +kernel
theorem dX5_brownOf_25 : decode cX5_brownOf 25 = .ok (.iload_n 2, 1) := by decide +kernel
theorem dX5_brownOf_26 : decode cX5_brownOf 26 = .ok (.iadd, 1) := by decide +kernel
theorem dX5_brownOf_27 : decode cX5_brownOf 27 = .ok (.invokevirtual 61, 3) := by decide +kernel
theorem dX5_brownOf_30 : decode cX5_brownOf 30 = .ok (.goto 8, 3) := by decide +kernel
theorem dX5_brownOf_33 : decode cX5_brownOf 33 = .ok (.aload_n 0, 1) := by decide +kernel
theorem dX5_brownOf_34 : decode cX5_brownOf 34 = .ok (.iconst 1, 1) := by decide +kernel
theorem dX5_brownOf_35 : decode cX5_brownOf 35 = .ok (.invokevirtual 103, 3) := by decide +kernel
theorem dX5_brownOf_38 : decode cX5_brownOf 38 = .ok (.ireturn, 1) := by decide +kernel
theorem dX5_fatOf_0 : decode cX5_fatOf 0 = .ok (.aload_n 0, 1) := by decide +kernel
theorem dX5_fatOf_1 : decode cX5_fatOf 1 = .ok (.iload_n 1, 1) := by decide +kernel
theorem dX5_fatOf_2 : decode cX5_fatOf 2 = .ok (.iconst 2, 1) := by decide +kernel
theorem dX5_fatOf_3 : decode cX5_fatOf 3 = .ok (.invokevirtual 138, 3) := by decide +kernel
theorem dX5_fatOf_6 : decode cX5_fatOf 6 = .ok (.ireturn, 1) := by decide +kernel
theorem dX5_wetFor_0 : decode cX5_wetFor 0 = .ok (.aload_n 0, 1) := by decide +kernel
theorem dX5_wetFor_1 : decode cX5_wetFor 1 = .ok (.iload_n 1, 1) := by decide +kernel
theorem dX5_wetFor_2 : decode cX5_wetFor 2 = .ok (.iconst 3, 1) := by decide +kernel
theorem dX5_wetFor_3 : decode cX5_wetFor 3 = .ok (.invokevirtual 138, 3) := by decide +kernel
theorem dX5_wetFor_6 : decode cX5_wetFor 6 = .ok (.ireturn, 1) := by decide +kernel
theorem dX5_isDone_0 : decode cX5_isDone 0 = .ok (.aload_n 0, 1) := by decide +kernel
theorem dX5_isDone_1 : decode cX5_isDone 1 = .ok (.aload_n 0, 1) := by decide +kernel
theorem dX5_isDone_2 : decode cX5_isDone 2 = .ok (.iload_n 1, 1) := by decide +kernel
theorem dX5_isDone_3 : decode cX5_isDone 3 = .ok (.invokevirtual 135, 3) := by decide +kernel
theorem dX5_isDone_6 : decode cX5_isDone 6 = .ok (.ifCond .eq 7, 3) := by decide +kernel
theorem dX5_isDone_9 : decode cX5_isDone 9 = .ok (.iconst 0, 1) := by decide +kernel
theorem dX5_isDone_10 : decode cX5_isDone 10 = .ok (.goto 4, 3) := by decide +kernel
theorem dX5_isDone_13 : decode cX5_isDone 13 = .ok (.iconst 1, 1) := by decide +kernel
theorem dX5_isDone_14 : decode cX5_isDone 14 = .ok (.putfield 32, 3) := by decide +kernel
theorem dX5_isDone_17 : decode cX5_isDone 17 = .ok (.aload_n 0, 1) := by decide +kernel
theorem dX5_isDone_18 : decode cX5_isDone 18 = .ok (.getfield 32, 3) := by decide +kernel
theorem dX5_isDone_21 : decode cX5_isDone 21 = .ok (.ifCond .ne 15, 3) := by decide +kernel
theorem dX5_isDone_24 : decode cX5_isDone 24 = .ok (.aload_n 0, 1) := by decide +kernel
theorem dX5_isDone_25 : decode cX5_isDone 25 = .ok (.iload_n 1, 1) := by decide +kernel
theorem dX5_isDone_26 : decode cX5_isDone 26 = .ok (.invokevirtual 141, 3) := by decide +kernel
theorem dX5_isDone_29 : decode cX5_isDone 29 = .ok (.ifCond .eq 7, 3) := by decide +kernel
theorem dX5_isDone_32 : decode cX5_isDone 32 = .ok (.iconst 1, 1) := by decide +kernel
theorem dX5_isDone_33 : decode cX5_isDone 33 = .ok (.goto 4, 3) := by decide +kernel
theorem dX5_isDone_36 : decode cX5_isDone 36 = .ok (.iconst 0, 1) := by decide +kernel
theorem dX5_isDone_37 : decode cX5_isDone 37 = .ok (.ireturn, 1) := by decide +kernel
theorem dX5_isBurnt_0 : decode cX5_isBurnt 0 = .ok (.aload_n 0, 1) := by decide +kernel
theorem dX5_isBurnt_1 : decode cX5_isBurnt 1 = .ok (.aload_n 0, 1) := by decide +kernel
theorem dX5_isBurnt_2 : decode cX5_isBurnt 2 = .ok (.iload_n 1, 1) := by decide +kernel
theorem dX5_isBurnt_3 : decode cX5_isBurnt 3 = .ok (.invokevirtual 135, 3) := by decide +kernel
theorem dX5_isBurnt_6 : decode cX5_isBurnt 6 = .ok (.ifCond .eq 7, 3) := by decide +kernel
theorem dX5_isBurnt_9 : decode cX5_isBurnt 9 = .ok (.iconst 0, 1) := by decide +kernel
theorem dX5_isBurnt_10 : decode cX5_isBurnt 10 = .ok (.goto 4, 3) := by decide +kernel
theorem dX5_isBurnt_13 : decode cX5_isBurnt 13 = .ok (.iconst 1, 1) := by decide +kernel
theorem dX5_isBurnt_14 : decode cX5_isBurnt 14 = .ok (.putfield 32, 3) := by decide +kernel
theorem dX5_isBurnt_17 : decode cX5_isBurnt 17 = .ok (.aload_n 0, 1) := by decide +kernel
theorem dX5_isBurnt_18 : decode cX5_isBurnt 18 = .ok (.getfield 32, 3) := by decide +kernel
theorem dX5_isBurnt_21 : decode cX5_isBurnt 21 = .ok (.ifCond .ne 15, 3) := by decide +kernel
theorem dX5_isBurnt_24 : decode cX5_isBurnt 24 = .ok (.aload_n 0, 1) := by decide +kernel
theorem dX5_isBurnt_25 : decode cX5_isBurnt 25 = .ok (.iload_n 1, 1) := by decide +kernel
theorem dX5_isBurnt_26 : decode cX5_isBurnt 26 = .ok (.invokevirtual 144, 3) := by decide +kernel
theorem dX5_isBurnt_29 : decode cX5_isBurnt 29 = .ok (.ifCond .eq 7, 3) := by decide +kernel
theorem dX5_isBurnt_32 : decode cX5_isBurnt 32 = .ok (.iconst 1, 1) := by decide +kernel
theorem dX5_isBurnt_33 : decode cX5_isBurnt 33 = .ok (.goto 4, 3) := by decide +kernel
theorem dX5_isBurnt_36 : decode cX5_isBurnt 36 = .ok (.iconst 0, 1) := by decide +kernel
theorem dX5_isBurnt_37 : decode cX5_isBurnt 37 = .ok (.ireturn, 1) := by decide +kernel
theorem dX5_until_0 : decode cX5_until 0 = .ok (.iconst 0, 1) := by decide +kernel
theorem dX5_until_1 : decode cX5_until 1 = .ok (.istore_n 3, 1) := by decide +kernel
theorem dX5_until_2 : decode cX5_until 2 = .ok (.iload_n 3, 1) := by decide +kernel
theorem dX5_until_3 : decode cX5_until 3 = .ok (.sipush 200, 3) := by decide +kernel
theorem dX5_until_6 : decode cX5_until 6 = .ok (.if_icmp .gt 37, 3) := by decide +kernel
theorem dX5_until_9 : decode cX5_until 9 = .ok (.iload_n 2, 1) := by decide +kernel
theorem dX5_until_10 : decode cX5_until 10 = .ok (.ifCond .eq 14, 3) := by decide +kernel
theorem dX5_until_13 : decode cX5_until 13 = .ok (.aload_n 0, 1) := by decide +kernel
theorem dX5_until_14 : decode cX5_until 14 = .ok (.iload_n 1, 1) := by decide +kernel
theorem dX5_until_15 : decode cX5_until 15 = .ok (.invokevirtual 144, 3) := by decide +kernel
theorem dX5_until_18 : decode cX5_until 18 = .ok (.ifCond .eq 14, 3) := by decide +kernel
theorem dX5_until_21 : decode cX5_until 21 = .ok (.goto 22, 3) := by decide +kernel
theorem dX5_until_24 : decode cX5_until 24 = .ok (.aload_n 0, 1) := by decide +kernel
theorem dX5_until_25 : decode cX5_until 25 = .ok (.iload_n 1, 1) := by decide +kernel
theorem dX5_until_26 : decode cX5_until 26 = .ok (.invokevirtual 141, 3) := by decide +kernel
theorem dX5_until_29 : decode cX5_until 29 = .ok (.ifCond .ne 14, 3) := by decide +kernel
theorem dX5_until_32 : decode cX5_until 32 = .ok (.aload_n 0, 1) := by decide +kernel
theorem dX5_until_33 : decode cX5_until 33 = .ok (.invokevirtual 122, 3) := by decide +kernel
theorem dX5_until_36 : decode cX5_until 36 = .ok (.pop, 1) := by decide +kernel
theorem dX5_until_37 : decode cX5_until 37 = .ok (.iinc 3 1, 3) := by decide +kernel
theorem dX5_until_40 : decode cX5_until 40 = .ok (.goto (-38), 3) := by decide +kernel
theorem dX5_until_43 : decode cX5_until 43 = .ok (.aload_n 0, 1) := by decide +kernel
theorem dX5_until_44 : decode cX5_until 44 = .ok (.invokevirtual 147, 3) := by decide +kernel
theorem dX5_until_47 : decode cX5_until 47 = .ok (.iload_n 3, 1) := by decide +kernel
theorem dX5_until_48 : decode cX5_until 48 = .ok (.sipush 200, 3) := by decide +kernel
theorem dX5_until_51 : decode cX5_until 51 = .ok (.if_icmp .le 7, 3) := by decide +kernel
theorem dX5_until_54 : decode cX5_until 54 = .ok (.iconst (-1), 1) := by decide +kernel
theorem dX5_until_55 : decode cX5_until 55 = .ok (.goto 4, 3) := by decide +kernel
theorem dX5_until_58 : decode cX5_until 58 = .ok (.iload_n 3, 1) := by decide +kernel
theorem dX5_until_59 : decode cX5_until 59 = .ok (.ireturn, 1) := by decide +kernel
theorem dX5_minutesUntilDone_0 : decode cX5_minutesUntilDone 0 = .ok (.aload_n 0, 1) := by decide +kernel
theorem dX5_minutesUntilDone_1 : decode cX5_minutesUntilDone 1 = .ok (.iconst 0, 1) := by decide +kernel
theorem dX5_minutesUntilDone_2 : decode cX5_minutesUntilDone 2 = .ok (.putfield 32, 3) := by decide +kernel
theorem dX5_minutesUntilDone_5 : decode cX5_minutesUntilDone 5 = .ok (.aload_n 0, 1) := by decide +kernel
theorem dX5_minutesUntilDone_6 : decode cX5_minutesUntilDone 6 = .ok (.iload_n 1, 1) := by decide +kernel
theorem dX5_minutesUntilDone_7 : decode cX5_minutesUntilDone 7 = .ok (.invokevirtual 135, 3) := by decide +kernel
theorem dX5_minutesUntilDone_10 : decode cX5_minutesUntilDone 10 = .ok (.ifCond .ne 9, 3) := by decide +kernel
theorem dX5_minutesUntilDone_13 : decode cX5_minutesUntilDone 13 = .ok (.aload_n 0, 1) := by decide +kernel
theorem dX5_minutesUntilDone_14 : decode cX5_minutesUntilDone 14 = .ok (.iconst 1, 1) := by decide +kernel
theorem dX5_minutesUntilDone_15 : decode cX5_minutesUntilDone 15 = .ok (.invokevirtual 103, 3) := by decide +kernel
theorem dX5_minutesUntilDone_18 : decode cX5_minutesUntilDone 18 = .ok (.ireturn, 1) := by decide +kernel
theorem dX5_minutesUntilDone_19 : decode cX5_minutesUntilDone 19 = .ok (.aload_n 0, 1) := by decide +kernel
theorem dX5_minutesUntilDone_20 : decode cX5_minutesUntilDone 20 = .ok (.invokevirtual 150, 3) := by decide +kernel
theorem dX5_minutesUntilDone_23 : decode cX5_minutesUntilDone 23 = .ok (.aload_n 0, 1) := by decide +kernel
theorem dX5_minutesUntilDone_24 : decode cX5_minutesUntilDone 24 = .ok (.iload_n 1, 1) := by decide +kernel
theorem dX5_minutesUntilDone_25 : decode cX5_minutesUntilDone 25 = .ok (.iconst 0, 1) := by decide +kernel
theorem dX5_minutesUntilDone_26 : decode cX5_minutesUntilDone 26 = .ok (.invokevirtual 153, 3) := by decide +kernel
theorem dX5_minutesUntilDone_29 : decode cX5_minutesUntilDone 29 = .ok (.ireturn, 1) := by decide +kernel
theorem dX5_minutesUntilBurnt_0 : decode cX5_minutesUntilBurnt 0 = .ok (.aload_n 0, 1) := by decide +kernel
theorem dX5_minutesUntilBurnt_1 : decode cX5_minutesUntilBurnt 1 = .ok (.iconst 0, 1) := by decide +kernel
theorem dX5_minutesUntilBurnt_2 : decode cX5_minutesUntilBurnt 2 = .ok (.putfield 32, 3) := by decide +kernel
theorem dX5_minutesUntilBurnt_5 : decode cX5_minutesUntilBurnt 5 = .ok (.aload_n 0, 1) := by decide +kernel
theorem dX5_minutesUntilBurnt_6 : decode cX5_minutesUntilBurnt 6 = .ok (.iload_n 1, 1) := by decide +kernel
theorem dX5_minutesUntilBurnt_7 : decode cX5_minutesUntilBurnt 7 = .ok (.invokevirtual 135, 3) := by decide +kernel
theorem dX5_minutesUntilBurnt_10 : decode cX5_minutesUntilBurnt 10 = .ok (.ifCond .ne 9, 3) := by decide +kernel
theorem dX5_minutesUntilBurnt_13 : decode cX5_minutesUntilBurnt 13 = .ok (.aload_n 0, 1) := by decide +kernel
theorem dX5_minutesUntilBurnt_14 : decode cX5_minutesUntilBurnt 14 = .ok (.iconst 1, 1) := by decide +kernel
theorem dX5_minutesUntilBurnt_15 : decode cX5_minutesUntilBurnt 15 = .ok (.invokevirtual 103, 3) := by decide +kernel
theorem dX5_minutesUntilBurnt_18 : decode cX5_minutesUntilBurnt 18 = .ok (.ireturn, 1) := by decide +kernel
theorem dX5_minutesUntilBurnt_19 : decode cX5_minutesUntilBurnt 19 = .ok (.aload_n 0, 1) := by decide +kernel
theorem dX5_minutesUntilBurnt_20 : decode cX5_minutesUntilBurnt 20 = .ok (.invokevirtual 150, 3) := by decide +kernel
theorem dX5_minutesUntilBurnt_23 : decode cX5_minutesUntilBurnt 23 = .ok (.aload_n 0, 1) := by decide +kernel
theorem dX5_minutesUntilBurnt_24 : decode cX5_minutesUntilBurnt 24 = .ok (.iload_n 1, 1) := by decide +kernel
theorem dX5_minutesUntilBurnt_25 : decode cX5_minutesUntilBurnt 25 = .ok (.iconst 1, 1) := by decide +kernel
theorem dX5_minutesUntilBurnt_26 : decode cX5_minutesUntilBurnt 26 = .ok (.invokevirtual 153, 3) := by decide +kernel
theorem dX5_minutesUntilBurnt_29 : decode cX5_minutesUntilBurnt 29 = .ok (.ireturn, 1) := by decide +kernel
theorem dX5_doneAtFeast_0 : decode cX5_doneAtFeast 0 = .ok (.aload_n 0, 1) := by decide +kernel
theorem dX5_doneAtFeast_1 : decode cX5_doneAtFeast 1 = .ok (.iconst 0, 1) := by decide +kernel
theorem dX5_doneAtFeast_2 : decode cX5_doneAtFeast 2 = .ok (.putfield 32, 3) := by decide +kernel
theorem dX5_doneAtFeast_5 : decode cX5_doneAtFeast 5 = .ok (.aload_n 0, 1) := by decide +kernel
theorem dX5_doneAtFeast_6 : decode cX5_doneAtFeast 6 = .ok (.getfield 7, 3) := by decide +kernel
theorem dX5_doneAtFeast_9 : decode cX5_doneAtFeast 9 = .ok (.aload_n 0, 1) := by decide +kernel
theorem dX5_doneAtFeast_10 : decode cX5_doneAtFeast 10 = .ok (.getfield 26, 3) := by decide +kernel
theorem dX5_doneAtFeast_13 : decode cX5_doneAtFeast 13 = .ok (.iconst 0, 1) := by decide +kernel
theorem dX5_doneAtFeast_14 : decode cX5_doneAtFeast 14 = .ok (.iaload, 1) := by decide +kernel
theorem dX5_doneAtFeast_15 : decode cX5_doneAtFeast 15 = .ok (.isub, 1) := by decide +kernel
theorem dX5_doneAtFeast_16 : decode cX5_doneAtFeast 16 = .ok (.iconst 0, 1) := by decide +kernel
theorem dX5_doneAtFeast_17 : decode cX5_doneAtFeast 17 = .ok (.sipush 200, 3) := by decide +kernel
theorem dX5_doneAtFeast_20 : decode cX5_doneAtFeast 20 = .ok (.invokestatic 38, 3) := by decide +kernel
theorem dX5_doneAtFeast_23 : decode cX5_doneAtFeast 23 = .ok (.ifCond .ne 5, 3) := by decide +kernel
theorem dX5_doneAtFeast_26 : decode cX5_doneAtFeast 26 = .ok (.iconst (-1), 1) := by decide +kernel
theorem dX5_doneAtFeast_27 : decode cX5_doneAtFeast 27 = .ok (.ireturn, 1) := by decide +kernel
theorem dX5_doneAtFeast_28 : decode cX5_doneAtFeast 28 = .ok (.aload_n 0, 1) := by decide +kernel
theorem dX5_doneAtFeast_29 : decode cX5_doneAtFeast 29 = .ok (.invokevirtual 150, 3) := by decide +kernel
theorem dX5_doneAtFeast_32 : decode cX5_doneAtFeast 32 = .ok (.aload_n 0, 1) := by decide +kernel
theorem dX5_doneAtFeast_33 : decode cX5_doneAtFeast 33 = .ok (.getfield 26, 3) := by decide +kernel
theorem dX5_doneAtFeast_36 : decode cX5_doneAtFeast 36 = .ok (.iconst 0, 1) := by decide +kernel
theorem dX5_doneAtFeast_37 : decode cX5_doneAtFeast 37 = .ok (.iaload, 1) := by decide +kernel
theorem dX5_doneAtFeast_38 : decode cX5_doneAtFeast 38 = .ok (.aload_n 0, 1) := by decide +kernel
theorem dX5_doneAtFeast_39 : decode cX5_doneAtFeast 39 = .ok (.getfield 7, 3) := by decide +kernel
theorem dX5_doneAtFeast_42 : decode cX5_doneAtFeast 42 = .ok (.if_icmp .ge 11, 3) := by decide +kernel
theorem dX5_doneAtFeast_45 : decode cX5_doneAtFeast 45 = .ok (.aload_n 0, 1) := by decide +kernel
theorem dX5_doneAtFeast_46 : decode cX5_doneAtFeast 46 = .ok (.invokevirtual 122, 3) := by decide +kernel
theorem dX5_doneAtFeast_49 : decode cX5_doneAtFeast 49 = .ok (.pop, 1) := by decide +kernel
theorem dX5_doneAtFeast_50 : decode cX5_doneAtFeast 50 = .ok (.goto (-18), 3) := by decide +kernel
theorem dX5_doneAtFeast_53 : decode cX5_doneAtFeast 53 = .ok (.iconst 0, 1) := by decide +kernel
theorem dX5_doneAtFeast_54 : decode cX5_doneAtFeast 54 = .ok (.istore_n 1, 1) := by decide +kernel
theorem dX5_doneAtFeast_55 : decode cX5_doneAtFeast 55 = .ok (.iconst 0, 1) := by decide +kernel
theorem dX5_doneAtFeast_56 : decode cX5_doneAtFeast 56 = .ok (.istore_n 2, 1) := by decide +kernel
theorem dX5_doneAtFeast_57 : decode cX5_doneAtFeast 57 = .ok (.iload_n 2, 1) := by decide +kernel
theorem dX5_doneAtFeast_58 : decode cX5_doneAtFeast 58 = .ok (.aload_n 0, 1) := by decide +kernel
theorem dX5_doneAtFeast_59 : decode cX5_doneAtFeast 59 = .ok (.getfield 45, 3) := by decide +kernel
theorem dX5_doneAtFeast_62 : decode cX5_doneAtFeast 62 = .ok (.if_icmp .ge 25, 3) := by decide +kernel
theorem dX5_doneAtFeast_65 : decode cX5_doneAtFeast 65 = .ok (.iload_n 1, 1) := by decide +kernel
theorem dX5_doneAtFeast_66 : decode cX5_doneAtFeast 66 = .ok (.aload_n 0, 1) := by decide +kernel
theorem dX5_doneAtFeast_67 : decode cX5_doneAtFeast 67 = .ok (.iload_n 2, 1) := by decide +kernel
theorem dX5_doneAtFeast_68 : decode cX5_doneAtFeast 68 = .ok (.invokevirtual 141, 3) := by decide +kernel
theorem dX5_doneAtFeast_71 : decode cX5_doneAtFeast 71 = .ok (.ifCond .eq 7, 3) := by decide +kernel
theorem dX5_doneAtFeast_74 : decode cX5_doneAtFeast 74 = .ok (.iconst 1, 1) := by decide +kernel
theorem dX5_doneAtFeast_75 : decode cX5_doneAtFeast 75 = .ok (.goto 4, 3) := by decide +kernel
theorem dX5_doneAtFeast_78 : decode cX5_doneAtFeast 78 = .ok (.iconst 0, 1) := by decide +kernel
theorem dX5_doneAtFeast_79 : decode cX5_doneAtFeast 79 = .ok (.iadd, 1) := by decide +kernel
theorem dX5_doneAtFeast_80 : decode cX5_doneAtFeast 80 = .ok (.istore_n 1, 1) := by decide +kernel
theorem dX5_doneAtFeast_81 : decode cX5_doneAtFeast 81 = .ok (.iinc 2 1, 3) := by decide +kernel
theorem dX5_doneAtFeast_84 : decode cX5_doneAtFeast 84 = .ok (.goto (-27), 3) := by decide +kernel
theorem dX5_doneAtFeast_87 : decode cX5_doneAtFeast 87 = .ok (.aload_n 0, 1) := by decide +kernel
theorem dX5_doneAtFeast_88 : decode cX5_doneAtFeast 88 = .ok (.invokevirtual 147, 3) := by decide +kernel
theorem dX5_doneAtFeast_91 : decode cX5_doneAtFeast 91 = .ok (.iload_n 1, 1) := by decide +kernel
theorem dX5_doneAtFeast_92 : decode cX5_doneAtFeast 92 = .ok (.ireturn, 1) := by decide +kernel
theorem dX5_bestEach_0 : decode cX5_bestEach 0 = .ok (.aload_n 0, 1) := by decide +kernel
theorem dX5_bestEach_1 : decode cX5_bestEach 1 = .ok (.iconst 0, 1) := by decide +kernel
theorem dX5_bestEach_2 : decode cX5_bestEach 2 = .ok (.putfield 32, 3) := by decide +kernel
theorem dX5_bestEach_5 : decode cX5_bestEach 5 = .ok (.aload_n 0, 1) := by decide +kernel
theorem dX5_bestEach_6 : decode cX5_bestEach 6 = .ok (.iload_n 1, 1) := by decide +kernel
theorem dX5_bestEach_7 : decode cX5_bestEach 7 = .ok (.invokevirtual 110, 3) := by decide +kernel
theorem dX5_bestEach_10 : decode cX5_bestEach 10 = .ok (.ifCond .ne 9, 3) := by decide +kernel
theorem dX5_bestEach_13 : decode cX5_bestEach 13 = .ok (.aload_n 0, 1) := by decide +kernel
theorem dX5_bestEach_14 : decode cX5_bestEach 14 = .ok (.iconst 1, 1) := by decide +kernel
theorem dX5_bestEach_15 : decode cX5_bestEach 15 = .ok (.invokevirtual 103, 3) := by decide +kernel
theorem dX5_bestEach_18 : decode cX5_bestEach 18 = .ok (.ireturn, 1) := by decide +kernel
theorem dX5_bestEach_19 : decode cX5_bestEach 19 = .ok (.aload_n 0, 1) := by decide +kernel
theorem dX5_bestEach_20 : decode cX5_bestEach 20 = .ok (.iload_n 1, 1) := by decide +kernel
theorem dX5_bestEach_21 : decode cX5_bestEach 21 = .ok (.iconst 2, 1) := by decide +kernel
theorem dX5_bestEach_22 : decode cX5_bestEach 22 = .ok (.invokevirtual 58, 3) := by decide +kernel
theorem dX5_bestEach_25 : decode cX5_bestEach 25 = .ok (.ifCond .ne 5, 3) := by decide +kernel
theorem dX5_bestEach_28 : decode cX5_bestEach 28 = .ok (.iconst (-1), 1) := by decide +kernel
theorem dX5_bestEach_29 : decode cX5_bestEach 29 = .ok (.ireturn, 1) := by decide +kernel
theorem dX5_bestEach_30 : decode cX5_bestEach 30 = .ok (.iconst (-1), 1) := by decide +kernel
theorem dX5_bestEach_31 : decode cX5_bestEach 31 = .ok (.istore_n 2, 1) := by decide +kernel
theorem dX5_bestEach_32 : decode cX5_bestEach 32 = .ok (.sipush 201, 3) := by decide +kernel
theorem dX5_bestEach_35 : decode cX5_bestEach 35 = .ok (.istore_n 3, 1) := by decide +kernel
theorem dX5_bestEach_36 : decode cX5_bestEach 36 = .ok (.aload_n 0, 1) := by decide +kernel
theorem dX5_bestEach_37 : decode cX5_bestEach 37 = .ok (.invokevirtual 150, 3) := by decide +kernel
theorem dX5_bestEach_40 : decode cX5_bestEach 40 = .ok (.iconst 1, 1) := by decide +kernel
theorem dX5_bestEach_41 : decode cX5_bestEach 41 = .ok (.istore 4, 2) := by decide +kernel
theorem dX5_bestEach_43 : decode cX5_bestEach 43 = .ok (.iload 4, 2) := by decide +kernel
theorem dX5_bestEach_45 : decode cX5_bestEach 45 = .ok (.bipush 9, 2) := by decide +kernel
theorem dX5_bestEach_47 : decode cX5_bestEach 47 = .ok (.if_icmp .gt 52, 3) := by decide +kernel
theorem dX5_bestEach_50 : decode cX5_bestEach 50 = .ok (.aload_n 0, 1) := by decide +kernel
theorem dX5_bestEach_51 : decode cX5_bestEach 51 = .ok (.iload_n 1, 1) := by decide +kernel
theorem dX5_bestEach_52 : decode cX5_bestEach 52 = .ok (.iload 4, 2) := by decide +kernel
theorem dX5_bestEach_54 : decode cX5_bestEach 54 = .ok (.invokevirtual 113, 3) := by decide +kernel
theorem dX5_bestEach_57 : decode cX5_bestEach 57 = .ok (.aload_n 0, 1) := by decide +kernel
theorem dX5_bestEach_58 : decode cX5_bestEach 58 = .ok (.aload_n 0, 1) := by decide +kernel
theorem dX5_bestEach_59 : decode cX5_bestEach 59 = .ok (.iload_n 1, 1) := by decide +kernel
theorem dX5_bestEach_60 : decode cX5_bestEach 60 = .ok (.iconst 2, 1) := by decide +kernel
theorem dX5_bestEach_61 : decode cX5_bestEach 61 = .ok (.invokevirtual 58, 3) := by decide +kernel
theorem dX5_bestEach_64 : decode cX5_bestEach 64 = .ok (.iconst 1, 1) := by decide +kernel
theorem dX5_bestEach_65 : decode cX5_bestEach 65 = .ok (.isub, 1) := by decide +kernel
theorem dX5_bestEach_66 : decode cX5_bestEach 66 = .ok (.iconst 0, 1) := by decide +kernel
theorem dX5_bestEach_67 : decode cX5_bestEach 67 = .ok (.invokevirtual 153, 3) := by decide +kernel
theorem dX5_bestEach_70 : decode cX5_bestEach 70 = .ok (.istore 5, 2) := by decide +kernel
theorem dX5_bestEach_72 : decode cX5_bestEach 72 = .ok (.iload 5, 2) := by decide +kernel
theorem dX5_bestEach_74 : decode cX5_bestEach 74 = .ok (.iconst (-1), 1) := by decide +kernel
theorem dX5_bestEach_75 : decode cX5_bestEach 75 = .ok (.if_icmp .eq 18, 3) := by decide +kernel
theorem dX5_bestEach_78 : decode cX5_bestEach 78 = .ok (.iload 5, 2) := by decide +kernel
theorem dX5_bestEach_80 : decode cX5_bestEach 80 = .ok (.iload_n 3, 1) := by decide +kernel
theorem dX5_bestEach_81 : decode cX5_bestEach 81 = .ok (.if_icmp .lt 6, 3) := by decide +kernel
theorem dX5_bestEach_84 : decode cX5_bestEach 84 = .ok (.goto 9, 3) := by decide +kernel
theorem dX5_bestEach_87 : decode cX5_bestEach 87 = .ok (.iload 4, 2) := by decide +kernel
theorem dX5_bestEach_89 : decode cX5_bestEach 89 = .ok (.istore_n 2, 1) := by decide +kernel
theorem dX5_bestEach_90 : decode cX5_bestEach 90 = .ok (.iload 5, 2) := by decide +kernel
theorem dX5_bestEach_92 : decode cX5_bestEach 92 = .ok (.istore_n 3, 1) := by decide +kernel
theorem dX5_bestEach_93 : decode cX5_bestEach 93 = .ok (.iinc 4 1, 3) := by decide +kernel
theorem dX5_bestEach_96 : decode cX5_bestEach 96 = .ok (.goto (-53), 3) := by decide +kernel
theorem dX5_bestEach_99 : decode cX5_bestEach 99 = .ok (.iload_n 2, 1) := by decide +kernel
theorem dX5_bestEach_100 : decode cX5_bestEach 100 = .ok (.ireturn, 1) := by decide +kernel
theorem dX5_bestSpit_0 : decode cX5_bestSpit 0 = .ok (.aload_n 0, 1) := by decide +kernel
theorem dX5_bestSpit_1 : decode cX5_bestSpit 1 = .ok (.iconst 0, 1) := by decide +kernel
theorem dX5_bestSpit_2 : decode cX5_bestSpit 2 = .ok (.putfield 32, 3) := by decide +kernel
theorem dX5_bestSpit_5 : decode cX5_bestSpit 5 = .ok (.iload_n 1, 1) := by decide +kernel
theorem dX5_bestSpit_6 : decode cX5_bestSpit 6 = .ok (.iconst 1, 1) := by decide +kernel
theorem dX5_bestSpit_7 : decode cX5_bestSpit 7 = .ok (.bipush 12, 2) := by decide +kernel
theorem dX5_bestSpit_9 : decode cX5_bestSpit 9 = .ok (.invokestatic 38, 3) := by decide +kernel
theorem dX5_bestSpit_12 : decode cX5_bestSpit 12 = .ok (.ifCond .ne 9, 3) := by decide +kernel
theorem dX5_bestSpit_15 : decode cX5_bestSpit 15 = .ok (.aload_n 0, 1) := by decide +kernel
theorem dX5_bestSpit_16 : decode cX5_bestSpit 16 = .ok (.iconst 1, 1) := by decide +kernel
theorem dX5_bestSpit_17 : decode cX5_bestSpit 17 = .ok (.invokevirtual 103, 3) := by decide +kernel
theorem dX5_bestSpit_20 : decode cX5_bestSpit 20 = .ok (.ireturn, 1) := by decide +kernel
theorem dX5_bestSpit_21 : decode cX5_bestSpit 21 = .ok (.aload_n 0, 1) := by decide +kernel
theorem dX5_bestSpit_22 : decode cX5_bestSpit 22 = .ok (.getfield 45, 3) := by decide +kernel
theorem dX5_bestSpit_25 : decode cX5_bestSpit 25 = .ok (.bipush 16, 2) := by decide +kernel
theorem dX5_bestSpit_27 : decode cX5_bestSpit 27 = .ok (.if_icmp .ne 9, 3) := by decide +kernel
theorem dX5_bestSpit_30 : decode cX5_bestSpit 30 = .ok (.aload_n 0, 1) := by decide +kernel
theorem dX5_bestSpit_31 : decode cX5_bestSpit 31 = .ok (.iconst 2, 1) := by decide +kernel
theorem dX5_bestSpit_32 : decode cX5_bestSpit 32 = .ok (.invokevirtual 103, 3) := by decide +kernel
theorem dX5_bestSpit_35 : decode cX5_bestSpit 35 = .ok (.ireturn, 1) := by decide +kernel
theorem dX5_bestSpit_36 : decode cX5_bestSpit 36 = .ok (.iconst (-1), 1) := by decide +kernel
theorem dX5_bestSpit_37 : decode cX5_bestSpit 37 = .ok (.istore_n 2, 1) := by decide +kernel
theorem dX5_bestSpit_38 : decode cX5_bestSpit 38 = .ok (.sipush 201, 3) := by decide +kernel
theorem dX5_bestSpit_41 : decode cX5_bestSpit 41 = .ok (.istore_n 3, 1) := by decide +kernel
theorem dX5_bestSpit_42 : decode cX5_bestSpit 42 = .ok (.aload_n 0, 1) := by decide +kernel
theorem dX5_bestSpit_43 : decode cX5_bestSpit 43 = .ok (.invokevirtual 150, 3) := by decide +kernel
theorem dX5_bestSpit_46 : decode cX5_bestSpit 46 = .ok (.iconst 0, 1) := by decide +kernel
theorem dX5_bestSpit_47 : decode cX5_bestSpit 47 = .ok (.istore 4, 2) := by decide +kernel
theorem dX5_bestSpit_49 : decode cX5_bestSpit 49 = .ok (.iload 4, 2) := by decide +kernel
theorem dX5_bestSpit_51 : decode cX5_bestSpit 51 = .ok (.aload_n 0, 1) := by decide +kernel
theorem dX5_bestSpit_52 : decode cX5_bestSpit 52 = .ok (.getfield 42, 3) := by decide +kernel
theorem dX5_bestSpit_55 : decode cX5_bestSpit 55 = .ok (.if_icmp .ge 61, 3) := by decide +kernel
theorem dX5_bestSpit_58 : decode cX5_bestSpit 58 = .ok (.aload_n 0, 1) := by decide +kernel
theorem dX5_bestSpit_59 : decode cX5_bestSpit 59 = .ok (.iload 4, 2) := by decide +kernel
theorem dX5_bestSpit_61 : decode cX5_bestSpit 61 = .ok (.iconst 2, 1) := by decide +kernel
theorem dX5_bestSpit_62 : decode cX5_bestSpit 62 = .ok (.invokevirtual 58, 3) := by decide +kernel
theorem dX5_bestSpit_65 : decode cX5_bestSpit 65 = .ok (.ifCond .le 6, 3) := by decide +kernel
theorem dX5_bestSpit_68 : decode cX5_bestSpit 68 = .ok (.goto 42, 3) := by decide +kernel
theorem dX5_bestSpit_71 : decode cX5_bestSpit 71 = .ok (.aload_n 0, 1) := by decide +kernel
theorem dX5_bestSpit_72 : decode cX5_bestSpit 72 = .ok (.iload 4, 2) := by decide +kernel
theorem dX5_bestSpit_74 : decode cX5_bestSpit 74 = .ok (.iload_n 1, 1) := by decide +kernel
theorem dX5_bestSpit_75 : decode cX5_bestSpit 75 = .ok (.invokevirtual 116, 3) := by decide +kernel
theorem dX5_bestSpit_78 : decode cX5_bestSpit 78 = .ok (.aload_n 0, 1) := by decide +kernel
theorem dX5_bestSpit_79 : decode cX5_bestSpit 79 = .ok (.aload_n 0, 1) := by decide +kernel
theorem dX5_bestSpit_80 : decode cX5_bestSpit 80 = .ok (.getfield 45, 3) := by decide +kernel
theorem dX5_bestSpit_83 : decode cX5_bestSpit 83 = .ok (.iconst 0, 1) := by decide +kernel
theorem dX5_bestSpit_84 : decode cX5_bestSpit 84 = .ok (.invokevirtual 153, 3) := by decide +kernel
theorem dX5_bestSpit_87 : decode cX5_bestSpit 87 = .ok (.istore 5, 2) := by decide +kernel
theorem dX5_bestSpit_89 : decode cX5_bestSpit 89 = .ok (.iload 5, 2) := by decide +kernel
theorem dX5_bestSpit_91 : decode cX5_bestSpit 91 = .ok (.iconst (-1), 1) := by decide +kernel
theorem dX5_bestSpit_92 : decode cX5_bestSpit 92 = .ok (.if_icmp .eq 18, 3) := by decide +kernel
theorem dX5_bestSpit_95 : decode cX5_bestSpit 95 = .ok (.iload 5, 2) := by decide +kernel
theorem dX5_bestSpit_97 : decode cX5_bestSpit 97 = .ok (.iload_n 3, 1) := by decide +kernel
theorem dX5_bestSpit_98 : decode cX5_bestSpit 98 = .ok (.if_icmp .lt 6, 3) := by decide +kernel
theorem dX5_bestSpit_101 : decode cX5_bestSpit 101 = .ok (.goto 9, 3) := by decide +kernel
theorem dX5_bestSpit_104 : decode cX5_bestSpit 104 = .ok (.iload 4, 2) := by decide +kernel
theorem dX5_bestSpit_106 : decode cX5_bestSpit 106 = .ok (.istore_n 2, 1) := by decide +kernel
theorem dX5_bestSpit_107 : decode cX5_bestSpit 107 = .ok (.iload 5, 2) := by decide +kernel
theorem dX5_bestSpit_109 : decode cX5_bestSpit 109 = .ok (.istore_n 3, 1) := by decide +kernel
theorem dX5_bestSpit_110 : decode cX5_bestSpit 110 = .ok (.iinc 4 1, 3) := by decide +kernel
theorem dX5_bestSpit_113 : decode cX5_bestSpit 113 = .ok (.goto (-64), 3) := by decide +kernel
theorem dX5_bestSpit_116 : decode cX5_bestSpit 116 = .ok (.iload_n 2, 1) := by decide +kernel
theorem dX5_bestSpit_117 : decode cX5_bestSpit 117 = .ok (.ireturn, 1) := by decide +kernel
theorem dX5_meanBrown_0 : decode cX5_meanBrown 0 = .ok (.aload_n 0, 1) := by decide +kernel
theorem dX5_meanBrown_1 : decode cX5_meanBrown 1 = .ok (.iconst 0, 1) := by decide +kernel
theorem dX5_meanBrown_2 : decode cX5_meanBrown 2 = .ok (.putfield 32, 3) := by decide +kernel
theorem dX5_meanBrown_5 : decode cX5_meanBrown 5 = .ok (.iconst 0, 1) := by decide +kernel
theorem dX5_meanBrown_6 : decode cX5_meanBrown 6 = .ok (.istore_n 1, 1) := by decide +kernel
theorem dX5_meanBrown_7 : decode cX5_meanBrown 7 = .ok (.iconst 0, 1) := by decide +kernel
theorem dX5_meanBrown_8 : decode cX5_meanBrown 8 = .ok (.istore_n 2, 1) := by decide +kernel
theorem dX5_meanBrown_9 : decode cX5_meanBrown 9 = .ok (.iload_n 2, 1) := by decide +kernel
theorem dX5_meanBrown_10 : decode cX5_meanBrown 10 = .ok (.aload_n 0, 1) := by decide +kernel
theorem dX5_meanBrown_11 : decode cX5_meanBrown 11 = .ok (.getfield 45, 3) := by decide +kernel
theorem dX5_meanBrown_14 : decode cX5_meanBrown 14 = .ok (.if_icmp .ge 33, 3) := by decide +kernel
theorem dX5_meanBrown_17 : decode cX5_meanBrown 17 = .ok (.iconst 0, 1) := by decide +kernel
theorem dX5_meanBrown_18 : decode cX5_meanBrown 18 = .ok (.istore_n 3, 1) := by decide +kernel
theorem dX5_meanBrown_19 : decode cX5_meanBrown 19 = .ok (.iload_n 3, 1) := by decide +kernel
theorem dX5_meanBrown_20 : decode cX5_meanBrown 20 = .ok (.iconst 4, 1) := by decide +kernel
theorem dX5_meanBrown_21 : decode cX5_meanBrown 21 = .ok (.if_icmp .ge 20, 3) := by decide +kernel
theorem dX5_meanBrown_24 : decode cX5_meanBrown 24 = .ok (.iload_n 1, 1) := by decide +kernel
theorem dX5_meanBrown_25 : decode cX5_meanBrown 25 = .ok (.aload_n 0, 1) := by decide +kernel
theorem dX5_meanBrown_26 : decode cX5_meanBrown 26 = .ok (.iload_n 2, 1) := by decide +kernel
theorem dX5_meanBrown_27 : decode cX5_meanBrown 27 = .ok (.iconst 4, 1) := by decide +kernel
theorem dX5_meanBrown_28 : decode cX5_meanBrown 28 = .ok (.iload_n 3, 1) := by decide +kernel
theorem dX5_meanBrown_29 : decode cX5_meanBrown 29 = .ok (.iadd, 1) := by decide +kernel
theorem dX5_meanBrown_30 : decode cX5_meanBrown 30 = .ok (.invokevirtual 61, 3) := by decide +kernel
theorem dX5_meanBrown_33 : decode cX5_meanBrown 33 = .ok (.iadd, 1) := by decide +kernel
theorem dX5_meanBrown_34 : decode cX5_meanBrown 34 = .ok (.istore_n 1, 1) := by decide +kernel
theorem dX5_meanBrown_35 : decode cX5_meanBrown 35 = .ok (.iinc 3 1, 3) := by decide +kernel
theorem dX5_meanBrown_38 : decode cX5_meanBrown 38 = .ok (.goto (-19), 3) := by decide +kernel
theorem dX5_meanBrown_41 : decode cX5_meanBrown 41 = .ok (.iinc 2 1, 3) := by decide +kernel
theorem dX5_meanBrown_44 : decode cX5_meanBrown 44 = .ok (.goto (-35), 3) := by decide +kernel
theorem dX5_meanBrown_47 : decode cX5_meanBrown 47 = .ok (.aload_n 0, 1) := by decide +kernel
theorem dX5_meanBrown_48 : decode cX5_meanBrown 48 = .ok (.getfield 45, 3) := by decide +kernel
theorem dX5_meanBrown_51 : decode cX5_meanBrown 51 = .ok (.ifCond .ne 7, 3) := by decide +kernel
theorem dX5_meanBrown_54 : decode cX5_meanBrown 54 = .ok (.dconst 0, 1) := by decide +kernel
theorem dX5_meanBrown_55 : decode cX5_meanBrown 55 = .ok (.goto 13, 3) := by decide +kernel
theorem dX5_meanBrown_58 : decode cX5_meanBrown 58 = .ok (.iload_n 1, 1) := by decide +kernel
theorem dX5_meanBrown_59 : decode cX5_meanBrown 59 = .ok (.i2d, 1) := by decide +kernel
theorem dX5_meanBrown_60 : decode cX5_meanBrown 60 = .ok (.iconst 4, 1) := by decide +kernel
theorem dX5_meanBrown_61 : decode cX5_meanBrown 61 = .ok (.aload_n 0, 1) := by decide +kernel
theorem dX5_meanBrown_62 : decode cX5_meanBrown 62 = .ok (.getfield 45, 3) := by decide +kernel
theorem dX5_meanBrown_65 : decode cX5_meanBrown 65 = .ok (.imul, 1) := by decide +kernel
theorem dX5_meanBrown_66 : decode cX5_meanBrown 66 = .ok (.i2d, 1) := by decide +kernel
theorem dX5_meanBrown_67 : decode cX5_meanBrown 67 = .ok (.ddiv, 1) := by decide +kernel
theorem dX5_meanBrown_68 : decode cX5_meanBrown 68 = .ok (.dreturn, 1) := by decide +kernel
theorem dX5_digest_0 : decode cX5_digest 0 = .ok (.aload_n 0, 1) := by decide +kernel
theorem dX5_digest_1 : decode cX5_digest 1 = .ok (.iconst 0, 1) := by decide +kernel
theorem dX5_digest_2 : decode cX5_digest 2 = .ok (.putfield 32, 3) := by decide +kernel
theorem dX5_digest_5 : decode cX5_digest 5 = .ok (.iconst 5, 1) := by decide +kernel
theorem dX5_digest_6 : decode cX5_digest 6 = .ok (.newarray .int, 2) := by decide +kernel
theorem dX5_digest_8 : decode cX5_digest 8 = .ok (.dup, 1) := by decide +kernel
theorem dX5_digest_9 : decode cX5_digest 9 = .ok (.iconst 0, 1) := by decide +kernel
theorem dX5_digest_10 : decode cX5_digest 10 = .ok (.aload_n 0, 1) := by decide +kernel
theorem dX5_digest_11 : decode cX5_digest 11 = .ok (.getfield 26, 3) := by decide +kernel
theorem dX5_digest_14 : decode cX5_digest 14 = .ok (.iconst 0, 1) := by decide +kernel
theorem dX5_digest_15 : decode cX5_digest 15 = .ok (.iaload, 1) := by decide +kernel
theorem dX5_digest_16 : decode cX5_digest 16 = .ok (.iastore, 1) := by decide +kernel
theorem dX5_digest_17 : decode cX5_digest 17 = .ok (.dup, 1) := by decide +kernel
theorem dX5_digest_18 : decode cX5_digest 18 = .ok (.iconst 1, 1) := by decide +kernel
theorem dX5_digest_19 : decode cX5_digest 19 = .ok (.aload_n 0, 1) := by decide +kernel
theorem dX5_digest_20 : decode cX5_digest 20 = .ok (.getfield 7, 3) := by decide +kernel
theorem dX5_digest_23 : decode cX5_digest 23 = .ok (.iastore, 1) := by decide +kernel
theorem dX5_digest_24 : decode cX5_digest 24 = .ok (.dup, 1) := by decide +kernel
theorem dX5_digest_25 : decode cX5_digest 25 = .ok (.iconst 2, 1) := by decide +kernel
theorem dX5_digest_26 : decode cX5_digest 26 = .ok (.aload_n 0, 1) := by decide +kernel
theorem dX5_digest_27 : decode cX5_digest 27 = .ok (.getfield 35, 3) := by decide +kernel
theorem dX5_digest_30 : decode cX5_digest 30 = .ok (.iastore, 1) := by decide +kernel
theorem dX5_digest_31 : decode cX5_digest 31 = .ok (.dup, 1) := by decide +kernel
theorem dX5_digest_32 : decode cX5_digest 32 = .ok (.iconst 3, 1) := by decide +kernel
theorem dX5_digest_33 : decode cX5_digest 33 = .ok (.aload_n 0, 1) := by decide +kernel
theorem dX5_digest_34 : decode cX5_digest 34 = .ok (.getfield 42, 3) := by decide +kernel
theorem dX5_digest_37 : decode cX5_digest 37 = .ok (.iastore, 1) := by decide +kernel
theorem dX5_digest_38 : decode cX5_digest 38 = .ok (.dup, 1) := by decide +kernel
theorem dX5_digest_39 : decode cX5_digest 39 = .ok (.iconst 4, 1) := by decide +kernel
theorem dX5_digest_40 : decode cX5_digest 40 = .ok (.aload_n 0, 1) := by decide +kernel
theorem dX5_digest_41 : decode cX5_digest 41 = .ok (.getfield 45, 3) := by decide +kernel
theorem dX5_digest_44 : decode cX5_digest 44 = .ok (.iastore, 1) := by decide +kernel
theorem dX5_digest_45 : decode cX5_digest 45 = .ok (.astore_n 1, 1) := by decide +kernel
theorem dX5_digest_46 : decode cX5_digest 46 = .ok (.ldc2_w 157, 3) := by decide +kernel
theorem dX5_digest_49 : decode cX5_digest 49 = .ok (.lstore_n 2, 1) := by decide +kernel
theorem dX5_digest_50 : decode cX5_digest 50 = .ok (.aload_n 1, 1) := by decide +kernel
theorem dX5_digest_51 : decode cX5_digest 51 = .ok (.astore 4, 2) := by decide +kernel
theorem dX5_digest_53 : decode cX5_digest 53 = .ok (.aload 4, 2) := by decide +kernel
theorem dX5_digest_55 : decode cX5_digest 55 = .ok (.arraylength, 1) := by decide +kernel
theorem dX5_digest_56 : decode cX5_digest 56 = .ok (.istore 5, 2) := by decide +kernel
theorem dX5_digest_58 : decode cX5_digest 58 = .ok (.iconst 0, 1) := by decide +kernel
theorem dX5_digest_59 : decode cX5_digest 59 = .ok (.istore 6, 2) := by decide +kernel
theorem dX5_digest_61 : decode cX5_digest 61 = .ok (.iload 6, 2) := by decide +kernel
theorem dX5_digest_63 : decode cX5_digest 63 = .ok (.iload 5, 2) := by decide +kernel
theorem dX5_digest_65 : decode cX5_digest 65 = .ok (.if_icmp .ge 26, 3) := by decide +kernel
theorem dX5_digest_68 : decode cX5_digest 68 = .ok (.aload 4, 2) := by decide +kernel
theorem dX5_digest_70 : decode cX5_digest 70 = .ok (.iload 6, 2) := by decide +kernel
theorem dX5_digest_72 : decode cX5_digest 72 = .ok (.iaload, 1) := by decide +kernel
theorem dX5_digest_73 : decode cX5_digest 73 = .ok (.istore 7, 2) := by decide +kernel
theorem dX5_digest_75 : decode cX5_digest 75 = .ok (.lload_n 2, 1) := by decide +kernel
theorem dX5_digest_76 : decode cX5_digest 76 = .ok (.ldc2_w 159, 3) := by decide +kernel
theorem dX5_digest_79 : decode cX5_digest 79 = .ok (.lmul, 1) := by decide +kernel
theorem dX5_digest_80 : decode cX5_digest 80 = .ok (.iload 7, 2) := by decide +kernel
theorem dX5_digest_82 : decode cX5_digest 82 = .ok (.i2l, 1) := by decide +kernel
theorem dX5_digest_83 : decode cX5_digest 83 = .ok (.ladd, 1) := by decide +kernel
theorem dX5_digest_84 : decode cX5_digest 84 = .ok (.lstore_n 2, 1) := by decide +kernel
theorem dX5_digest_85 : decode cX5_digest 85 = .ok (.iinc 6 1, 3) := by decide +kernel
theorem dX5_digest_88 : decode cX5_digest 88 = .ok (.goto (-27), 3) := by decide +kernel
theorem dX5_digest_91 : decode cX5_digest 91 = .ok (.iconst 0, 1) := by decide +kernel
theorem dX5_digest_92 : decode cX5_digest 92 = .ok (.istore 4, 2) := by decide +kernel
theorem dX5_digest_94 : decode cX5_digest 94 = .ok (.iload 4, 2) := by decide +kernel
theorem dX5_digest_96 : decode cX5_digest 96 = .ok (.aload_n 0, 1) := by decide +kernel
theorem dX5_digest_97 : decode cX5_digest 97 = .ok (.getfield 35, 3) := by decide +kernel
theorem dX5_digest_100 : decode cX5_digest 100 = .ok (.if_icmp .ge 39, 3) := by decide +kernel
theorem dX5_digest_103 : decode cX5_digest 103 = .ok (.lload_n 2, 1) := by decide +kernel
theorem dX5_digest_104 : decode cX5_digest 104 = .ok (.ldc2_w 159, 3) := by decide +kernel
theorem dX5_digest_107 : decode cX5_digest 107 = .ok (.lmul, 1) := by decide +kernel
theorem dX5_digest_108 : decode cX5_digest 108 = .ok (.aload_n 0, 1) := by decide +kernel
theorem dX5_digest_109 : decode cX5_digest 109 = .ok (.iload 4, 2) := by decide +kernel
theorem dX5_digest_111 : decode cX5_digest 111 = .ok (.iconst 0, 1) := by decide +kernel
theorem dX5_digest_112 : decode cX5_digest 112 = .ok (.invokevirtual 54, 3) := by decide +kernel
theorem dX5_digest_115 : decode cX5_digest 115 = .ok (.i2l, 1) := by decide +kernel
theorem dX5_digest_116 : decode cX5_digest 116 = .ok (.ladd, 1) := by decide +kernel
theorem dX5_digest_117 : decode cX5_digest 117 = .ok (.lstore_n 2, 1) := by decide +kernel
theorem dX5_digest_118 : decode cX5_digest 118 = .ok (.lload_n 2, 1) := by decide +kernel
theorem dX5_digest_119 : decode cX5_digest 119 = .ok (.ldc2_w 159, 3) := by decide +kernel
theorem dX5_digest_122 : decode cX5_digest 122 = .ok (.lmul, 1) := by decide +kernel
theorem dX5_digest_123 : decode cX5_digest 123 = .ok (.aload_n 0, 1) := by decide +kernel
theorem dX5_digest_124 : decode cX5_digest 124 = .ok (.iload 4, 2) := by decide +kernel
theorem dX5_digest_126 : decode cX5_digest 126 = .ok (.iconst 1, 1) := by decide +kernel
theorem dX5_digest_127 : decode cX5_digest 127 = .ok (.invokevirtual 54, 3) := by decide +kernel
theorem dX5_digest_130 : decode cX5_digest 130 = .ok (.i2l, 1) := by decide +kernel
theorem dX5_digest_131 : decode cX5_digest 131 = .ok (.ladd, 1) := by decide +kernel
theorem dX5_digest_132 : decode cX5_digest 132 = .ok (.lstore_n 2, 1) := by decide +kernel
theorem dX5_digest_133 : decode cX5_digest 133 = .ok (.iinc 4 1, 3) := by decide +kernel
theorem dX5_digest_136 : decode cX5_digest 136 = .ok (.goto (-42), 3) := by decide +kernel
theorem dX5_digest_139 : decode cX5_digest 139 = .ok (.iconst 0, 1) := by decide +kernel
theorem dX5_digest_140 : decode cX5_digest 140 = .ok (.istore 4, 2) := by decide +kernel
theorem dX5_digest_142 : decode cX5_digest 142 = .ok (.iload 4, 2) := by decide +kernel
theorem dX5_digest_144 : decode cX5_digest 144 = .ok (.aload_n 0, 1) := by decide +kernel
theorem dX5_digest_145 : decode cX5_digest 145 = .ok (.getfield 42, 3) := by decide +kernel
theorem dX5_digest_148 : decode cX5_digest 148 = .ok (.if_icmp .ge 118, 3) := by decide +kernel
theorem dX5_digest_151 : decode cX5_digest 151 = .ok (.bipush 6, 2) := by decide +kernel
theorem dX5_digest_153 : decode cX5_digest 153 = .ok (.newarray .int, 2) := by decide +kernel
theorem dX5_digest_155 : decode cX5_digest 155 = .ok (.dup, 1) := by decide +kernel
theorem dX5_digest_156 : decode cX5_digest 156 = .ok (.iconst 0, 1) := by decide +kernel
theorem dX5_digest_157 : decode cX5_digest 157 = .ok (.aload_n 0, 1) := by decide +kernel
theorem dX5_digest_158 : decode cX5_digest 158 = .ok (.getfield 13, 3) := by decide +kernel
theorem dX5_digest_161 : decode cX5_digest 161 = .ok (.iload 4, 2) := by decide +kernel
theorem dX5_digest_163 : decode cX5_digest 163 = .ok (.iaload, 1) := by decide +kernel
theorem dX5_digest_164 : decode cX5_digest 164 = .ok (.iastore, 1) := by decide +kernel
theorem dX5_digest_165 : decode cX5_digest 165 = .ok (.dup, 1) := by decide +kernel
theorem dX5_digest_166 : decode cX5_digest 166 = .ok (.iconst 1, 1) := by decide +kernel
theorem dX5_digest_167 : decode cX5_digest 167 = .ok (.aload_n 0, 1) := by decide +kernel
theorem dX5_digest_168 : decode cX5_digest 168 = .ok (.iload 4, 2) := by decide +kernel
theorem dX5_digest_170 : decode cX5_digest 170 = .ok (.iconst 0, 1) := by decide +kernel
theorem dX5_digest_171 : decode cX5_digest 171 = .ok (.invokevirtual 58, 3) := by decide +kernel
theorem dX5_digest_174 : decode cX5_digest 174 = .ok (.iastore, 1) := by decide +kernel
theorem dX5_digest_175 : decode cX5_digest 175 = .ok (.dup, 1) := by decide +kernel
theorem dX5_digest_176 : decode cX5_digest 176 = .ok (.iconst 2, 1) := by decide +kernel
theorem dX5_digest_177 : decode cX5_digest 177 = .ok (.aload_n 0, 1) := by decide +kernel
theorem dX5_digest_178 : decode cX5_digest 178 = .ok (.iload 4, 2) := by decide +kernel
theorem dX5_digest_180 : decode cX5_digest 180 = .ok (.invokevirtual 77, 3) := by decide +kernel
theorem dX5_digest_183 : decode cX5_digest 183 = .ok (.iastore, 1) := by decide +kernel
theorem dX5_digest_184 : decode cX5_digest 184 = .ok (.dup, 1) := by decide +kernel
theorem dX5_digest_185 : decode cX5_digest 185 = .ok (.iconst 3, 1) := by decide +kernel
theorem dX5_digest_186 : decode cX5_digest 186 = .ok (.aload_n 0, 1) := by decide +kernel
theorem dX5_digest_187 : decode cX5_digest 187 = .ok (.iload 4, 2) := by decide +kernel
theorem dX5_digest_189 : decode cX5_digest 189 = .ok (.iconst 4, 1) := by decide +kernel
theorem dX5_digest_190 : decode cX5_digest 190 = .ok (.invokevirtual 58, 3) := by decide +kernel
theorem dX5_digest_193 : decode cX5_digest 193 = .ok (.iastore, 1) := by decide +kernel
theorem dX5_digest_194 : decode cX5_digest 194 = .ok (.dup, 1) := by decide +kernel
theorem dX5_digest_195 : decode cX5_digest 195 = .ok (.iconst 4, 1) := by decide +kernel
theorem dX5_digest_196 : decode cX5_digest 196 = .ok (.aload_n 0, 1) := by decide +kernel
theorem dX5_digest_197 : decode cX5_digest 197 = .ok (.iload 4, 2) := by decide +kernel
theorem dX5_digest_199 : decode cX5_digest 199 = .ok (.iconst 1, 1) := by decide +kernel
theorem dX5_digest_200 : decode cX5_digest 200 = .ok (.invokevirtual 58, 3) := by decide +kernel
theorem dX5_digest_203 : decode cX5_digest 203 = .ok (.iastore, 1) := by decide +kernel
theorem dX5_digest_204 : decode cX5_digest 204 = .ok (.dup, 1) := by decide +kernel
theorem dX5_digest_205 : decode cX5_digest 205 = .ok (.iconst 5, 1) := by decide +kernel
theorem dX5_digest_206 : decode cX5_digest 206 = .ok (.aload_n 0, 1) := by decide +kernel
theorem dX5_digest_207 : decode cX5_digest 207 = .ok (.iload 4, 2) := by decide +kernel
theorem dX5_digest_209 : decode cX5_digest 209 = .ok (.iconst 2, 1) := by decide +kernel
theorem dX5_digest_210 : decode cX5_digest 210 = .ok (.invokevirtual 58, 3) := by decide +kernel
theorem dX5_digest_213 : decode cX5_digest 213 = .ok (.iconst 1, 1) := by decide +kernel
theorem dX5_digest_214 : decode cX5_digest 214 = .ok (.isub, 1) := by decide +kernel
theorem dX5_digest_215 : decode cX5_digest 215 = .ok (.iastore, 1) := by decide +kernel
theorem dX5_digest_216 : decode cX5_digest 216 = .ok (.astore 5, 2) := by decide +kernel
theorem dX5_digest_218 : decode cX5_digest 218 = .ok (.aload 5, 2) := by decide +kernel
theorem dX5_digest_220 : decode cX5_digest 220 = .ok (.astore 6, 2) := by decide +kernel
theorem dX5_digest_222 : decode cX5_digest 222 = .ok (.aload 6, 2) := by decide +kernel
theorem dX5_digest_224 : decode cX5_digest 224 = .ok (.arraylength, 1) := by decide +kernel
theorem dX5_digest_225 : decode cX5_digest 225 = .ok (.istore 7, 2) := by decide +kernel
theorem dX5_digest_227 : decode cX5_digest 227 = .ok (.iconst 0, 1) := by decide +kernel
theorem dX5_digest_228 : decode cX5_digest 228 = .ok (.istore 8, 2) := by decide +kernel
theorem dX5_digest_230 : decode cX5_digest 230 = .ok (.iload 8, 2) := by decide +kernel
theorem dX5_digest_232 : decode cX5_digest 232 = .ok (.iload 7, 2) := by decide +kernel
theorem dX5_digest_234 : decode cX5_digest 234 = .ok (.if_icmp .ge 26, 3) := by decide +kernel
theorem dX5_digest_237 : decode cX5_digest 237 = .ok (.aload 6, 2) := by decide +kernel
theorem dX5_digest_239 : decode cX5_digest 239 = .ok (.iload 8, 2) := by decide +kernel
theorem dX5_digest_241 : decode cX5_digest 241 = .ok (.iaload, 1) := by decide +kernel
theorem dX5_digest_242 : decode cX5_digest 242 = .ok (.istore 9, 2) := by decide +kernel
theorem dX5_digest_244 : decode cX5_digest 244 = .ok (.lload_n 2, 1) := by decide +kernel
theorem dX5_digest_245 : decode cX5_digest 245 = .ok (.ldc2_w 159, 3) := by decide +kernel
theorem dX5_digest_248 : decode cX5_digest 248 = .ok (.lmul, 1) := by decide +kernel
theorem dX5_digest_249 : decode cX5_digest 249 = .ok (.iload 9, 2) := by decide +kernel
theorem dX5_digest_251 : decode cX5_digest 251 = .ok (.i2l, 1) := by decide +kernel
theorem dX5_digest_252 : decode cX5_digest 252 = .ok (.ladd, 1) := by decide +kernel
theorem dX5_digest_253 : decode cX5_digest 253 = .ok (.lstore_n 2, 1) := by decide +kernel
theorem dX5_digest_254 : decode cX5_digest 254 = .ok (.iinc 8 1, 3) := by decide +kernel
theorem dX5_digest_257 : decode cX5_digest 257 = .ok (.goto (-27), 3) := by decide +kernel
theorem dX5_digest_260 : decode cX5_digest 260 = .ok (.iinc 4 1, 3) := by decide +kernel
theorem dX5_digest_263 : decode cX5_digest 263 = .ok (.goto (-121), 3) := by decide +kernel
theorem dX5_digest_266 : decode cX5_digest 266 = .ok (.iconst 0, 1) := by decide +kernel
theorem dX5_digest_267 : decode cX5_digest 267 = .ok (.istore 4, 2) := by decide +kernel
theorem dX5_digest_269 : decode cX5_digest 269 = .ok (.iload 4, 2) := by decide +kernel
theorem dX5_digest_271 : decode cX5_digest 271 = .ok (.aload_n 0, 1) := by decide +kernel
theorem dX5_digest_272 : decode cX5_digest 272 = .ok (.getfield 45, 3) := by decide +kernel
theorem dX5_digest_275 : decode cX5_digest 275 = .ok (.if_icmp .ge 177, 3) := by decide +kernel
theorem dX5_digest_278 : decode cX5_digest 278 = .ok (.bipush 7, 2) := by decide +kernel
theorem dX5_digest_280 : decode cX5_digest 280 = .ok (.newarray .int, 2) := by decide +kernel
theorem dX5_digest_282 : decode cX5_digest 282 = .ok (.dup, 1) := by decide +kernel
theorem dX5_digest_283 : decode cX5_digest 283 = .ok (.iconst 0, 1) := by decide +kernel
theorem dX5_digest_284 : decode cX5_digest 284 = .ok (.aload_n 0, 1) := by decide +kernel
theorem dX5_digest_285 : decode cX5_digest 285 = .ok (.getfield 17, 3) := by decide +kernel
theorem dX5_digest_288 : decode cX5_digest 288 = .ok (.iload 4, 2) := by decide +kernel
theorem dX5_digest_290 : decode cX5_digest 290 = .ok (.iaload, 1) := by decide +kernel
theorem dX5_digest_291 : decode cX5_digest 291 = .ok (.iastore, 1) := by decide +kernel
theorem dX5_digest_292 : decode cX5_digest 292 = .ok (.dup, 1) := by decide +kernel
theorem dX5_digest_293 : decode cX5_digest 293 = .ok (.iconst 1, 1) := by decide +kernel
theorem dX5_digest_294 : decode cX5_digest 294 = .ok (.aload_n 0, 1) := by decide +kernel
theorem dX5_digest_295 : decode cX5_digest 295 = .ok (.iload 4, 2) := by decide +kernel
theorem dX5_digest_297 : decode cX5_digest 297 = .ok (.iconst 0, 1) := by decide +kernel
theorem dX5_digest_298 : decode cX5_digest 298 = .ok (.invokevirtual 61, 3) := by decide +kernel
theorem dX5_digest_301 : decode cX5_digest 301 = .ok (.iconst 1, 1) := by decide +kernel
theorem dX5_digest_302 : decode cX5_digest 302 = .ok (.isub, 1) := by decide +kernel
theorem dX5_digest_303 : decode cX5_digest 303 = .ok (.iastore, 1) := by decide +kernel
theorem dX5_digest_304 : decode cX5_digest 304 = .ok (.dup, 1) := by decide +kernel
theorem dX5_digest_305 : decode cX5_digest 305 = .ok (.iconst 2, 1) := by decide +kernel
theorem dX5_digest_306 : decode cX5_digest 306 = .ok (.aload_n 0, 1) := by decide +kernel
theorem dX5_digest_307 : decode cX5_digest 307 = .ok (.iload 4, 2) := by decide +kernel
theorem dX5_digest_309 : decode cX5_digest 309 = .ok (.iconst 1, 1) := by decide +kernel
theorem dX5_digest_310 : decode cX5_digest 310 = .ok (.invokevirtual 61, 3) := by decide +kernel
theorem dX5_digest_313 : decode cX5_digest 313 = .ok (.iastore, 1) := by decide +kernel
theorem dX5_digest_314 : decode cX5_digest 314 = .ok (.dup, 1) := by decide +kernel
theorem dX5_digest_315 : decode cX5_digest 315 = .ok (.iconst 3, 1) := by decide +kernel
theorem dX5_digest_316 : decode cX5_digest 316 = .ok (.aload_n 0, 1) := by decide +kernel
theorem dX5_digest_317 : decode cX5_digest 317 = .ok (.iload 4, 2) := by decide +kernel
theorem dX5_digest_319 : decode cX5_digest 319 = .ok (.iconst 2, 1) := by decide +kernel
theorem dX5_digest_320 : decode cX5_digest 320 = .ok (.invokevirtual 61, 3) := by decide +kernel
theorem dX5_digest_323 : decode cX5_digest 323 = .ok (.iastore, 1) := by decide +kernel
theorem dX5_digest_324 : decode cX5_digest 324 = .ok (.dup, 1) := by decide +kernel
theorem dX5_digest_325 : decode cX5_digest 325 = .ok (.iconst 4, 1) := by decide +kernel
theorem dX5_digest_326 : decode cX5_digest 326 = .ok (.aload_n 0, 1) := by decide +kernel
theorem dX5_digest_327 : decode cX5_digest 327 = .ok (.iload 4, 2) := by decide +kernel
theorem dX5_digest_329 : decode cX5_digest 329 = .ok (.iconst 3, 1) := by decide +kernel
theorem dX5_digest_330 : decode cX5_digest 330 = .ok (.invokevirtual 61, 3) := by decide +kernel
theorem dX5_digest_333 : decode cX5_digest 333 = .ok (.iastore, 1) := by decide +kernel
theorem dX5_digest_334 : decode cX5_digest 334 = .ok (.dup, 1) := by decide +kernel
theorem dX5_digest_335 : decode cX5_digest 335 = .ok (.iconst 5, 1) := by decide +kernel
theorem dX5_digest_336 : decode cX5_digest 336 = .ok (.aload_n 0, 1) := by decide +kernel
theorem dX5_digest_337 : decode cX5_digest 337 = .ok (.iload 4, 2) := by decide +kernel
theorem dX5_digest_339 : decode cX5_digest 339 = .ok (.invokevirtual 141, 3) := by decide +kernel
theorem dX5_digest_342 : decode cX5_digest 342 = .ok (.ifCond .eq 7, 3) := by decide +kernel
theorem dX5_digest_345 : decode cX5_digest 345 = .ok (.iconst 1, 1) := by decide +kernel
theorem dX5_digest_346 : decode cX5_digest 346 = .ok (.goto 4, 3) := by decide +kernel
theorem dX5_digest_349 : decode cX5_digest 349 = .ok (.iconst 0, 1) := by decide +kernel
theorem dX5_digest_350 : decode cX5_digest 350 = .ok (.iastore, 1) := by decide +kernel
theorem dX5_digest_351 : decode cX5_digest 351 = .ok (.dup, 1) := by decide +kernel
theorem dX5_digest_352 : decode cX5_digest 352 = .ok (.bipush 6, 2) := by decide +kernel
theorem dX5_digest_354 : decode cX5_digest 354 = .ok (.aload_n 0, 1) := by decide +kernel
theorem dX5_digest_355 : decode cX5_digest 355 = .ok (.iload 4, 2) := by decide +kernel
theorem dX5_digest_357 : decode cX5_digest 357 = .ok (.invokevirtual 144, 3) := by decide +kernel
theorem dX5_digest_360 : decode cX5_digest 360 = .ok (.ifCond .eq 7, 3) := by decide +kernel
theorem dX5_digest_363 : decode cX5_digest 363 = .ok (.iconst 1, 1) := by decide +kernel
theorem dX5_digest_364 : decode cX5_digest 364 = .ok (.goto 4, 3) := by decide +kernel
theorem dX5_digest_367 : decode cX5_digest 367 = .ok (.iconst 0, 1) := by decide +kernel
theorem dX5_digest_368 : decode cX5_digest 368 = .ok (.iastore, 1) := by decide +kernel
theorem dX5_digest_369 : decode cX5_digest 369 = .ok (.astore 5, 2) := by decide +kernel
theorem dX5_digest_371 : decode cX5_digest 371 = .ok (.aload 5, 2) := by decide +kernel
theorem dX5_digest_373 : decode cX5_digest 373 = .ok (.astore 6, 2) := by decide +kernel
theorem dX5_digest_375 : decode cX5_digest 375 = .ok (.aload 6, 2) := by decide +kernel
theorem dX5_digest_377 : decode cX5_digest 377 = .ok (.arraylength, 1) := by decide +kernel
theorem dX5_digest_378 : decode cX5_digest 378 = .ok (.istore 7, 2) := by decide +kernel
theorem dX5_digest_380 : decode cX5_digest 380 = .ok (.iconst 0, 1) := by decide +kernel
theorem dX5_digest_381 : decode cX5_digest 381 = .ok (.istore 8, 2) := by decide +kernel
theorem dX5_digest_383 : decode cX5_digest 383 = .ok (.iload 8, 2) := by decide +kernel
theorem dX5_digest_385 : decode cX5_digest 385 = .ok (.iload 7, 2) := by decide +kernel
theorem dX5_digest_387 : decode cX5_digest 387 = .ok (.if_icmp .ge 26, 3) := by decide +kernel
theorem dX5_digest_390 : decode cX5_digest 390 = .ok (.aload 6, 2) := by decide +kernel
theorem dX5_digest_392 : decode cX5_digest 392 = .ok (.iload 8, 2) := by decide +kernel
theorem dX5_digest_394 : decode cX5_digest 394 = .ok (.iaload, 1) := by decide +kernel
theorem dX5_digest_395 : decode cX5_digest 395 = .ok (.istore 9, 2) := by decide +kernel
theorem dX5_digest_397 : decode cX5_digest 397 = .ok (.lload_n 2, 1) := by decide +kernel
theorem dX5_digest_398 : decode cX5_digest 398 = .ok (.ldc2_w 159, 3) := by decide +kernel
theorem dX5_digest_401 : decode cX5_digest 401 = .ok (.lmul, 1) := by decide +kernel
theorem dX5_digest_402 : decode cX5_digest 402 = .ok (.iload 9, 2) := by decide +kernel
theorem dX5_digest_404 : decode cX5_digest 404 = .ok (.i2l, 1) := by decide +kernel
theorem dX5_digest_405 : decode cX5_digest 405 = .ok (.ladd, 1) := by decide +kernel
theorem dX5_digest_406 : decode cX5_digest 406 = .ok (.lstore_n 2, 1) := by decide +kernel
theorem dX5_digest_407 : decode cX5_digest 407 = .ok (.iinc 8 1, 3) := by decide +kernel
theorem dX5_digest_410 : decode cX5_digest 410 = .ok (.goto (-27), 3) := by decide +kernel
theorem dX5_digest_413 : decode cX5_digest 413 = .ok (.iconst 0, 1) := by decide +kernel
theorem dX5_digest_414 : decode cX5_digest 414 = .ok (.istore 6, 2) := by decide +kernel
theorem dX5_digest_416 : decode cX5_digest 416 = .ok (.iload 6, 2) := by decide +kernel
theorem dX5_digest_418 : decode cX5_digest 418 = .ok (.iconst 4, 1) := by decide +kernel
theorem dX5_digest_419 : decode cX5_digest 419 = .ok (.if_icmp .ge 27, 3) := by decide +kernel
theorem dX5_digest_422 : decode cX5_digest 422 = .ok (.lload_n 2, 1) := by decide +kernel
theorem dX5_digest_423 : decode cX5_digest 423 = .ok (.ldc2_w 159, 3) := by decide +kernel
theorem dX5_digest_426 : decode cX5_digest 426 = .ok (.lmul, 1) := by decide +kernel
theorem dX5_digest_427 : decode cX5_digest 427 = .ok (.aload_n 0, 1) := by decide +kernel
theorem dX5_digest_428 : decode cX5_digest 428 = .ok (.iload 4, 2) := by decide +kernel
theorem dX5_digest_430 : decode cX5_digest 430 = .ok (.iconst 4, 1) := by decide +kernel
theorem dX5_digest_431 : decode cX5_digest 431 = .ok (.iload 6, 2) := by decide +kernel
theorem dX5_digest_433 : decode cX5_digest 433 = .ok (.iadd, 1) := by decide +kernel
theorem dX5_digest_434 : decode cX5_digest 434 = .ok (.invokevirtual 61, 3) := by decide +kernel
theorem dX5_digest_437 : decode cX5_digest 437 = .ok (.i2l, 1) := by decide +kernel
theorem dX5_digest_438 : decode cX5_digest 438 = .ok (.ladd, 1) := by decide +kernel
theorem dX5_digest_439 : decode cX5_digest 439 = .ok (.lstore_n 2, 1) := by decide +kernel
theorem dX5_digest_440 : decode cX5_digest 440 = .ok (.iinc 6 1, 3) := by decide +kernel
theorem dX5_digest_443 : decode cX5_digest 443 = .ok (.goto (-27), 3) := by decide +kernel
theorem dX5_digest_446 : decode cX5_digest 446 = .ok (.iinc 4 1, 3) := by decide +kernel
theorem dX5_digest_449 : decode cX5_digest 449 = .ok (.goto (-180), 3) := by decide +kernel
theorem dX5_digest_452 : decode cX5_digest 452 = .ok (.lload_n 2, 1) := by decide +kernel
theorem dX5_digest_453 : decode cX5_digest 453 = .ok (.lreturn, 1) := by decide +kernel
theorem dJ9_max_7cf53_0 : decode cJ9_max_7cf53 0 = .ok (.iload_n 0, 1) := by decide +kernel
theorem dJ9_max_7cf53_1 : decode cJ9_max_7cf53 1 = .ok (.iload_n 1, 1) := by decide +kernel
theorem dJ9_max_7cf53_2 : decode cJ9_max_7cf53 2 = .ok (.if_icmp .lt 7, 3) := by decide +kernel
theorem dJ9_max_7cf53_5 : decode cJ9_max_7cf53 5 = .ok (.iload_n 0, 1) := by decide +kernel
theorem dJ9_max_7cf53_6 : decode cJ9_max_7cf53 6 = .ok (.goto 4, 3) := by decide +kernel
theorem dJ9_max_7cf53_9 : decode cJ9_max_7cf53 9 = .ok (.iload_n 1, 1) := by decide +kernel
theorem dJ9_max_7cf53_10 : decode cJ9_max_7cf53 10 = .ok (.ireturn, 1) := by decide +kernel
theorem dJ9_min_7cf53_0 : decode cJ9_min_7cf53 0 = .ok (.iload_n 0, 1) := by decide +kernel
theorem dJ9_min_7cf53_1 : decode cJ9_min_7cf53 1 = .ok (.iload_n 1, 1) := by decide +kernel
theorem dJ9_min_7cf53_2 : decode cJ9_min_7cf53 2 = .ok (.if_icmp .gt 7, 3) := by decide +kernel
theorem dJ9_min_7cf53_5 : decode cJ9_min_7cf53 5 = .ok (.iload_n 0, 1) := by decide +kernel
theorem dJ9_min_7cf53_6 : decode cJ9_min_7cf53 6 = .ok (.goto 4, 3) := by decide +kernel
theorem dJ9_min_7cf53_9 : decode cJ9_min_7cf53 9 = .ok (.iload_n 1, 1) := by decide +kernel
theorem dJ9_min_7cf53_10 : decode cJ9_min_7cf53 10 = .ok (.ireturn, 1) := by decide +kernel
theorem dL_addFire_0 : decode cL_addFire 0 = .ok (.aload_n 1, 1) := by decide +kernel
theorem dL_addFire_1 : decode cL_addFire 1 = .ok (.iconst 0, 1) := by decide +kernel
theorem dL_addFire_2 : decode cL_addFire 2 = .ok (.aload_n 0, 1) := by decide +kernel
theorem dL_addFire_3 : decode cL_addFire 3 = .ok (.invokevirtual 7, 3) := by decide +kernel
theorem dL_addFire_6 : decode cL_addFire 6 = .ok (.i2l, 1) := by decide +kernel
theorem dL_addFire_7 : decode cL_addFire 7 = .ok (.lastore, 1) := by decide +kernel
theorem dL_addFire_8 : decode cL_addFire 8 = .ok (.goto 6, 3) := by decide +kernel
theorem dL_addFire_11 : decode cL_addFire 11 = .ok (.astore_n 2, 1) := by decide +kernel
theorem dL_addFire_12 : decode cL_addFire 12 = .ok (.iconst 1, 1) := by decide +kernel
theorem dL_addFire_13 : decode cL_addFire 13 = .ok (.ireturn, 1) := by decide +kernel
theorem dL_addFire_14 : decode cL_addFire 14 = .ok (.iconst 0, 1) := by decide +kernel
theorem dL_addFire_15 : decode cL_addFire 15 = .ok (.ireturn, 1) := by decide +kernel
theorem dL_layLogs_0 : decode cL_layLogs 0 = .ok (.aload_n 3, 1) := by decide +kernel
theorem dL_layLogs_1 : decode cL_layLogs 1 = .ok (.iconst 0, 1) := by decide +kernel
theorem dL_layLogs_2 : decode cL_layLogs 2 = .ok (.aload_n 0, 1) := by decide +kernel
theorem dL_layLogs_3 : decode cL_layLogs 3 = .ok (.iload_n 1, 1) := by decide +kernel
theorem dL_layLogs_4 : decode cL_layLogs 4 = .ok (.iload_n 2, 1) := by decide +kernel
theorem dL_layLogs_5 : decode cL_layLogs 5 = .ok (.invokevirtual 15, 3) := by decide +kernel
theorem dL_layLogs_8 : decode cL_layLogs 8 = .ok (.i2l, 1) := by decide +kernel
theorem dL_layLogs_9 : decode cL_layLogs 9 = .ok (.lastore, 1) := by decide +kernel
theorem dL_layLogs_10 : decode cL_layLogs 10 = .ok (.goto 11, 3) := by decide +kernel
theorem dL_layLogs_13 : decode cL_layLogs 13 = .ok (.astore 4, 2) := by decide +kernel
theorem dL_layLogs_15 : decode cL_layLogs 15 = .ok (.iconst 1, 1) := by decide +kernel
theorem dL_layLogs_16 : decode cL_layLogs 16 = .ok (.ireturn, 1) := by decide +kernel
theorem dL_layLogs_17 : decode cL_layLogs 17 = .ok (.astore 4, 2) := by decide +kernel
theorem dL_layLogs_19 : decode cL_layLogs 19 = .ok (.iconst 2, 1) := by decide +kernel
theorem dL_layLogs_20 : decode cL_layLogs 20 = .ok (.ireturn, 1) := by decide +kernel
theorem dL_layLogs_21 : decode cL_layLogs 21 = .ok (.iconst 0, 1) := by decide +kernel
theorem dL_layLogs_22 : decode cL_layLogs 22 = .ok (.ireturn, 1) := by decide +kernel
theorem dL_addSpit_0 : decode cL_addSpit 0 = .ok (.aload_n 3, 1) := by decide +kernel
theorem dL_addSpit_1 : decode cL_addSpit 1 = .ok (.iconst 0, 1) := by decide +kernel
theorem dL_addSpit_2 : decode cL_addSpit 2 = .ok (.aload_n 0, 1) := by decide +kernel
theorem dL_addSpit_3 : decode cL_addSpit 3 = .ok (.iload_n 1, 1) := by decide +kernel
theorem dL_addSpit_4 : decode cL_addSpit 4 = .ok (.iload_n 2, 1) := by decide +kernel
theorem dL_addSpit_5 : decode cL_addSpit 5 = .ok (.invokevirtual 23, 3) := by decide +kernel
theorem dL_addSpit_8 : decode cL_addSpit 8 = .ok (.i2l, 1) := by decide +kernel
theorem dL_addSpit_9 : decode cL_addSpit 9 = .ok (.lastore, 1) := by decide +kernel
theorem dL_addSpit_10 : decode cL_addSpit 10 = .ok (.goto 15, 3) := by decide +kernel
theorem dL_addSpit_13 : decode cL_addSpit 13 = .ok (.astore 4, 2) := by decide +kernel
theorem dL_addSpit_15 : decode cL_addSpit 15 = .ok (.iconst 1, 1) := by decide +kernel
theorem dL_addSpit_16 : decode cL_addSpit 16 = .ok (.ireturn, 1) := by decide +kernel
theorem dL_addSpit_17 : decode cL_addSpit 17 = .ok (.astore 4, 2) := by decide +kernel
theorem dL_addSpit_19 : decode cL_addSpit 19 = .ok (.iconst 2, 1) := by decide +kernel
theorem dL_addSpit_20 : decode cL_addSpit 20 = .ok (.ireturn, 1) := by decide +kernel
theorem dL_addSpit_21 : decode cL_addSpit 21 = .ok (.astore 4, 2) := by decide +kernel
theorem dL_addSpit_23 : decode cL_addSpit 23 = .ok (.iconst 3, 1) := by decide +kernel
theorem dL_addSpit_24 : decode cL_addSpit 24 = .ok (.ireturn, 1) := by decide +kernel
theorem dL_addSpit_25 : decode cL_addSpit 25 = .ok (.iconst 0, 1) := by decide +kernel
theorem dL_addSpit_26 : decode cL_addSpit 26 = .ok (.ireturn, 1) := by decide +kernel
theorem dL_moveSpit_0 : decode cL_moveSpit 0 = .ok (.aload_n 3, 1) := by decide +kernel
theorem dL_moveSpit_1 : decode cL_moveSpit 1 = .ok (.iconst 0, 1) := by decide +kernel
theorem dL_moveSpit_2 : decode cL_moveSpit 2 = .ok (.aload_n 0, 1) := by decide +kernel
theorem dL_moveSpit_3 : decode cL_moveSpit 3 = .ok (.iload_n 1, 1) := by decide +kernel
theorem dL_moveSpit_4 : decode cL_moveSpit 4 = .ok (.iload_n 2, 1) := by decide +kernel
theorem dL_moveSpit_5 : decode cL_moveSpit 5 = .ok (.invokevirtual 26, 3) := by decide +kernel
theorem dL_moveSpit_8 : decode cL_moveSpit 8 = .ok (.i2l, 1) := by decide +kernel
theorem dL_moveSpit_9 : decode cL_moveSpit 9 = .ok (.lastore, 1) := by decide +kernel
theorem dL_moveSpit_10 : decode cL_moveSpit 10 = .ok (.goto 11, 3) := by decide +kernel
theorem dL_moveSpit_13 : decode cL_moveSpit 13 = .ok (.astore 4, 2) := by decide +kernel
theorem dL_moveSpit_15 : decode cL_moveSpit 15 = .ok (.iconst 1, 1) := by decide +kernel
theorem dL_moveSpit_16 : decode cL_moveSpit 16 = .ok (.ireturn, 1) := by decide +kernel
theorem dL_moveSpit_17 : decode cL_moveSpit 17 = .ok (.astore 4, 2) := by decide +kernel
theorem dL_moveSpit_19 : decode cL_moveSpit 19 = .ok (.iconst 2, 1) := by decide +kernel
theorem dL_moveSpit_20 : decode cL_moveSpit 20 = .ok (.ireturn, 1) := by decide +kernel
theorem dL_moveSpit_21 : decode cL_moveSpit 21 = .ok (.iconst 0, 1) := by decide +kernel
theorem dL_moveSpit_22 : decode cL_moveSpit 22 = .ok (.ireturn, 1) := by decide +kernel
theorem dL_turnEach_0 : decode cL_turnEach 0 = .ok (.aload_n 3, 1) := by decide +kernel
theorem dL_turnEach_1 : decode cL_turnEach 1 = .ok (.iconst 0, 1) := by decide +kernel
theorem dL_turnEach_2 : decode cL_turnEach 2 = .ok (.aload_n 0, 1) := by decide +kernel
theorem dL_turnEach_3 : decode cL_turnEach 3 = .ok (.iload_n 1, 1) := by decide +kernel
theorem dL_turnEach_4 : decode cL_turnEach 4 = .ok (.iload_n 2, 1) := by decide +kernel
theorem dL_turnEach_5 : decode cL_turnEach 5 = .ok (.invokevirtual 29, 3) := by decide +kernel
theorem dL_turnEach_8 : decode cL_turnEach 8 = .ok (.i2l, 1) := by decide +kernel
theorem dL_turnEach_9 : decode cL_turnEach 9 = .ok (.lastore, 1) := by decide +kernel
theorem dL_turnEach_10 : decode cL_turnEach 10 = .ok (.goto 11, 3) := by decide +kernel
theorem dL_turnEach_13 : decode cL_turnEach 13 = .ok (.astore 4, 2) := by decide +kernel
theorem dL_turnEach_15 : decode cL_turnEach 15 = .ok (.iconst 1, 1) := by decide +kernel
theorem dL_turnEach_16 : decode cL_turnEach 16 = .ok (.ireturn, 1) := by decide +kernel
theorem dL_turnEach_17 : decode cL_turnEach 17 = .ok (.astore 4, 2) := by decide +kernel
theorem dL_turnEach_19 : decode cL_turnEach 19 = .ok (.iconst 2, 1) := by decide +kernel
theorem dL_turnEach_20 : decode cL_turnEach 20 = .ok (.ireturn, 1) := by decide +kernel
theorem dL_turnEach_21 : decode cL_turnEach 21 = .ok (.iconst 0, 1) := by decide +kernel
theorem dL_turnEach_22 : decode cL_turnEach 22 = .ok (.ireturn, 1) := by decide +kernel
theorem dL_setFeast_0 : decode cL_setFeast 0 = .ok (.aload_n 2, 1) := by decide +kernel
theorem dL_setFeast_1 : decode cL_setFeast 1 = .ok (.iconst 0, 1) := by decide +kernel
theorem dL_setFeast_2 : decode cL_setFeast 2 = .ok (.aload_n 0, 1) := by decide +kernel
theorem dL_setFeast_3 : decode cL_setFeast 3 = .ok (.iload_n 1, 1) := by decide +kernel
theorem dL_setFeast_4 : decode cL_setFeast 4 = .ok (.invokevirtual 32, 3) := by decide +kernel
theorem dL_setFeast_7 : decode cL_setFeast 7 = .ok (.i2l, 1) := by decide +kernel
theorem dL_setFeast_8 : decode cL_setFeast 8 = .ok (.lastore, 1) := by decide +kernel
theorem dL_setFeast_9 : decode cL_setFeast 9 = .ok (.goto 6, 3) := by decide +kernel
theorem dL_setFeast_12 : decode cL_setFeast 12 = .ok (.astore_n 3, 1) := by decide +kernel
theorem dL_setFeast_13 : decode cL_setFeast 13 = .ok (.iconst 1, 1) := by decide +kernel
theorem dL_setFeast_14 : decode cL_setFeast 14 = .ok (.ireturn, 1) := by decide +kernel
theorem dL_setFeast_15 : decode cL_setFeast 15 = .ok (.iconst 0, 1) := by decide +kernel
theorem dL_setFeast_16 : decode cL_setFeast 16 = .ok (.ireturn, 1) := by decide +kernel
theorem dL_hang_0 : decode cL_hang 0 = .ok (.aload_n 3, 1) := by decide +kernel
theorem dL_hang_1 : decode cL_hang 1 = .ok (.iconst 0, 1) := by decide +kernel
theorem dL_hang_2 : decode cL_hang 2 = .ok (.aload_n 0, 1) := by decide +kernel
theorem dL_hang_3 : decode cL_hang 3 = .ok (.iload_n 1, 1) := by decide +kernel
theorem dL_hang_4 : decode cL_hang 4 = .ok (.iload_n 2, 1) := by decide +kernel
theorem dL_hang_5 : decode cL_hang 5 = .ok (.invokevirtual 36, 3) := by decide +kernel
theorem dL_hang_8 : decode cL_hang 8 = .ok (.i2l, 1) := by decide +kernel
theorem dL_hang_9 : decode cL_hang 9 = .ok (.lastore, 1) := by decide +kernel
theorem dL_hang_10 : decode cL_hang 10 = .ok (.goto 15, 3) := by decide +kernel
theorem dL_hang_13 : decode cL_hang 13 = .ok (.astore 4, 2) := by decide +kernel
theorem dL_hang_15 : decode cL_hang 15 = .ok (.iconst 1, 1) := by decide +kernel
theorem dL_hang_16 : decode cL_hang 16 = .ok (.ireturn, 1) := by decide +kernel
theorem dL_hang_17 : decode cL_hang 17 = .ok (.astore 4, 2) := by decide +kernel
theorem dL_hang_19 : decode cL_hang 19 = .ok (.iconst 2, 1) := by decide +kernel
theorem dL_hang_20 : decode cL_hang 20 = .ok (.ireturn, 1) := by decide +kernel
theorem dL_hang_21 : decode cL_hang 21 = .ok (.astore 4, 2) := by decide +kernel
theorem dL_hang_23 : decode cL_hang 23 = .ok (.iconst 3, 1) := by decide +kernel
theorem dL_hang_24 : decode cL_hang 24 = .ok (.ireturn, 1) := by decide +kernel
theorem dL_hang_25 : decode cL_hang 25 = .ok (.iconst 0, 1) := by decide +kernel
theorem dL_hang_26 : decode cL_hang 26 = .ok (.ireturn, 1) := by decide +kernel
theorem dL_turnNow_0 : decode cL_turnNow 0 = .ok (.aload_n 2, 1) := by decide +kernel
theorem dL_turnNow_1 : decode cL_turnNow 1 = .ok (.iconst 0, 1) := by decide +kernel
theorem dL_turnNow_2 : decode cL_turnNow 2 = .ok (.aload_n 0, 1) := by decide +kernel
theorem dL_turnNow_3 : decode cL_turnNow 3 = .ok (.iload_n 1, 1) := by decide +kernel
theorem dL_turnNow_4 : decode cL_turnNow 4 = .ok (.invokevirtual 39, 3) := by decide +kernel
theorem dL_turnNow_7 : decode cL_turnNow 7 = .ok (.i2l, 1) := by decide +kernel
theorem dL_turnNow_8 : decode cL_turnNow 8 = .ok (.lastore, 1) := by decide +kernel
theorem dL_turnNow_9 : decode cL_turnNow 9 = .ok (.goto 9, 3) := by decide +kernel
theorem dL_turnNow_12 : decode cL_turnNow 12 = .ok (.astore_n 3, 1) := by decide +kernel
theorem dL_turnNow_13 : decode cL_turnNow 13 = .ok (.iconst 1, 1) := by decide +kernel
theorem dL_turnNow_14 : decode cL_turnNow 14 = .ok (.ireturn, 1) := by decide +kernel
theorem dL_turnNow_15 : decode cL_turnNow 15 = .ok (.astore_n 3, 1) := by decide +kernel
theorem dL_turnNow_16 : decode cL_turnNow 16 = .ok (.iconst 2, 1) := by decide +kernel
theorem dL_turnNow_17 : decode cL_turnNow 17 = .ok (.ireturn, 1) := by decide +kernel
theorem dL_turnNow_18 : decode cL_turnNow 18 = .ok (.iconst 0, 1) := by decide +kernel
theorem dL_turnNow_19 : decode cL_turnNow 19 = .ok (.ireturn, 1) := by decide +kernel
theorem dL_baste_0 : decode cL_baste 0 = .ok (.aload_n 2, 1) := by decide +kernel
theorem dL_baste_1 : decode cL_baste 1 = .ok (.iconst 0, 1) := by decide +kernel
theorem dL_baste_2 : decode cL_baste 2 = .ok (.aload_n 0, 1) := by decide +kernel
theorem dL_baste_3 : decode cL_baste 3 = .ok (.iload_n 1, 1) := by decide +kernel
theorem dL_baste_4 : decode cL_baste 4 = .ok (.invokevirtual 42, 3) := by decide +kernel
theorem dL_baste_7 : decode cL_baste 7 = .ok (.i2l, 1) := by decide +kernel
theorem dL_baste_8 : decode cL_baste 8 = .ok (.lastore, 1) := by decide +kernel
theorem dL_baste_9 : decode cL_baste 9 = .ok (.goto 9, 3) := by decide +kernel
theorem dL_baste_12 : decode cL_baste 12 = .ok (.astore_n 3, 1) := by decide +kernel
theorem dL_baste_13 : decode cL_baste 13 = .ok (.iconst 1, 1) := by decide +kernel
theorem dL_baste_14 : decode cL_baste 14 = .ok (.ireturn, 1) := by decide +kernel
theorem dL_baste_15 : decode cL_baste 15 = .ok (.astore_n 3, 1) := by decide +kernel
theorem dL_baste_16 : decode cL_baste 16 = .ok (.iconst 2, 1) := by decide +kernel
theorem dL_baste_17 : decode cL_baste 17 = .ok (.ireturn, 1) := by decide +kernel
theorem dL_baste_18 : decode cL_baste 18 = .ok (.iconst 0, 1) := by decide +kernel
theorem dL_baste_19 : decode cL_baste 19 = .ok (.ireturn, 1) := by decide +kernel
theorem dL_takeDown_0 : decode cL_takeDown 0 = .ok (.aload_n 2, 1) := by decide +kernel
theorem dL_takeDown_1 : decode cL_takeDown 1 = .ok (.iconst 0, 1) := by decide +kernel
theorem dL_takeDown_2 : decode cL_takeDown 2 = .ok (.aload_n 0, 1) := by decide +kernel
theorem dL_takeDown_3 : decode cL_takeDown 3 = .ok (.iload_n 1, 1) := by decide +kernel
theorem dL_takeDown_4 : decode cL_takeDown 4 = .ok (.invokevirtual 45, 3) := by decide +kernel
theorem dL_takeDown_7 : decode cL_takeDown 7 = .ok (.i2l, 1) := by decide +kernel
theorem dL_takeDown_8 : decode cL_takeDown 8 = .ok (.lastore, 1) := by decide +kernel
theorem dL_takeDown_9 : decode cL_takeDown 9 = .ok (.goto 9, 3) := by decide +kernel
theorem dL_takeDown_12 : decode cL_takeDown 12 = .ok (.astore_n 3, 1) := by decide +kernel
theorem dL_takeDown_13 : decode cL_takeDown 13 = .ok (.iconst 1, 1) := by decide +kernel
theorem dL_takeDown_14 : decode cL_takeDown 14 = .ok (.ireturn, 1) := by decide +kernel
theorem dL_takeDown_15 : decode cL_takeDown 15 = .ok (.astore_n 3, 1) := by decide +kernel
theorem dL_takeDown_16 : decode cL_takeDown 16 = .ok (.iconst 2, 1) := by decide +kernel
theorem dL_takeDown_17 : decode cL_takeDown 17 = .ok (.ireturn, 1) := by decide +kernel
theorem dL_takeDown_18 : decode cL_takeDown 18 = .ok (.iconst 0, 1) := by decide +kernel
theorem dL_takeDown_19 : decode cL_takeDown 19 = .ok (.ireturn, 1) := by decide +kernel
theorem dL_emptyPan_0 : decode cL_emptyPan 0 = .ok (.aload_n 2, 1) := by decide +kernel
theorem dL_emptyPan_1 : decode cL_emptyPan 1 = .ok (.iconst 0, 1) := by decide +kernel
theorem dL_emptyPan_2 : decode cL_emptyPan 2 = .ok (.aload_n 0, 1) := by decide +kernel
theorem dL_emptyPan_3 : decode cL_emptyPan 3 = .ok (.iload_n 1, 1) := by decide +kernel
theorem dL_emptyPan_4 : decode cL_emptyPan 4 = .ok (.invokevirtual 48, 3) := by decide +kernel
theorem dL_emptyPan_7 : decode cL_emptyPan 7 = .ok (.i2l, 1) := by decide +kernel
theorem dL_emptyPan_8 : decode cL_emptyPan 8 = .ok (.lastore, 1) := by decide +kernel
theorem dL_emptyPan_9 : decode cL_emptyPan 9 = .ok (.goto 6, 3) := by decide +kernel
theorem dL_emptyPan_12 : decode cL_emptyPan 12 = .ok (.astore_n 3, 1) := by decide +kernel
theorem dL_emptyPan_13 : decode cL_emptyPan 13 = .ok (.iconst 1, 1) := by decide +kernel
theorem dL_emptyPan_14 : decode cL_emptyPan 14 = .ok (.ireturn, 1) := by decide +kernel
theorem dL_emptyPan_15 : decode cL_emptyPan 15 = .ok (.iconst 0, 1) := by decide +kernel
theorem dL_emptyPan_16 : decode cL_emptyPan 16 = .ok (.ireturn, 1) := by decide +kernel
theorem dL_pass_0 : decode cL_pass 0 = .ok (.aload_n 2, 1) := by decide +kernel
theorem dL_pass_1 : decode cL_pass 1 = .ok (.iconst 0, 1) := by decide +kernel
theorem dL_pass_2 : decode cL_pass 2 = .ok (.aload_n 0, 1) := by decide +kernel
theorem dL_pass_3 : decode cL_pass 3 = .ok (.iload_n 1, 1) := by decide +kernel
theorem dL_pass_4 : decode cL_pass 4 = .ok (.invokevirtual 51, 3) := by decide +kernel
theorem dL_pass_7 : decode cL_pass 7 = .ok (.i2l, 1) := by decide +kernel
theorem dL_pass_8 : decode cL_pass 8 = .ok (.lastore, 1) := by decide +kernel
theorem dL_pass_9 : decode cL_pass 9 = .ok (.goto 6, 3) := by decide +kernel
theorem dL_pass_12 : decode cL_pass 12 = .ok (.astore_n 3, 1) := by decide +kernel
theorem dL_pass_13 : decode cL_pass 13 = .ok (.iconst 1, 1) := by decide +kernel
theorem dL_pass_14 : decode cL_pass 14 = .ok (.ireturn, 1) := by decide +kernel
theorem dL_pass_15 : decode cL_pass 15 = .ok (.iconst 0, 1) := by decide +kernel
theorem dL_pass_16 : decode cL_pass 16 = .ok (.ireturn, 1) := by decide +kernel
theorem dL_logsOf_0 : decode cL_logsOf 0 = .ok (.aload_n 2, 1) := by decide +kernel
theorem dL_logsOf_1 : decode cL_logsOf 1 = .ok (.iconst 0, 1) := by decide +kernel
theorem dL_logsOf_2 : decode cL_logsOf 2 = .ok (.aload_n 0, 1) := by decide +kernel
theorem dL_logsOf_3 : decode cL_logsOf 3 = .ok (.iload_n 1, 1) := by decide +kernel
theorem dL_logsOf_4 : decode cL_logsOf 4 = .ok (.invokevirtual 54, 3) := by decide +kernel
theorem dL_logsOf_7 : decode cL_logsOf 7 = .ok (.i2l, 1) := by decide +kernel
theorem dL_logsOf_8 : decode cL_logsOf 8 = .ok (.lastore, 1) := by decide +kernel
theorem dL_logsOf_9 : decode cL_logsOf 9 = .ok (.goto 6, 3) := by decide +kernel
theorem dL_logsOf_12 : decode cL_logsOf 12 = .ok (.astore_n 3, 1) := by decide +kernel
theorem dL_logsOf_13 : decode cL_logsOf 13 = .ok (.iconst 1, 1) := by decide +kernel
theorem dL_logsOf_14 : decode cL_logsOf 14 = .ok (.ireturn, 1) := by decide +kernel
theorem dL_logsOf_15 : decode cL_logsOf 15 = .ok (.iconst 0, 1) := by decide +kernel
theorem dL_logsOf_16 : decode cL_logsOf 16 = .ok (.ireturn, 1) := by decide +kernel
theorem dL_heatOf_0 : decode cL_heatOf 0 = .ok (.aload_n 2, 1) := by decide +kernel
theorem dL_heatOf_1 : decode cL_heatOf 1 = .ok (.iconst 0, 1) := by decide +kernel
theorem dL_heatOf_2 : decode cL_heatOf 2 = .ok (.aload_n 0, 1) := by decide +kernel
theorem dL_heatOf_3 : decode cL_heatOf 3 = .ok (.iload_n 1, 1) := by decide +kernel
theorem dL_heatOf_4 : decode cL_heatOf 4 = .ok (.invokevirtual 57, 3) := by decide +kernel
theorem dL_heatOf_7 : decode cL_heatOf 7 = .ok (.i2l, 1) := by decide +kernel
theorem dL_heatOf_8 : decode cL_heatOf 8 = .ok (.lastore, 1) := by decide +kernel
theorem dL_heatOf_9 : decode cL_heatOf 9 = .ok (.goto 6, 3) := by decide +kernel
theorem dL_heatOf_12 : decode cL_heatOf 12 = .ok (.astore_n 3, 1) := by decide +kernel
theorem dL_heatOf_13 : decode cL_heatOf 13 = .ok (.iconst 1, 1) := by decide +kernel
theorem dL_heatOf_14 : decode cL_heatOf 14 = .ok (.ireturn, 1) := by decide +kernel
theorem dL_heatOf_15 : decode cL_heatOf 15 = .ok (.iconst 0, 1) := by decide +kernel
theorem dL_heatOf_16 : decode cL_heatOf 16 = .ok (.ireturn, 1) := by decide +kernel
theorem dL_fireOf_0 : decode cL_fireOf 0 = .ok (.aload_n 2, 1) := by decide +kernel
theorem dL_fireOf_1 : decode cL_fireOf 1 = .ok (.iconst 0, 1) := by decide +kernel
theorem dL_fireOf_2 : decode cL_fireOf 2 = .ok (.aload_n 0, 1) := by decide +kernel
theorem dL_fireOf_3 : decode cL_fireOf 3 = .ok (.iload_n 1, 1) := by decide +kernel
theorem dL_fireOf_4 : decode cL_fireOf 4 = .ok (.invokevirtual 60, 3) := by decide +kernel
theorem dL_fireOf_7 : decode cL_fireOf 7 = .ok (.i2l, 1) := by decide +kernel
theorem dL_fireOf_8 : decode cL_fireOf 8 = .ok (.lastore, 1) := by decide +kernel
theorem dL_fireOf_9 : decode cL_fireOf 9 = .ok (.goto 6, 3) := by decide +kernel
theorem dL_fireOf_12 : decode cL_fireOf 12 = .ok (.astore_n 3, 1) := by decide +kernel
theorem dL_fireOf_13 : decode cL_fireOf 13 = .ok (.iconst 1, 1) := by decide +kernel
theorem dL_fireOf_14 : decode cL_fireOf 14 = .ok (.ireturn, 1) := by decide +kernel
theorem dL_fireOf_15 : decode cL_fireOf 15 = .ok (.iconst 0, 1) := by decide +kernel
theorem dL_fireOf_16 : decode cL_fireOf 16 = .ok (.ireturn, 1) := by decide +kernel
theorem dL_feetOf_0 : decode cL_feetOf 0 = .ok (.aload_n 2, 1) := by decide +kernel
theorem dL_feetOf_1 : decode cL_feetOf 1 = .ok (.iconst 0, 1) := by decide +kernel
theorem dL_feetOf_2 : decode cL_feetOf 2 = .ok (.aload_n 0, 1) := by decide +kernel
theorem dL_feetOf_3 : decode cL_feetOf 3 = .ok (.iload_n 1, 1) := by decide +kernel
theorem dL_feetOf_4 : decode cL_feetOf 4 = .ok (.invokevirtual 63, 3) := by decide +kernel
theorem dL_feetOf_7 : decode cL_feetOf 7 = .ok (.i2l, 1) := by decide +kernel
theorem dL_feetOf_8 : decode cL_feetOf 8 = .ok (.lastore, 1) := by decide +kernel
theorem dL_feetOf_9 : decode cL_feetOf 9 = .ok (.goto 6, 3) := by decide +kernel
theorem dL_feetOf_12 : decode cL_feetOf 12 = .ok (.astore_n 3, 1) := by decide +kernel
theorem dL_feetOf_13 : decode cL_feetOf 13 = .ok (.iconst 1, 1) := by decide +kernel
theorem dL_feetOf_14 : decode cL_feetOf 14 = .ok (.ireturn, 1) := by decide +kernel
theorem dL_feetOf_15 : decode cL_feetOf 15 = .ok (.iconst 0, 1) := by decide +kernel
theorem dL_feetOf_16 : decode cL_feetOf 16 = .ok (.ireturn, 1) := by decide +kernel
theorem dL_glowAt_0 : decode cL_glowAt 0 = .ok (.aload_n 2, 1) := by decide +kernel
theorem dL_glowAt_1 : decode cL_glowAt 1 = .ok (.iconst 0, 1) := by decide +kernel
theorem dL_glowAt_2 : decode cL_glowAt 2 = .ok (.aload_n 0, 1) := by decide +kernel
theorem dL_glowAt_3 : decode cL_glowAt 3 = .ok (.iload_n 1, 1) := by decide +kernel
theorem dL_glowAt_4 : decode cL_glowAt 4 = .ok (.invokevirtual 66, 3) := by decide +kernel
theorem dL_glowAt_7 : decode cL_glowAt 7 = .ok (.i2l, 1) := by decide +kernel
theorem dL_glowAt_8 : decode cL_glowAt 8 = .ok (.lastore, 1) := by decide +kernel
theorem dL_glowAt_9 : decode cL_glowAt 9 = .ok (.goto 6, 3) := by decide +kernel
theorem dL_glowAt_12 : decode cL_glowAt 12 = .ok (.astore_n 3, 1) := by decide +kernel
theorem dL_glowAt_13 : decode cL_glowAt 13 = .ok (.iconst 1, 1) := by decide +kernel
theorem dL_glowAt_14 : decode cL_glowAt 14 = .ok (.ireturn, 1) := by decide +kernel
theorem dL_glowAt_15 : decode cL_glowAt 15 = .ok (.iconst 0, 1) := by decide +kernel
theorem dL_glowAt_16 : decode cL_glowAt 16 = .ok (.ireturn, 1) := by decide +kernel
theorem dL_turnedEach_0 : decode cL_turnedEach 0 = .ok (.aload_n 2, 1) := by decide +kernel
theorem dL_turnedEach_1 : decode cL_turnedEach 1 = .ok (.iconst 0, 1) := by decide +kernel
theorem dL_turnedEach_2 : decode cL_turnedEach 2 = .ok (.aload_n 0, 1) := by decide +kernel
theorem dL_turnedEach_3 : decode cL_turnedEach 3 = .ok (.iload_n 1, 1) := by decide +kernel
theorem dL_turnedEach_4 : decode cL_turnedEach 4 = .ok (.invokevirtual 69, 3) := by decide +kernel
theorem dL_turnedEach_7 : decode cL_turnedEach 7 = .ok (.i2l, 1) := by decide +kernel
theorem dL_turnedEach_8 : decode cL_turnedEach 8 = .ok (.lastore, 1) := by decide +kernel
theorem dL_turnedEach_9 : decode cL_turnedEach 9 = .ok (.goto 6, 3) := by decide +kernel
theorem dL_turnedEach_12 : decode cL_turnedEach 12 = .ok (.astore_n 3, 1) := by decide +kernel
theorem dL_turnedEach_13 : decode cL_turnedEach 13 = .ok (.iconst 1, 1) := by decide +kernel
theorem dL_turnedEach_14 : decode cL_turnedEach 14 = .ok (.ireturn, 1) := by decide +kernel
theorem dL_turnedEach_15 : decode cL_turnedEach 15 = .ok (.iconst 0, 1) := by decide +kernel
theorem dL_turnedEach_16 : decode cL_turnedEach 16 = .ok (.ireturn, 1) := by decide +kernel
theorem dL_drippingsOf_0 : decode cL_drippingsOf 0 = .ok (.aload_n 2, 1) := by decide +kernel
theorem dL_drippingsOf_1 : decode cL_drippingsOf 1 = .ok (.iconst 0, 1) := by decide +kernel
theorem dL_drippingsOf_2 : decode cL_drippingsOf 2 = .ok (.aload_n 0, 1) := by decide +kernel
theorem dL_drippingsOf_3 : decode cL_drippingsOf 3 = .ok (.iload_n 1, 1) := by decide +kernel
theorem dL_drippingsOf_4 : decode cL_drippingsOf 4 = .ok (.invokevirtual 72, 3) := by decide +kernel
theorem dL_drippingsOf_7 : decode cL_drippingsOf 7 = .ok (.i2l, 1) := by decide +kernel
theorem dL_drippingsOf_8 : decode cL_drippingsOf 8 = .ok (.lastore, 1) := by decide +kernel
theorem dL_drippingsOf_9 : decode cL_drippingsOf 9 = .ok (.goto 6, 3) := by decide +kernel
theorem dL_drippingsOf_12 : decode cL_drippingsOf 12 = .ok (.astore_n 3, 1) := by decide +kernel
theorem dL_drippingsOf_13 : decode cL_drippingsOf 13 = .ok (.iconst 1, 1) := by decide +kernel
theorem dL_drippingsOf_14 : decode cL_drippingsOf 14 = .ok (.ireturn, 1) := by decide +kernel
theorem dL_drippingsOf_15 : decode cL_drippingsOf 15 = .ok (.iconst 0, 1) := by decide +kernel
theorem dL_drippingsOf_16 : decode cL_drippingsOf 16 = .ok (.ireturn, 1) := by decide +kernel
theorem dL_roastOn_0 : decode cL_roastOn 0 = .ok (.aload_n 2, 1) := by decide +kernel
theorem dL_roastOn_1 : decode cL_roastOn 1 = .ok (.iconst 0, 1) := by decide +kernel
theorem dL_roastOn_2 : decode cL_roastOn 2 = .ok (.aload_n 0, 1) := by decide +kernel
theorem dL_roastOn_3 : decode cL_roastOn 3 = .ok (.iload_n 1, 1) := by decide +kernel
theorem dL_roastOn_4 : decode cL_roastOn 4 = .ok (.invokevirtual 75, 3) := by decide +kernel
theorem dL_roastOn_7 : decode cL_roastOn 7 = .ok (.i2l, 1) := by decide +kernel
theorem dL_roastOn_8 : decode cL_roastOn 8 = .ok (.lastore, 1) := by decide +kernel
theorem dL_roastOn_9 : decode cL_roastOn 9 = .ok (.goto 6, 3) := by decide +kernel
theorem dL_roastOn_12 : decode cL_roastOn 12 = .ok (.astore_n 3, 1) := by decide +kernel
theorem dL_roastOn_13 : decode cL_roastOn 13 = .ok (.iconst 1, 1) := by decide +kernel
theorem dL_roastOn_14 : decode cL_roastOn 14 = .ok (.ireturn, 1) := by decide +kernel
theorem dL_roastOn_15 : decode cL_roastOn 15 = .ok (.iconst 0, 1) := by decide +kernel
theorem dL_roastOn_16 : decode cL_roastOn 16 = .ok (.ireturn, 1) := by decide +kernel
theorem dL_poundsOf_0 : decode cL_poundsOf 0 = .ok (.aload_n 2, 1) := by decide +kernel
theorem dL_poundsOf_1 : decode cL_poundsOf 1 = .ok (.iconst 0, 1) := by decide +kernel
theorem dL_poundsOf_2 : decode cL_poundsOf 2 = .ok (.aload_n 0, 1) := by decide +kernel
theorem dL_poundsOf_3 : decode cL_poundsOf 3 = .ok (.iload_n 1, 1) := by decide +kernel
theorem dL_poundsOf_4 : decode cL_poundsOf 4 = .ok (.invokevirtual 78, 3) := by decide +kernel
theorem dL_poundsOf_7 : decode cL_poundsOf 7 = .ok (.i2l, 1) := by decide +kernel
theorem dL_poundsOf_8 : decode cL_poundsOf 8 = .ok (.lastore, 1) := by decide +kernel
theorem dL_poundsOf_9 : decode cL_poundsOf 9 = .ok (.goto 6, 3) := by decide +kernel
theorem dL_poundsOf_12 : decode cL_poundsOf 12 = .ok (.astore_n 3, 1) := by decide +kernel
theorem dL_poundsOf_13 : decode cL_poundsOf 13 = .ok (.iconst 1, 1) := by decide +kernel
theorem dL_poundsOf_14 : decode cL_poundsOf 14 = .ok (.ireturn, 1) := by decide +kernel
theorem dL_poundsOf_15 : decode cL_poundsOf 15 = .ok (.iconst 0, 1) := by decide +kernel
theorem dL_poundsOf_16 : decode cL_poundsOf 16 = .ok (.ireturn, 1) := by decide +kernel
theorem dL_spitOf_0 : decode cL_spitOf 0 = .ok (.aload_n 2, 1) := by decide +kernel
theorem dL_spitOf_1 : decode cL_spitOf 1 = .ok (.iconst 0, 1) := by decide +kernel
theorem dL_spitOf_2 : decode cL_spitOf 2 = .ok (.aload_n 0, 1) := by decide +kernel
theorem dL_spitOf_3 : decode cL_spitOf 3 = .ok (.iload_n 1, 1) := by decide +kernel
theorem dL_spitOf_4 : decode cL_spitOf 4 = .ok (.invokevirtual 81, 3) := by decide +kernel
theorem dL_spitOf_7 : decode cL_spitOf 7 = .ok (.i2l, 1) := by decide +kernel
theorem dL_spitOf_8 : decode cL_spitOf 8 = .ok (.lastore, 1) := by decide +kernel
theorem dL_spitOf_9 : decode cL_spitOf 9 = .ok (.goto 6, 3) := by decide +kernel
theorem dL_spitOf_12 : decode cL_spitOf 12 = .ok (.astore_n 3, 1) := by decide +kernel
theorem dL_spitOf_13 : decode cL_spitOf 13 = .ok (.iconst 1, 1) := by decide +kernel
theorem dL_spitOf_14 : decode cL_spitOf 14 = .ok (.ireturn, 1) := by decide +kernel
theorem dL_spitOf_15 : decode cL_spitOf 15 = .ok (.iconst 0, 1) := by decide +kernel
theorem dL_spitOf_16 : decode cL_spitOf 16 = .ok (.ireturn, 1) := by decide +kernel
theorem dL_sideToFire_0 : decode cL_sideToFire 0 = .ok (.aload_n 2, 1) := by decide +kernel
theorem dL_sideToFire_1 : decode cL_sideToFire 1 = .ok (.iconst 0, 1) := by decide +kernel
theorem dL_sideToFire_2 : decode cL_sideToFire 2 = .ok (.aload_n 0, 1) := by decide +kernel
theorem dL_sideToFire_3 : decode cL_sideToFire 3 = .ok (.iload_n 1, 1) := by decide +kernel
theorem dL_sideToFire_4 : decode cL_sideToFire 4 = .ok (.invokevirtual 84, 3) := by decide +kernel
theorem dL_sideToFire_7 : decode cL_sideToFire 7 = .ok (.i2l, 1) := by decide +kernel
theorem dL_sideToFire_8 : decode cL_sideToFire 8 = .ok (.lastore, 1) := by decide +kernel
theorem dL_sideToFire_9 : decode cL_sideToFire 9 = .ok (.goto 6, 3) := by decide +kernel
theorem dL_sideToFire_12 : decode cL_sideToFire 12 = .ok (.astore_n 3, 1) := by decide +kernel
theorem dL_sideToFire_13 : decode cL_sideToFire 13 = .ok (.iconst 1, 1) := by decide +kernel
theorem dL_sideToFire_14 : decode cL_sideToFire 14 = .ok (.ireturn, 1) := by decide +kernel
theorem dL_sideToFire_15 : decode cL_sideToFire 15 = .ok (.iconst 0, 1) := by decide +kernel
theorem dL_sideToFire_16 : decode cL_sideToFire 16 = .ok (.ireturn, 1) := by decide +kernel
theorem dL_brownOf_0 : decode cL_brownOf 0 = .ok (.aload_n 3, 1) := by decide +kernel
theorem dL_brownOf_1 : decode cL_brownOf 1 = .ok (.iconst 0, 1) := by decide +kernel
theorem dL_brownOf_2 : decode cL_brownOf 2 = .ok (.aload_n 0, 1) := by decide +kernel
theorem dL_brownOf_3 : decode cL_brownOf 3 = .ok (.iload_n 1, 1) := by decide +kernel
theorem dL_brownOf_4 : decode cL_brownOf 4 = .ok (.iload_n 2, 1) := by decide +kernel
theorem dL_brownOf_5 : decode cL_brownOf 5 = .ok (.invokevirtual 87, 3) := by decide +kernel
theorem dL_brownOf_8 : decode cL_brownOf 8 = .ok (.i2l, 1) := by decide +kernel
theorem dL_brownOf_9 : decode cL_brownOf 9 = .ok (.lastore, 1) := by decide +kernel
theorem dL_brownOf_10 : decode cL_brownOf 10 = .ok (.goto 7, 3) := by decide +kernel
theorem dL_brownOf_13 : decode cL_brownOf 13 = .ok (.astore 4, 2) := by decide +kernel
theorem dL_brownOf_15 : decode cL_brownOf 15 = .ok (.iconst 1, 1) := by decide +kernel
theorem dL_brownOf_16 : decode cL_brownOf 16 = .ok (.ireturn, 1) := by decide +kernel
theorem dL_brownOf_17 : decode cL_brownOf 17 = .ok (.iconst 0, 1) := by decide +kernel
theorem dL_brownOf_18 : decode cL_brownOf 18 = .ok (.ireturn, 1) := by decide +kernel
theorem dL_fatOf_0 : decode cL_fatOf 0 = .ok (.aload_n 2, 1) := by decide +kernel
theorem dL_fatOf_1 : decode cL_fatOf 1 = .ok (.iconst 0, 1) := by decide +kernel
theorem dL_fatOf_2 : decode cL_fatOf 2 = .ok (.aload_n 0, 1) := by decide +kernel
theorem dL_fatOf_3 : decode cL_fatOf 3 = .ok (.iload_n 1, 1) := by decide +kernel
theorem dL_fatOf_4 : decode cL_fatOf 4 = .ok (.invokevirtual 90, 3) := by decide +kernel
theorem dL_fatOf_7 : decode cL_fatOf 7 = .ok (.i2l, 1) := by decide +kernel
theorem dL_fatOf_8 : decode cL_fatOf 8 = .ok (.lastore, 1) := by decide +kernel
theorem dL_fatOf_9 : decode cL_fatOf 9 = .ok (.goto 6, 3) := by decide +kernel
theorem dL_fatOf_12 : decode cL_fatOf 12 = .ok (.astore_n 3, 1) := by decide +kernel
theorem dL_fatOf_13 : decode cL_fatOf 13 = .ok (.iconst 1, 1) := by decide +kernel
theorem dL_fatOf_14 : decode cL_fatOf 14 = .ok (.ireturn, 1) := by decide +kernel
theorem dL_fatOf_15 : decode cL_fatOf 15 = .ok (.iconst 0, 1) := by decide +kernel
theorem dL_fatOf_16 : decode cL_fatOf 16 = .ok (.ireturn, 1) := by decide +kernel
theorem dL_wetFor_0 : decode cL_wetFor 0 = .ok (.aload_n 2, 1) := by decide +kernel
theorem dL_wetFor_1 : decode cL_wetFor 1 = .ok (.iconst 0, 1) := by decide +kernel
theorem dL_wetFor_2 : decode cL_wetFor 2 = .ok (.aload_n 0, 1) := by decide +kernel
theorem dL_wetFor_3 : decode cL_wetFor 3 = .ok (.iload_n 1, 1) := by decide +kernel
theorem dL_wetFor_4 : decode cL_wetFor 4 = .ok (.invokevirtual 93, 3) := by decide +kernel
theorem dL_wetFor_7 : decode cL_wetFor 7 = .ok (.i2l, 1) := by decide +kernel
theorem dL_wetFor_8 : decode cL_wetFor 8 = .ok (.lastore, 1) := by decide +kernel
theorem dL_wetFor_9 : decode cL_wetFor 9 = .ok (.goto 6, 3) := by decide +kernel
theorem dL_wetFor_12 : decode cL_wetFor 12 = .ok (.astore_n 3, 1) := by decide +kernel
theorem dL_wetFor_13 : decode cL_wetFor 13 = .ok (.iconst 1, 1) := by decide +kernel
theorem dL_wetFor_14 : decode cL_wetFor 14 = .ok (.ireturn, 1) := by decide +kernel
theorem dL_wetFor_15 : decode cL_wetFor 15 = .ok (.iconst 0, 1) := by decide +kernel
theorem dL_wetFor_16 : decode cL_wetFor 16 = .ok (.ireturn, 1) := by decide +kernel
theorem dL_isDone_0 : decode cL_isDone 0 = .ok (.aload_n 2, 1) := by decide +kernel
theorem dL_isDone_1 : decode cL_isDone 1 = .ok (.iconst 0, 1) := by decide +kernel
theorem dL_isDone_2 : decode cL_isDone 2 = .ok (.aload_n 0, 1) := by decide +kernel
theorem dL_isDone_3 : decode cL_isDone 3 = .ok (.iload_n 1, 1) := by decide +kernel
theorem dL_isDone_4 : decode cL_isDone 4 = .ok (.invokevirtual 96, 3) := by decide +kernel
theorem dL_isDone_7 : decode cL_isDone 7 = .ok (.ifCond .eq 7, 3) := by decide +kernel
theorem dL_isDone_10 : decode cL_isDone 10 = .ok (.lconst 1, 1) := by decide +kernel
theorem dL_isDone_11 : decode cL_isDone 11 = .ok (.goto 4, 3) := by decide +kernel
theorem dL_isDone_14 : decode cL_isDone 14 = .ok (.lconst 0, 1) := by decide +kernel
theorem dL_isDone_15 : decode cL_isDone 15 = .ok (.lastore, 1) := by decide +kernel
theorem dL_isDone_16 : decode cL_isDone 16 = .ok (.goto 6, 3) := by decide +kernel
theorem dL_isDone_19 : decode cL_isDone 19 = .ok (.astore_n 3, 1) := by decide +kernel
theorem dL_isDone_20 : decode cL_isDone 20 = .ok (.iconst 1, 1) := by decide +kernel
theorem dL_isDone_21 : decode cL_isDone 21 = .ok (.ireturn, 1) := by decide +kernel
theorem dL_isDone_22 : decode cL_isDone 22 = .ok (.iconst 0, 1) := by decide +kernel
theorem dL_isDone_23 : decode cL_isDone 23 = .ok (.ireturn, 1) := by decide +kernel
theorem dL_isBurnt_0 : decode cL_isBurnt 0 = .ok (.aload_n 2, 1) := by decide +kernel
theorem dL_isBurnt_1 : decode cL_isBurnt 1 = .ok (.iconst 0, 1) := by decide +kernel
theorem dL_isBurnt_2 : decode cL_isBurnt 2 = .ok (.aload_n 0, 1) := by decide +kernel
theorem dL_isBurnt_3 : decode cL_isBurnt 3 = .ok (.iload_n 1, 1) := by decide +kernel
theorem dL_isBurnt_4 : decode cL_isBurnt 4 = .ok (.invokevirtual 100, 3) := by decide +kernel
theorem dL_isBurnt_7 : decode cL_isBurnt 7 = .ok (.ifCond .eq 7, 3) := by decide +kernel
theorem dL_isBurnt_10 : decode cL_isBurnt 10 = .ok (.lconst 1, 1) := by decide +kernel
theorem dL_isBurnt_11 : decode cL_isBurnt 11 = .ok (.goto 4, 3) := by decide +kernel
theorem dL_isBurnt_14 : decode cL_isBurnt 14 = .ok (.lconst 0, 1) := by decide +kernel
theorem dL_isBurnt_15 : decode cL_isBurnt 15 = .ok (.lastore, 1) := by decide +kernel
theorem dL_isBurnt_16 : decode cL_isBurnt 16 = .ok (.goto 6, 3) := by decide +kernel
theorem dL_isBurnt_19 : decode cL_isBurnt 19 = .ok (.astore_n 3, 1) := by decide +kernel
theorem dL_isBurnt_20 : decode cL_isBurnt 20 = .ok (.iconst 1, 1) := by decide +kernel
theorem dL_isBurnt_21 : decode cL_isBurnt 21 = .ok (.ireturn, 1) := by decide +kernel
theorem dL_isBurnt_22 : decode cL_isBurnt 22 = .ok (.iconst 0, 1) := by decide +kernel
theorem dL_isBurnt_23 : decode cL_isBurnt 23 = .ok (.ireturn, 1) := by decide +kernel
theorem dL_minutesUntilDone_0 : decode cL_minutesUntilDone 0 = .ok (.aload_n 2, 1) := by decide +kernel
theorem dL_minutesUntilDone_1 : decode cL_minutesUntilDone 1 = .ok (.iconst 0, 1) := by decide +kernel
theorem dL_minutesUntilDone_2 : decode cL_minutesUntilDone 2 = .ok (.aload_n 0, 1) := by decide +kernel
theorem dL_minutesUntilDone_3 : decode cL_minutesUntilDone 3 = .ok (.iload_n 1, 1) := by decide +kernel
theorem dL_minutesUntilDone_4 : decode cL_minutesUntilDone 4 = .ok (.invokevirtual 103, 3) := by decide +kernel
theorem dL_minutesUntilDone_7 : decode cL_minutesUntilDone 7 = .ok (.i2l, 1) := by decide +kernel
theorem dL_minutesUntilDone_8 : decode cL_minutesUntilDone 8 = .ok (.lastore, 1) := by decide +kernel
theorem dL_minutesUntilDone_9 : decode cL_minutesUntilDone 9 = .ok (.goto 6, 3) := by decide +kernel
theorem dL_minutesUntilDone_12 : decode cL_minutesUntilDone 12 = .ok (.astore_n 3, 1) := by decide +kernel
theorem dL_minutesUntilDone_13 : decode cL_minutesUntilDone 13 = .ok (.iconst 1, 1) := by decide +kernel
theorem dL_minutesUntilDone_14 : decode cL_minutesUntilDone 14 = .ok (.ireturn, 1) := by decide +kernel
theorem dL_minutesUntilDone_15 : decode cL_minutesUntilDone 15 = .ok (.iconst 0, 1) := by decide +kernel
theorem dL_minutesUntilDone_16 : decode cL_minutesUntilDone 16 = .ok (.ireturn, 1) := by decide +kernel
theorem dL_minutesUntilBurnt_0 : decode cL_minutesUntilBurnt 0 = .ok (.aload_n 2, 1) := by decide +kernel
theorem dL_minutesUntilBurnt_1 : decode cL_minutesUntilBurnt 1 = .ok (.iconst 0, 1) := by decide +kernel
theorem dL_minutesUntilBurnt_2 : decode cL_minutesUntilBurnt 2 = .ok (.aload_n 0, 1) := by decide +kernel
theorem dL_minutesUntilBurnt_3 : decode cL_minutesUntilBurnt 3 = .ok (.iload_n 1, 1) := by decide +kernel
theorem dL_minutesUntilBurnt_4 : decode cL_minutesUntilBurnt 4 = .ok (.invokevirtual 106, 3) := by decide +kernel
theorem dL_minutesUntilBurnt_7 : decode cL_minutesUntilBurnt 7 = .ok (.i2l, 1) := by decide +kernel
theorem dL_minutesUntilBurnt_8 : decode cL_minutesUntilBurnt 8 = .ok (.lastore, 1) := by decide +kernel
theorem dL_minutesUntilBurnt_9 : decode cL_minutesUntilBurnt 9 = .ok (.goto 6, 3) := by decide +kernel
theorem dL_minutesUntilBurnt_12 : decode cL_minutesUntilBurnt 12 = .ok (.astore_n 3, 1) := by decide +kernel
theorem dL_minutesUntilBurnt_13 : decode cL_minutesUntilBurnt 13 = .ok (.iconst 1, 1) := by decide +kernel
theorem dL_minutesUntilBurnt_14 : decode cL_minutesUntilBurnt 14 = .ok (.ireturn, 1) := by decide +kernel
theorem dL_minutesUntilBurnt_15 : decode cL_minutesUntilBurnt 15 = .ok (.iconst 0, 1) := by decide +kernel
theorem dL_minutesUntilBurnt_16 : decode cL_minutesUntilBurnt 16 = .ok (.ireturn, 1) := by decide +kernel
theorem dL_bestEach_0 : decode cL_bestEach 0 = .ok (.aload_n 2, 1) := by decide +kernel
theorem dL_bestEach_1 : decode cL_bestEach 1 = .ok (.iconst 0, 1) := by decide +kernel
theorem dL_bestEach_2 : decode cL_bestEach 2 = .ok (.aload_n 0, 1) := by decide +kernel
theorem dL_bestEach_3 : decode cL_bestEach 3 = .ok (.iload_n 1, 1) := by decide +kernel
theorem dL_bestEach_4 : decode cL_bestEach 4 = .ok (.invokevirtual 109, 3) := by decide +kernel
theorem dL_bestEach_7 : decode cL_bestEach 7 = .ok (.i2l, 1) := by decide +kernel
theorem dL_bestEach_8 : decode cL_bestEach 8 = .ok (.lastore, 1) := by decide +kernel
theorem dL_bestEach_9 : decode cL_bestEach 9 = .ok (.goto 6, 3) := by decide +kernel
theorem dL_bestEach_12 : decode cL_bestEach 12 = .ok (.astore_n 3, 1) := by decide +kernel
theorem dL_bestEach_13 : decode cL_bestEach 13 = .ok (.iconst 1, 1) := by decide +kernel
theorem dL_bestEach_14 : decode cL_bestEach 14 = .ok (.ireturn, 1) := by decide +kernel
theorem dL_bestEach_15 : decode cL_bestEach 15 = .ok (.iconst 0, 1) := by decide +kernel
theorem dL_bestEach_16 : decode cL_bestEach 16 = .ok (.ireturn, 1) := by decide +kernel
theorem dL_bestSpit_0 : decode cL_bestSpit 0 = .ok (.aload_n 2, 1) := by decide +kernel
theorem dL_bestSpit_1 : decode cL_bestSpit 1 = .ok (.iconst 0, 1) := by decide +kernel
theorem dL_bestSpit_2 : decode cL_bestSpit 2 = .ok (.aload_n 0, 1) := by decide +kernel
theorem dL_bestSpit_3 : decode cL_bestSpit 3 = .ok (.iload_n 1, 1) := by decide +kernel
theorem dL_bestSpit_4 : decode cL_bestSpit 4 = .ok (.invokevirtual 112, 3) := by decide +kernel
theorem dL_bestSpit_7 : decode cL_bestSpit 7 = .ok (.i2l, 1) := by decide +kernel
theorem dL_bestSpit_8 : decode cL_bestSpit 8 = .ok (.lastore, 1) := by decide +kernel
theorem dL_bestSpit_9 : decode cL_bestSpit 9 = .ok (.goto 9, 3) := by decide +kernel
theorem dL_bestSpit_12 : decode cL_bestSpit 12 = .ok (.astore_n 3, 1) := by decide +kernel
theorem dL_bestSpit_13 : decode cL_bestSpit 13 = .ok (.iconst 1, 1) := by decide +kernel
theorem dL_bestSpit_14 : decode cL_bestSpit 14 = .ok (.ireturn, 1) := by decide +kernel
theorem dL_bestSpit_15 : decode cL_bestSpit 15 = .ok (.astore_n 3, 1) := by decide +kernel
theorem dL_bestSpit_16 : decode cL_bestSpit 16 = .ok (.iconst 2, 1) := by decide +kernel
theorem dL_bestSpit_17 : decode cL_bestSpit 17 = .ok (.ireturn, 1) := by decide +kernel
theorem dL_bestSpit_18 : decode cL_bestSpit 18 = .ok (.iconst 0, 1) := by decide +kernel
theorem dL_bestSpit_19 : decode cL_bestSpit 19 = .ok (.ireturn, 1) := by decide +kernel
theorem dL_law_0 : decode cL_law 0 = .ok (.new 8, 3) := by decide +kernel
theorem dL_law_3 : decode cL_law 3 = .ok (.dup, 1) := by decide +kernel
theorem dL_law_4 : decode cL_law 4 = .ok (.invokespecial 115, 3) := by decide +kernel
theorem dL_law_7 : decode cL_law 7 = .ok (.astore_n 1, 1) := by decide +kernel
theorem dL_law_8 : decode cL_law 8 = .ok (.new 116, 3) := by decide +kernel
theorem dL_law_11 : decode cL_law 11 = .ok (.dup, 1) := by decide +kernel
theorem dL_law_12 : decode cL_law 12 = .ok (.invokespecial 118, 3) := by decide +kernel
theorem dL_law_15 : decode cL_law 15 = .ok (.astore_n 2, 1) := by decide +kernel
theorem dL_law_16 : decode cL_law 16 = .ok (.iconst 1, 1) := by decide +kernel
theorem dL_law_17 : decode cL_law 17 = .ok (.newarray .long, 2) := by decide +kernel
theorem dL_law_19 : decode cL_law 19 = .ok (.astore_n 3, 1) := by decide +kernel
theorem dL_law_20 : decode cL_law 20 = .ok (.iconst 0, 1) := by decide +kernel
theorem dL_law_21 : decode cL_law 21 = .ok (.istore 4, 2) := by decide +kernel
theorem dL_law_23 : decode cL_law 23 = .ok (.iload 4, 2) := by decide +kernel
theorem dL_law_25 : decode cL_law 25 = .ok (.aload_n 0, 1) := by decide +kernel
theorem dL_law_26 : decode cL_law 26 = .ok (.arraylength, 1) := by decide +kernel
theorem dL_law_27 : decode cL_law 27 = .ok (.iconst 3, 1) := by decide +kernel
theorem dL_law_28 : decode cL_law 28 = .ok (.isub, 1) := by decide +kernel
theorem dL_law_29 : decode cL_law 29 = .ok (.if_icmp .gt 2188, 3) := by decide +kernel
theorem dL_law_32 : decode cL_law 32 = .ok (.aload_n 0, 1) := by decide +kernel
theorem dL_law_33 : decode cL_law 33 = .ok (.iload 4, 2) := by decide +kernel
theorem dL_law_35 : decode cL_law 35 = .ok (.iaload, 1) := by decide +kernel
theorem dL_law_36 : decode cL_law 36 = .ok (.bipush 63, 2) := by decide +kernel
theorem dL_law_38 : decode cL_law 38 = .ok (.iand, 1) := by decide +kernel
theorem dL_law_39 : decode cL_law 39 = .ok (.tableswitch 2172 0 39 #[173, 217, 285, 353, 421, 489, 545, 613, 669, 725, 781, 837, 893, 906, 919, 932, 988, 1044, 1057, 1113, 1169, 1225, 1281, 1337, 1393, 1406, 1462, 1518, 1574, 1642, 1698, 1754, 1817, 1880, 1936, 1992, 2005, 2061, 2117, 2158], 173) := by decide +kernel
theorem dL_law_212 : decode cL_law 212 = .ok (.aload_n 1, 1) := by decide +kernel
theorem dL_law_213 : decode cL_law 213 = .ok (.aload_n 3, 1) := by decide +kernel
theorem dL_law_214 : decode cL_law 214 = .ok (.invokestatic 119, 3) := by decide +kernel
theorem dL_law_217 : decode cL_law 217 = .ok (.istore 5, 2) := by decide +kernel
theorem dL_law_219 : decode cL_law 219 = .ok (.aload_n 2, 1) := by decide +kernel
theorem dL_law_220 : decode cL_law 220 = .ok (.invokevirtual 124, 3) := by decide +kernel
theorem dL_law_223 : decode cL_law 223 = .ok (.istore 6, 2) := by decide +kernel
theorem dL_law_225 : decode cL_law 225 = .ok (.aload_n 2, 1) := by decide +kernel
theorem dL_law_226 : decode cL_law 226 = .ok (.invokevirtual 125, 3) := by decide +kernel
theorem dL_law_229 : decode cL_law 229 = .ok (.iload 5, 2) := by decide +kernel
theorem dL_law_231 : decode cL_law 231 = .ok (.if_icmp .eq 5, 3) := by decide +kernel
theorem dL_law_234 : decode cL_law 234 = .ok (.iconst 0, 1) := by decide +kernel
theorem dL_law_235 : decode cL_law 235 = .ok (.ireturn, 1) := by decide +kernel
theorem dL_law_236 : decode cL_law 236 = .ok (.iload 5, 2) := by decide +kernel
theorem dL_law_238 : decode cL_law 238 = .ok (.ifCond .ne 15, 3) := by decide +kernel
theorem dL_law_241 : decode cL_law 241 = .ok (.aload_n 3, 1) := by decide +kernel
theorem dL_law_242 : decode cL_law 242 = .ok (.iconst 0, 1) := by decide +kernel
theorem dL_law_243 : decode cL_law 243 = .ok (.laload, 1) := by decide +kernel
theorem dL_law_244 : decode cL_law 244 = .ok (.iload 6, 2) := by decide +kernel
theorem dL_law_246 : decode cL_law 246 = .ok (.i2l, 1) := by decide +kernel
theorem dL_law_247 : decode cL_law 247 = .ok (.lcmp, 1) := by decide +kernel
theorem dL_law_248 : decode cL_law 248 = .ok (.ifCond .eq 5, 3) := by decide +kernel
theorem dL_law_251 : decode cL_law 251 = .ok (.iconst 0, 1) := by decide +kernel
theorem dL_law_252 : decode cL_law 252 = .ok (.ireturn, 1) := by decide +kernel
theorem dL_law_253 : decode cL_law 253 = .ok (.goto 1958, 3) := by decide +kernel
theorem dL_law_256 : decode cL_law 256 = .ok (.aload_n 1, 1) := by decide +kernel
theorem dL_law_257 : decode cL_law 257 = .ok (.aload_n 0, 1) := by decide +kernel
theorem dL_law_258 : decode cL_law 258 = .ok (.iload 4, 2) := by decide +kernel
theorem dL_law_260 : decode cL_law 260 = .ok (.iconst 1, 1) := by decide +kernel
theorem dL_law_261 : decode cL_law 261 = .ok (.iadd, 1) := by decide +kernel
theorem dL_law_262 : decode cL_law 262 = .ok (.iaload, 1) := by decide +kernel
theorem dL_law_263 : decode cL_law 263 = .ok (.aload_n 0, 1) := by decide +kernel
theorem dL_law_264 : decode cL_law 264 = .ok (.iload 4, 2) := by decide +kernel
theorem dL_law_266 : decode cL_law 266 = .ok (.iconst 2, 1) := by decide +kernel
theorem dL_law_267 : decode cL_law 267 = .ok (.iadd, 1) := by decide +kernel
theorem dL_law_268 : decode cL_law 268 = .ok (.iaload, 1) := by decide +kernel
theorem dL_law_269 : decode cL_law 269 = .ok (.aload_n 3, 1) := by decide +kernel
theorem dL_law_270 : decode cL_law 270 = .ok (.invokestatic 128, 3) := by decide +kernel
theorem dL_law_273 : decode cL_law 273 = .ok (.istore 5, 2) := by decide +kernel
theorem dL_law_275 : decode cL_law 275 = .ok (.aload_n 2, 1) := by decide +kernel
theorem dL_law_276 : decode cL_law 276 = .ok (.aload_n 0, 1) := by decide +kernel
theorem dL_law_277 : decode cL_law 277 = .ok (.iload 4, 2) := by decide +kernel
theorem dL_law_279 : decode cL_law 279 = .ok (.iconst 1, 1) := by decide +kernel
theorem dL_law_280 : decode cL_law 280 = .ok (.iadd, 1) := by decide +kernel
theorem dL_law_281 : decode cL_law 281 = .ok (.iaload, 1) := by decide +kernel
theorem dL_law_282 : decode cL_law 282 = .ok (.aload_n 0, 1) := by decide +kernel
theorem dL_law_283 : decode cL_law 283 = .ok (.iload 4, 2) := by decide +kernel
theorem dL_law_285 : decode cL_law 285 = .ok (.iconst 2, 1) := by decide +kernel
theorem dL_law_286 : decode cL_law 286 = .ok (.iadd, 1) := by decide +kernel
theorem dL_law_287 : decode cL_law 287 = .ok (.iaload, 1) := by decide +kernel
theorem dL_law_288 : decode cL_law 288 = .ok (.invokevirtual 131, 3) := by decide +kernel
theorem dL_law_291 : decode cL_law 291 = .ok (.istore 6, 2) := by decide +kernel
theorem dL_law_293 : decode cL_law 293 = .ok (.aload_n 2, 1) := by decide +kernel
theorem dL_law_294 : decode cL_law 294 = .ok (.invokevirtual 125, 3) := by decide +kernel
theorem dL_law_297 : decode cL_law 297 = .ok (.iload 5, 2) := by decide +kernel
theorem dL_law_299 : decode cL_law 299 = .ok (.if_icmp .eq 5, 3) := by decide +kernel
theorem dL_law_302 : decode cL_law 302 = .ok (.iconst 0, 1) := by decide +kernel
theorem dL_law_303 : decode cL_law 303 = .ok (.ireturn, 1) := by decide +kernel
theorem dL_law_304 : decode cL_law 304 = .ok (.iload 5, 2) := by decide +kernel
theorem dL_law_306 : decode cL_law 306 = .ok (.ifCond .ne 15, 3) := by decide +kernel
theorem dL_law_309 : decode cL_law 309 = .ok (.aload_n 3, 1) := by decide +kernel
theorem dL_law_310 : decode cL_law 310 = .ok (.iconst 0, 1) := by decide +kernel
theorem dL_law_311 : decode cL_law 311 = .ok (.laload, 1) := by decide +kernel
theorem dL_law_312 : decode cL_law 312 = .ok (.iload 6, 2) := by decide +kernel
theorem dL_law_314 : decode cL_law 314 = .ok (.i2l, 1) := by decide +kernel
theorem dL_law_315 : decode cL_law 315 = .ok (.lcmp, 1) := by decide +kernel
theorem dL_law_316 : decode cL_law 316 = .ok (.ifCond .eq 5, 3) := by decide +kernel
theorem dL_law_319 : decode cL_law 319 = .ok (.iconst 0, 1) := by decide +kernel
theorem dL_law_320 : decode cL_law 320 = .ok (.ireturn, 1) := by decide +kernel
theorem dL_law_321 : decode cL_law 321 = .ok (.goto 1890, 3) := by decide +kernel
theorem dL_law_324 : decode cL_law 324 = .ok (.aload_n 1, 1) := by decide +kernel
theorem dL_law_325 : decode cL_law 325 = .ok (.aload_n 0, 1) := by decide +kernel
theorem dL_law_326 : decode cL_law 326 = .ok (.iload 4, 2) := by decide +kernel
theorem dL_law_328 : decode cL_law 328 = .ok (.iconst 1, 1) := by decide +kernel
