theorem dX0_init_0 : decode cX0_init 0 = .ok (.aload_n 0, 1) := by decide +kernel
theorem dX0_init_1 : decode cX0_init 1 = .ok (.invokespecial 3, 3) := by decide +kernel
theorem dX0_init_4 : decode cX0_init 4 = .ok (.aload_n 0, 1) := by decide +kernel
theorem dX0_init_5 : decode cX0_init 5 = .ok (.iconst 4, 1) := by decide +kernel
theorem dX0_init_6 : decode cX0_init 6 = .ok (.newarray .int, 2) := by decide +kernel
theorem dX0_init_8 : decode cX0_init 8 = .ok (.putfield 9, 3) := by decide +kernel
theorem dX0_init_11 : decode cX0_init 11 = .ok (.aload_n 0, 1) := by decide +kernel
theorem dX0_init_12 : decode cX0_init 12 = .ok (.bipush 24, 2) := by decide +kernel
theorem dX0_init_14 : decode cX0_init 14 = .ok (.newarray .int, 2) := by decide +kernel
theorem dX0_init_16 : decode cX0_init 16 = .ok (.putfield 15, 3) := by decide +kernel
theorem dX0_init_19 : decode cX0_init 19 = .ok (.aload_n 0, 1) := by decide +kernel
theorem dX0_init_20 : decode cX0_init 20 = .ok (.iconst (-1), 1) := by decide +kernel
theorem dX0_init_21 : decode cX0_init 21 = .ok (.putfield 18, 3) := by decide +kernel
theorem dX0_init_24 : decode cX0_init 24 = .ok (.aload_n 0, 1) := by decide +kernel
theorem dX0_init_25 : decode cX0_init 25 = .ok (.iconst 1, 1) := by decide +kernel
theorem dX0_init_26 : decode cX0_init 26 = .ok (.putfield 22, 3) := by decide +kernel
theorem dX0_init_29 : decode cX0_init 29 = .ok (.aload_n 0, 1) := by decide +kernel
theorem dX0_init_30 : decode cX0_init 30 = .ok (.iconst 0, 1) := by decide +kernel
theorem dX0_init_31 : decode cX0_init 31 = .ok (.putfield 26, 3) := by decide +kernel
theorem dX0_init_34 : decode cX0_init 34 = .ok (.aload_n 0, 1) := by decide +kernel
theorem dX0_init_35 : decode cX0_init 35 = .ok (.iload_n 1, 1) := by decide +kernel
theorem dX0_init_36 : decode cX0_init 36 = .ok (.putfield 29, 3) := by decide +kernel
theorem dX0_init_39 : decode cX0_init 39 = .ok (.return_, 1) := by decide +kernel
theorem dX0_letterAt_0 : decode cX0_letterAt 0 = .ok (.iload_n 1, 1) := by decide +kernel
theorem dX0_letterAt_1 : decode cX0_letterAt 1 = .ok (.invokestatic 38, 3) := by decide +kernel
theorem dX0_letterAt_4 : decode cX0_letterAt 4 = .ok (.ifCond .eq 12, 3) := by decide +kernel
theorem dX0_letterAt_7 : decode cX0_letterAt 7 = .ok (.aload_n 0, 1) := by decide +kernel
theorem dX0_letterAt_8 : decode cX0_letterAt 8 = .ok (.getfield 9, 3) := by decide +kernel
theorem dX0_letterAt_11 : decode cX0_letterAt 11 = .ok (.iload_n 1, 1) := by decide +kernel
theorem dX0_letterAt_12 : decode cX0_letterAt 12 = .ok (.iaload, 1) := by decide +kernel
theorem dX0_letterAt_13 : decode cX0_letterAt 13 = .ok (.goto 4, 3) := by decide +kernel
theorem dX0_letterAt_16 : decode cX0_letterAt 16 = .ok (.iconst 0, 1) := by decide +kernel
theorem dX0_letterAt_17 : decode cX0_letterAt 17 = .ok (.ireturn, 1) := by decide +kernel
theorem dX0_turnTo_0 : decode cX0_turnTo 0 = .ok (.iload_n 1, 1) := by decide +kernel
theorem dX0_turnTo_1 : decode cX0_turnTo 1 = .ok (.invokestatic 38, 3) := by decide +kernel
theorem dX0_turnTo_4 : decode cX0_turnTo 4 = .ok (.ifCond .eq 10, 3) := by decide +kernel
theorem dX0_turnTo_7 : decode cX0_turnTo 7 = .ok (.aload_n 0, 1) := by decide +kernel
theorem dX0_turnTo_8 : decode cX0_turnTo 8 = .ok (.getfield 9, 3) := by decide +kernel
theorem dX0_turnTo_11 : decode cX0_turnTo 11 = .ok (.iload_n 1, 1) := by decide +kernel
theorem dX0_turnTo_12 : decode cX0_turnTo 12 = .ok (.iload_n 2, 1) := by decide +kernel
theorem dX0_turnTo_13 : decode cX0_turnTo 13 = .ok (.iastore, 1) := by decide +kernel
theorem dX0_turnTo_14 : decode cX0_turnTo 14 = .ok (.return_, 1) := by decide +kernel
theorem dX0_standing_0 : decode cX0_standing 0 = .ok (.iconst 0, 1) := by decide +kernel
theorem dX0_standing_1 : decode cX0_standing 1 = .ok (.istore_n 1, 1) := by decide +kernel
theorem dX0_standing_2 : decode cX0_standing 2 = .ok (.iconst 0, 1) := by decide +kernel
theorem dX0_standing_3 : decode cX0_standing 3 = .ok (.istore_n 2, 1) := by decide +kernel
theorem dX0_standing_4 : decode cX0_standing 4 = .ok (.iload_n 2, 1) := by decide +kernel
theorem dX0_standing_5 : decode cX0_standing 5 = .ok (.iconst 4, 1) := by decide +kernel
theorem dX0_standing_6 : decode cX0_standing 6 = .ok (.if_icmp .ge 21, 3) := by decide +kernel
theorem dX0_standing_9 : decode cX0_standing 9 = .ok (.iload_n 1, 1) := by decide +kernel
theorem dX0_standing_10 : decode cX0_standing 10 = .ok (.bipush 6, 2) := by decide +kernel
theorem dX0_standing_12 : decode cX0_standing 12 = .ok (.imul, 1) := by decide +kernel
theorem dX0_standing_13 : decode cX0_standing 13 = .ok (.aload_n 0, 1) := by decide +kernel
theorem dX0_standing_14 : decode cX0_standing 14 = .ok (.getfield 9, 3) := by decide +kernel
theorem dX0_standing_17 : decode cX0_standing 17 = .ok (.iload_n 2, 1) := by decide +kernel
theorem dX0_standing_18 : decode cX0_standing 18 = .ok (.iaload, 1) := by decide +kernel
theorem dX0_standing_19 : decode cX0_standing 19 = .ok (.iadd, 1) := by decide +kernel
theorem dX0_standing_20 : decode cX0_standing 20 = .ok (.istore_n 1, 1) := by decide +kernel
theorem dX0_standing_21 : decode cX0_standing 21 = .ok (.iinc 2 1, 3) := by decide +kernel
theorem dX0_standing_24 : decode cX0_standing 24 = .ok (.goto (-20), 3) := by decide +kernel
theorem dX0_standing_27 : decode cX0_standing 27 = .ok (.iload_n 1, 1) := by decide +kernel
theorem dX0_standing_28 : decode cX0_standing 28 = .ok (.ireturn, 1) := by decide +kernel
theorem dX0_close_0 : decode cX0_close 0 = .ok (.iconst 0, 1) := by decide +kernel
theorem dX0_close_1 : decode cX0_close 1 = .ok (.istore_n 1, 1) := by decide +kernel
theorem dX0_close_2 : decode cX0_close 2 = .ok (.iload_n 1, 1) := by decide +kernel
theorem dX0_close_3 : decode cX0_close 3 = .ok (.iconst 4, 1) := by decide +kernel
theorem dX0_close_4 : decode cX0_close 4 = .ok (.if_icmp .ge 28, 3) := by decide +kernel
theorem dX0_close_7 : decode cX0_close 7 = .ok (.aload_n 0, 1) := by decide +kernel
theorem dX0_close_8 : decode cX0_close 8 = .ok (.getfield 9, 3) := by decide +kernel
theorem dX0_close_11 : decode cX0_close 11 = .ok (.iload_n 1, 1) := by decide +kernel
theorem dX0_close_12 : decode cX0_close 12 = .ok (.aload_n 0, 1) := by decide +kernel
theorem dX0_close_13 : decode cX0_close 13 = .ok (.getfield 9, 3) := by decide +kernel
theorem dX0_close_16 : decode cX0_close 16 = .ok (.iload_n 1, 1) := by decide +kernel
theorem dX0_close_17 : decode cX0_close 17 = .ok (.iaload, 1) := by decide +kernel
theorem dX0_close_18 : decode cX0_close 18 = .ok (.iload_n 1, 1) := by decide +kernel
theorem dX0_close_19 : decode cX0_close 19 = .ok (.iadd, 1) := by decide +kernel
theorem dX0_close_20 : decode cX0_close 20 = .ok (.iconst 1, 1) := by decide +kernel
theorem dX0_close_21 : decode cX0_close 21 = .ok (.iadd, 1) := by decide +kernel
theorem dX0_close_22 : decode cX0_close 22 = .ok (.bipush 6, 2) := by decide +kernel
theorem dX0_close_24 : decode cX0_close 24 = .ok (.irem, 1) := by decide +kernel
theorem dX0_close_25 : decode cX0_close 25 = .ok (.iastore, 1) := by decide +kernel
theorem dX0_close_26 : decode cX0_close 26 = .ok (.iinc 1 1, 3) := by decide +kernel
theorem dX0_close_29 : decode cX0_close 29 = .ok (.goto (-27), 3) := by decide +kernel
theorem dX0_close_32 : decode cX0_close 32 = .ok (.aload_n 0, 1) := by decide +kernel
theorem dX0_close_33 : decode cX0_close 33 = .ok (.iconst 0, 1) := by decide +kernel
theorem dX0_close_34 : decode cX0_close 34 = .ok (.putfield 22, 3) := by decide +kernel
theorem dX0_close_37 : decode cX0_close 37 = .ok (.return_, 1) := by decide +kernel
theorem dX0_wearAt_0 : decode cX0_wearAt 0 = .ok (.iload_n 1, 1) := by decide +kernel
theorem dX0_wearAt_1 : decode cX0_wearAt 1 = .ok (.invokestatic 38, 3) := by decide +kernel
theorem dX0_wearAt_4 : decode cX0_wearAt 4 = .ok (.ifCond .eq 24, 3) := by decide +kernel
theorem dX0_wearAt_7 : decode cX0_wearAt 7 = .ok (.iload_n 2, 1) := by decide +kernel
theorem dX0_wearAt_8 : decode cX0_wearAt 8 = .ok (.invokestatic 42, 3) := by decide +kernel
theorem dX0_wearAt_11 : decode cX0_wearAt 11 = .ok (.ifCond .eq 17, 3) := by decide +kernel
theorem dX0_wearAt_14 : decode cX0_wearAt 14 = .ok (.aload_n 0, 1) := by decide +kernel
theorem dX0_wearAt_15 : decode cX0_wearAt 15 = .ok (.getfield 15, 3) := by decide +kernel
theorem dX0_wearAt_18 : decode cX0_wearAt 18 = .ok (.iload_n 1, 1) := by decide +kernel
theorem dX0_wearAt_19 : decode cX0_wearAt 19 = .ok (.bipush 6, 2) := by decide +kernel
theorem dX0_wearAt_21 : decode cX0_wearAt 21 = .ok (.imul, 1) := by decide +kernel
theorem dX0_wearAt_22 : decode cX0_wearAt 22 = .ok (.iload_n 2, 1) := by decide +kernel
theorem dX0_wearAt_23 : decode cX0_wearAt 23 = .ok (.iadd, 1) := by decide +kernel
theorem dX0_wearAt_24 : decode cX0_wearAt 24 = .ok (.iaload, 1) := by decide +kernel
theorem dX0_wearAt_25 : decode cX0_wearAt 25 = .ok (.goto 4, 3) := by decide +kernel
theorem dX0_wearAt_28 : decode cX0_wearAt 28 = .ok (.iconst 0, 1) := by decide +kernel
theorem dX0_wearAt_29 : decode cX0_wearAt 29 = .ok (.ireturn, 1) := by decide +kernel
theorem dX0_wearByAnHour_0 : decode cX0_wearByAnHour 0 = .ok (.iconst 0, 1) := by decide +kernel
theorem dX0_wearByAnHour_1 : decode cX0_wearByAnHour 1 = .ok (.istore_n 1, 1) := by decide +kernel
theorem dX0_wearByAnHour_2 : decode cX0_wearByAnHour 2 = .ok (.iload_n 1, 1) := by decide +kernel
theorem dX0_wearByAnHour_3 : decode cX0_wearByAnHour 3 = .ok (.iconst 4, 1) := by decide +kernel
theorem dX0_wearByAnHour_4 : decode cX0_wearByAnHour 4 = .ok (.if_icmp .ge 53, 3) := by decide +kernel
theorem dX0_wearByAnHour_7 : decode cX0_wearByAnHour 7 = .ok (.aload_n 0, 1) := by decide +kernel
theorem dX0_wearByAnHour_8 : decode cX0_wearByAnHour 8 = .ok (.getfield 22, 3) := by decide +kernel
theorem dX0_wearByAnHour_11 : decode cX0_wearByAnHour 11 = .ok (.ifCond .ne 18, 3) := by decide +kernel
theorem dX0_wearByAnHour_14 : decode cX0_wearByAnHour 14 = .ok (.aload_n 0, 1) := by decide +kernel
theorem dX0_wearByAnHour_15 : decode cX0_wearByAnHour 15 = .ok (.iload_n 1, 1) := by decide +kernel
theorem dX0_wearByAnHour_16 : decode cX0_wearByAnHour 16 = .ok (.aload_n 0, 1) := by decide +kernel
theorem dX0_wearByAnHour_17 : decode cX0_wearByAnHour 17 = .ok (.getfield 9, 3) := by decide +kernel
theorem dX0_wearByAnHour_20 : decode cX0_wearByAnHour 20 = .ok (.iload_n 1, 1) := by decide +kernel
theorem dX0_wearByAnHour_21 : decode cX0_wearByAnHour 21 = .ok (.iaload, 1) := by decide +kernel
theorem dX0_wearByAnHour_22 : decode cX0_wearByAnHour 22 = .ok (.iconst 1, 1) := by decide +kernel
theorem dX0_wearByAnHour_23 : decode cX0_wearByAnHour 23 = .ok (.invokevirtual 45, 3) := by decide +kernel
theorem dX0_wearByAnHour_26 : decode cX0_wearByAnHour 26 = .ok (.goto 25, 3) := by decide +kernel
theorem dX0_wearByAnHour_29 : decode cX0_wearByAnHour 29 = .ok (.aload_n 0, 1) := by decide +kernel
theorem dX0_wearByAnHour_30 : decode cX0_wearByAnHour 30 = .ok (.getfield 18, 3) := by decide +kernel
theorem dX0_wearByAnHour_33 : decode cX0_wearByAnHour 33 = .ok (.iconst (-1), 1) := by decide +kernel
theorem dX0_wearByAnHour_34 : decode cX0_wearByAnHour 34 = .ok (.if_icmp .eq 17, 3) := by decide +kernel
theorem dX0_wearByAnHour_37 : decode cX0_wearByAnHour 37 = .ok (.aload_n 0, 1) := by decide +kernel
theorem dX0_wearByAnHour_38 : decode cX0_wearByAnHour 38 = .ok (.iload_n 1, 1) := by decide +kernel
theorem dX0_wearByAnHour_39 : decode cX0_wearByAnHour 39 = .ok (.aload_n 0, 1) := by decide +kernel
theorem dX0_wearByAnHour_40 : decode cX0_wearByAnHour 40 = .ok (.getfield 29, 3) := by decide +kernel
theorem dX0_wearByAnHour_43 : decode cX0_wearByAnHour 43 = .ok (.iload_n 1, 1) := by decide +kernel
theorem dX0_wearByAnHour_44 : decode cX0_wearByAnHour 44 = .ok (.invokestatic 49, 3) := by decide +kernel
theorem dX0_wearByAnHour_47 : decode cX0_wearByAnHour 47 = .ok (.iconst 2, 1) := by decide +kernel
theorem dX0_wearByAnHour_48 : decode cX0_wearByAnHour 48 = .ok (.invokevirtual 45, 3) := by decide +kernel
theorem dX0_wearByAnHour_51 : decode cX0_wearByAnHour 51 = .ok (.iinc 1 1, 3) := by decide +kernel
theorem dX0_wearByAnHour_54 : decode cX0_wearByAnHour 54 = .ok (.goto (-52), 3) := by decide +kernel
theorem dX0_wearByAnHour_57 : decode cX0_wearByAnHour 57 = .ok (.return_, 1) := by decide +kernel
theorem dX0_wearMore_0 : decode cX0_wearMore 0 = .ok (.iload_n 1, 1) := by decide +kernel
theorem dX0_wearMore_1 : decode cX0_wearMore 1 = .ok (.invokestatic 38, 3) := by decide +kernel
theorem dX0_wearMore_4 : decode cX0_wearMore 4 = .ok (.ifCond .eq 39, 3) := by decide +kernel
theorem dX0_wearMore_7 : decode cX0_wearMore 7 = .ok (.iload_n 2, 1) := by decide +kernel
theorem dX0_wearMore_8 : decode cX0_wearMore 8 = .ok (.invokestatic 42, 3) := by decide +kernel
theorem dX0_wearMore_11 : decode cX0_wearMore 11 = .ok (.ifCond .eq 32, 3) := by decide +kernel
theorem dX0_wearMore_14 : decode cX0_wearMore 14 = .ok (.iload_n 1, 1) := by decide +kernel
theorem dX0_wearMore_15 : decode cX0_wearMore 15 = .ok (.bipush 6, 2) := by decide +kernel
theorem dX0_wearMore_17 : decode cX0_wearMore 17 = .ok (.imul, 1) := by decide +kernel
theorem dX0_wearMore_18 : decode cX0_wearMore 18 = .ok (.iload_n 2, 1) := by decide +kernel
theorem dX0_wearMore_19 : decode cX0_wearMore 19 = .ok (.iadd, 1) := by decide +kernel
theorem dX0_wearMore_20 : decode cX0_wearMore 20 = .ok (.istore 4, 2) := by decide +kernel
theorem dX0_wearMore_22 : decode cX0_wearMore 22 = .ok (.aload_n 0, 1) := by decide +kernel
theorem dX0_wearMore_23 : decode cX0_wearMore 23 = .ok (.getfield 15, 3) := by decide +kernel
theorem dX0_wearMore_26 : decode cX0_wearMore 26 = .ok (.iload 4, 2) := by decide +kernel
theorem dX0_wearMore_28 : decode cX0_wearMore 28 = .ok (.bipush 99, 2) := by decide +kernel
theorem dX0_wearMore_30 : decode cX0_wearMore 30 = .ok (.aload_n 0, 1) := by decide +kernel
theorem dX0_wearMore_31 : decode cX0_wearMore 31 = .ok (.getfield 15, 3) := by decide +kernel
theorem dX0_wearMore_34 : decode cX0_wearMore 34 = .ok (.iload 4, 2) := by decide +kernel
theorem dX0_wearMore_36 : decode cX0_wearMore 36 = .ok (.iaload, 1) := by decide +kernel
theorem dX0_wearMore_37 : decode cX0_wearMore 37 = .ok (.iload_n 3, 1) := by decide +kernel
theorem dX0_wearMore_38 : decode cX0_wearMore 38 = .ok (.iadd, 1) := by decide +kernel
theorem dX0_wearMore_39 : decode cX0_wearMore 39 = .ok (.invokestatic 53, 3) := by decide +kernel
theorem dX0_wearMore_42 : decode cX0_wearMore 42 = .ok (.iastore, 1) := by decide +kernel
theorem dX0_wearMore_43 : decode cX0_wearMore 43 = .ok (.return_, 1) := by decide +kernel
theorem dX0_allWears_0 : decode cX0_allWears 0 = .ok (.iconst 0, 1) := by decide +kernel
theorem dX0_allWears_1 : decode cX0_allWears 1 = .ok (.istore_n 1, 1) := by decide +kernel
theorem dX0_allWears_2 : decode cX0_allWears 2 = .ok (.iconst 0, 1) := by decide +kernel
theorem dX0_allWears_3 : decode cX0_allWears 3 = .ok (.istore_n 2, 1) := by decide +kernel
theorem dX0_allWears_4 : decode cX0_allWears 4 = .ok (.iload_n 2, 1) := by decide +kernel
theorem dX0_allWears_5 : decode cX0_allWears 5 = .ok (.aload_n 0, 1) := by decide +kernel
theorem dX0_allWears_6 : decode cX0_allWears 6 = .ok (.getfield 15, 3) := by decide +kernel
theorem dX0_allWears_9 : decode cX0_allWears 9 = .ok (.arraylength, 1) := by decide +kernel
theorem dX0_allWears_10 : decode cX0_allWears 10 = .ok (.if_icmp .ge 18, 3) := by decide +kernel
theorem dX0_allWears_13 : decode cX0_allWears 13 = .ok (.iload_n 1, 1) := by decide +kernel
theorem dX0_allWears_14 : decode cX0_allWears 14 = .ok (.aload_n 0, 1) := by decide +kernel
theorem dX0_allWears_15 : decode cX0_allWears 15 = .ok (.getfield 15, 3) := by decide +kernel
theorem dX0_allWears_18 : decode cX0_allWears 18 = .ok (.iload_n 2, 1) := by decide +kernel
theorem dX0_allWears_19 : decode cX0_allWears 19 = .ok (.iaload, 1) := by decide +kernel
theorem dX0_allWears_20 : decode cX0_allWears 20 = .ok (.iadd, 1) := by decide +kernel
theorem dX0_allWears_21 : decode cX0_allWears 21 = .ok (.istore_n 1, 1) := by decide +kernel
theorem dX0_allWears_22 : decode cX0_allWears 22 = .ok (.iinc 2 1, 3) := by decide +kernel
theorem dX0_allWears_25 : decode cX0_allWears 25 = .ok (.goto (-21), 3) := by decide +kernel
theorem dX0_allWears_28 : decode cX0_allWears 28 = .ok (.iload_n 1, 1) := by decide +kernel
theorem dX0_allWears_29 : decode cX0_allWears 29 = .ok (.ireturn, 1) := by decide +kernel
theorem dX0_showing_0 : decode cX0_showing 0 = .ok (.iconst 0, 1) := by decide +kernel
theorem dX0_showing_1 : decode cX0_showing 1 = .ok (.istore_n 1, 1) := by decide +kernel
theorem dX0_showing_2 : decode cX0_showing 2 = .ok (.iconst 0, 1) := by decide +kernel
theorem dX0_showing_3 : decode cX0_showing 3 = .ok (.istore_n 2, 1) := by decide +kernel
theorem dX0_showing_4 : decode cX0_showing 4 = .ok (.iload_n 2, 1) := by decide +kernel
theorem dX0_showing_5 : decode cX0_showing 5 = .ok (.iconst 4, 1) := by decide +kernel
theorem dX0_showing_6 : decode cX0_showing 6 = .ok (.if_icmp .ge 20, 3) := by decide +kernel
theorem dX0_showing_9 : decode cX0_showing 9 = .ok (.iload_n 1, 1) := by decide +kernel
theorem dX0_showing_10 : decode cX0_showing 10 = .ok (.bipush 6, 2) := by decide +kernel
theorem dX0_showing_12 : decode cX0_showing 12 = .ok (.imul, 1) := by decide +kernel
theorem dX0_showing_13 : decode cX0_showing 13 = .ok (.aload_n 0, 1) := by decide +kernel
theorem dX0_showing_14 : decode cX0_showing 14 = .ok (.iload_n 2, 1) := by decide +kernel
theorem dX0_showing_15 : decode cX0_showing 15 = .ok (.invokevirtual 58, 3) := by decide +kernel
theorem dX0_showing_18 : decode cX0_showing 18 = .ok (.iadd, 1) := by decide +kernel
theorem dX0_showing_19 : decode cX0_showing 19 = .ok (.istore_n 1, 1) := by decide +kernel
theorem dX0_showing_20 : decode cX0_showing 20 = .ok (.iinc 2 1, 3) := by decide +kernel
theorem dX0_showing_23 : decode cX0_showing 23 = .ok (.goto (-19), 3) := by decide +kernel
theorem dX0_showing_26 : decode cX0_showing 26 = .ok (.iload_n 1, 1) := by decide +kernel
theorem dX0_showing_27 : decode cX0_showing 27 = .ok (.ireturn, 1) := by decide +kernel
theorem dX0_mostWorn_0 : decode cX0_mostWorn 0 = .ok (.iconst 0, 1) := by decide +kernel
theorem dX0_mostWorn_1 : decode cX0_mostWorn 1 = .ok (.istore_n 2, 1) := by decide +kernel
theorem dX0_mostWorn_2 : decode cX0_mostWorn 2 = .ok (.iconst 1, 1) := by decide +kernel
theorem dX0_mostWorn_3 : decode cX0_mostWorn 3 = .ok (.istore_n 3, 1) := by decide +kernel
theorem dX0_mostWorn_4 : decode cX0_mostWorn 4 = .ok (.iload_n 3, 1) := by decide +kernel
theorem dX0_mostWorn_5 : decode cX0_mostWorn 5 = .ok (.bipush 6, 2) := by decide +kernel
theorem dX0_mostWorn_7 : decode cX0_mostWorn 7 = .ok (.if_icmp .ge 26, 3) := by decide +kernel
theorem dX0_mostWorn_10 : decode cX0_mostWorn 10 = .ok (.aload_n 0, 1) := by decide +kernel
theorem dX0_mostWorn_11 : decode cX0_mostWorn 11 = .ok (.iload_n 1, 1) := by decide +kernel
theorem dX0_mostWorn_12 : decode cX0_mostWorn 12 = .ok (.iload_n 3, 1) := by decide +kernel
theorem dX0_mostWorn_13 : decode cX0_mostWorn 13 = .ok (.invokevirtual 62, 3) := by decide +kernel
theorem dX0_mostWorn_16 : decode cX0_mostWorn 16 = .ok (.aload_n 0, 1) := by decide +kernel
theorem dX0_mostWorn_17 : decode cX0_mostWorn 17 = .ok (.iload_n 1, 1) := by decide +kernel
theorem dX0_mostWorn_18 : decode cX0_mostWorn 18 = .ok (.iload_n 2, 1) := by decide +kernel
theorem dX0_mostWorn_19 : decode cX0_mostWorn 19 = .ok (.invokevirtual 62, 3) := by decide +kernel
theorem dX0_mostWorn_22 : decode cX0_mostWorn 22 = .ok (.if_icmp .le 5, 3) := by decide +kernel
theorem dX0_mostWorn_25 : decode cX0_mostWorn 25 = .ok (.iload_n 3, 1) := by decide +kernel
theorem dX0_mostWorn_26 : decode cX0_mostWorn 26 = .ok (.istore_n 2, 1) := by decide +kernel
theorem dX0_mostWorn_27 : decode cX0_mostWorn 27 = .ok (.iinc 3 1, 3) := by decide +kernel
theorem dX0_mostWorn_30 : decode cX0_mostWorn 30 = .ok (.goto (-26), 3) := by decide +kernel
theorem dX0_mostWorn_33 : decode cX0_mostWorn 33 = .ok (.iload_n 2, 1) := by decide +kernel
theorem dX0_mostWorn_34 : decode cX0_mostWorn 34 = .ok (.ireturn, 1) := by decide +kernel
theorem dX0_placeInOrder_0 : decode cX0_placeInOrder 0 = .ok (.iconst 0, 1) := by decide +kernel
theorem dX0_placeInOrder_1 : decode cX0_placeInOrder 1 = .ok (.istore_n 3, 1) := by decide +kernel
theorem dX0_placeInOrder_2 : decode cX0_placeInOrder 2 = .ok (.aload_n 0, 1) := by decide +kernel
theorem dX0_placeInOrder_3 : decode cX0_placeInOrder 3 = .ok (.iload_n 1, 1) := by decide +kernel
theorem dX0_placeInOrder_4 : decode cX0_placeInOrder 4 = .ok (.iload_n 2, 1) := by decide +kernel
theorem dX0_placeInOrder_5 : decode cX0_placeInOrder 5 = .ok (.invokevirtual 62, 3) := by decide +kernel
theorem dX0_placeInOrder_8 : decode cX0_placeInOrder 8 = .ok (.istore 4, 2) := by decide +kernel
theorem dX0_placeInOrder_10 : decode cX0_placeInOrder 10 = .ok (.iconst 0, 1) := by decide +kernel
theorem dX0_placeInOrder_11 : decode cX0_placeInOrder 11 = .ok (.istore 5, 2) := by decide +kernel
theorem dX0_placeInOrder_13 : decode cX0_placeInOrder 13 = .ok (.iload 5, 2) := by decide +kernel
theorem dX0_placeInOrder_15 : decode cX0_placeInOrder 15 = .ok (.bipush 6, 2) := by decide +kernel
theorem dX0_placeInOrder_17 : decode cX0_placeInOrder 17 = .ok (.if_icmp .ge 41, 3) := by decide +kernel
theorem dX0_placeInOrder_20 : decode cX0_placeInOrder 20 = .ok (.aload_n 0, 1) := by decide +kernel
theorem dX0_placeInOrder_21 : decode cX0_placeInOrder 21 = .ok (.iload_n 1, 1) := by decide +kernel
theorem dX0_placeInOrder_22 : decode cX0_placeInOrder 22 = .ok (.iload 5, 2) := by decide +kernel
theorem dX0_placeInOrder_24 : decode cX0_placeInOrder 24 = .ok (.invokevirtual 62, 3) := by decide +kernel
theorem dX0_placeInOrder_27 : decode cX0_placeInOrder 27 = .ok (.istore 6, 2) := by decide +kernel
theorem dX0_placeInOrder_29 : decode cX0_placeInOrder 29 = .ok (.iload 6, 2) := by decide +kernel
theorem dX0_placeInOrder_31 : decode cX0_placeInOrder 31 = .ok (.iload 4, 2) := by decide +kernel
theorem dX0_placeInOrder_33 : decode cX0_placeInOrder 33 = .ok (.if_icmp .gt 16, 3) := by decide +kernel
theorem dX0_placeInOrder_36 : decode cX0_placeInOrder 36 = .ok (.iload 6, 2) := by decide +kernel
theorem dX0_placeInOrder_38 : decode cX0_placeInOrder 38 = .ok (.iload 4, 2) := by decide +kernel
theorem dX0_placeInOrder_40 : decode cX0_placeInOrder 40 = .ok (.if_icmp .ne 12, 3) := by decide +kernel
theorem dX0_placeInOrder_43 : decode cX0_placeInOrder 43 = .ok (.iload 5, 2) := by decide +kernel
theorem dX0_placeInOrder_45 : decode cX0_placeInOrder 45 = .ok (.iload_n 2, 1) := by decide +kernel
theorem dX0_placeInOrder_46 : decode cX0_placeInOrder 46 = .ok (.if_icmp .ge 6, 3) := by decide +kernel
theorem dX0_placeInOrder_49 : decode cX0_placeInOrder 49 = .ok (.iinc 3 1, 3) := by decide +kernel
theorem dX0_placeInOrder_52 : decode cX0_placeInOrder 52 = .ok (.iinc 5 1, 3) := by decide +kernel
theorem dX0_placeInOrder_55 : decode cX0_placeInOrder 55 = .ok (.goto (-42), 3) := by decide +kernel
theorem dX0_placeInOrder_58 : decode cX0_placeInOrder 58 = .ok (.iload_n 3, 1) := by decide +kernel
theorem dX0_placeInOrder_59 : decode cX0_placeInOrder 59 = .ok (.ireturn, 1) := by decide +kernel
theorem dX1_init_0 : decode cX1_init 0 = .ok (.aload_n 0, 1) := by decide +kernel
theorem dX1_init_1 : decode cX1_init 1 = .ok (.invokespecial 3, 3) := by decide +kernel
theorem dX1_init_4 : decode cX1_init 4 = .ok (.aload_n 0, 1) := by decide +kernel
theorem dX1_init_5 : decode cX1_init 5 = .ok (.iconst 4, 1) := by decide +kernel
theorem dX1_init_6 : decode cX1_init 6 = .ok (.putfield 9, 3) := by decide +kernel
theorem dX1_init_9 : decode cX1_init 9 = .ok (.aload_n 0, 1) := by decide +kernel
theorem dX1_init_10 : decode cX1_init 10 = .ok (.iconst 0, 1) := by decide +kernel
theorem dX1_init_11 : decode cX1_init 11 = .ok (.putfield 15, 3) := by decide +kernel
theorem dX1_init_14 : decode cX1_init 14 = .ok (.aload_n 0, 1) := by decide +kernel
theorem dX1_init_15 : decode cX1_init 15 = .ok (.bipush 24, 2) := by decide +kernel
theorem dX1_init_17 : decode cX1_init 17 = .ok (.putfield 18, 3) := by decide +kernel
theorem dX1_init_20 : decode cX1_init 20 = .ok (.return_, 1) := by decide +kernel
theorem dX1_isOpenIn_0 : decode cX1_isOpenIn 0 = .ok (.iload_n 1, 1) := by decide +kernel
theorem dX1_isOpenIn_1 : decode cX1_isOpenIn 1 = .ok (.bipush 24, 2) := by decide +kernel
theorem dX1_isOpenIn_3 : decode cX1_isOpenIn 3 = .ok (.irem, 1) := by decide +kernel
theorem dX1_isOpenIn_4 : decode cX1_isOpenIn 4 = .ok (.istore_n 2, 1) := by decide +kernel
theorem dX1_isOpenIn_5 : decode cX1_isOpenIn 5 = .ok (.aload_n 0, 1) := by decide +kernel
theorem dX1_isOpenIn_6 : decode cX1_isOpenIn 6 = .ok (.getfield 15, 3) := by decide +kernel
theorem dX1_isOpenIn_9 : decode cX1_isOpenIn 9 = .ok (.aload_n 0, 1) := by decide +kernel
theorem dX1_isOpenIn_10 : decode cX1_isOpenIn 10 = .ok (.getfield 18, 3) := by decide +kernel
theorem dX1_isOpenIn_13 : decode cX1_isOpenIn 13 = .ok (.if_icmp .gt 25, 3) := by decide +kernel
theorem dX1_isOpenIn_16 : decode cX1_isOpenIn 16 = .ok (.iload_n 2, 1) := by decide +kernel
theorem dX1_isOpenIn_17 : decode cX1_isOpenIn 17 = .ok (.aload_n 0, 1) := by decide +kernel
theorem dX1_isOpenIn_18 : decode cX1_isOpenIn 18 = .ok (.getfield 15, 3) := by decide +kernel
theorem dX1_isOpenIn_21 : decode cX1_isOpenIn 21 = .ok (.if_icmp .lt 15, 3) := by decide +kernel
theorem dX1_isOpenIn_24 : decode cX1_isOpenIn 24 = .ok (.iload_n 2, 1) := by decide +kernel
theorem dX1_isOpenIn_25 : decode cX1_isOpenIn 25 = .ok (.aload_n 0, 1) := by decide +kernel
theorem dX1_isOpenIn_26 : decode cX1_isOpenIn 26 = .ok (.getfield 18, 3) := by decide +kernel
theorem dX1_isOpenIn_29 : decode cX1_isOpenIn 29 = .ok (.if_icmp .ge 7, 3) := by decide +kernel
theorem dX1_isOpenIn_32 : decode cX1_isOpenIn 32 = .ok (.iconst 1, 1) := by decide +kernel
theorem dX1_isOpenIn_33 : decode cX1_isOpenIn 33 = .ok (.goto 4, 3) := by decide +kernel
theorem dX1_isOpenIn_36 : decode cX1_isOpenIn 36 = .ok (.iconst 0, 1) := by decide +kernel
theorem dX1_isOpenIn_37 : decode cX1_isOpenIn 37 = .ok (.ireturn, 1) := by decide +kernel
theorem dX1_isOpenIn_38 : decode cX1_isOpenIn 38 = .ok (.iload_n 2, 1) := by decide +kernel
theorem dX1_isOpenIn_39 : decode cX1_isOpenIn 39 = .ok (.aload_n 0, 1) := by decide +kernel
theorem dX1_isOpenIn_40 : decode cX1_isOpenIn 40 = .ok (.getfield 15, 3) := by decide +kernel
theorem dX1_isOpenIn_43 : decode cX1_isOpenIn 43 = .ok (.if_icmp .ge 11, 3) := by decide +kernel
theorem dX1_isOpenIn_46 : decode cX1_isOpenIn 46 = .ok (.iload_n 2, 1) := by decide +kernel
theorem dX1_isOpenIn_47 : decode cX1_isOpenIn 47 = .ok (.aload_n 0, 1) := by decide +kernel
theorem dX1_isOpenIn_48 : decode cX1_isOpenIn 48 = .ok (.getfield 18, 3) := by decide +kernel
theorem dX1_isOpenIn_51 : decode cX1_isOpenIn 51 = .ok (.if_icmp .ge 7, 3) := by decide +kernel
theorem dX1_isOpenIn_54 : decode cX1_isOpenIn 54 = .ok (.iconst 1, 1) := by decide +kernel
theorem dX1_isOpenIn_55 : decode cX1_isOpenIn 55 = .ok (.goto 4, 3) := by decide +kernel
theorem dX1_isOpenIn_58 : decode cX1_isOpenIn 58 = .ok (.iconst 0, 1) := by decide +kernel
theorem dX1_isOpenIn_59 : decode cX1_isOpenIn 59 = .ok (.ireturn, 1) := by decide +kernel
theorem dX2_init_0 : decode cX2_init 0 = .ok (.aload_n 0, 1) := by decide +kernel
theorem dX2_init_1 : decode cX2_init 1 = .ok (.invokespecial 3, 3) := by decide +kernel
theorem dX2_init_4 : decode cX2_init 4 = .ok (.aload_n 0, 1) := by decide +kernel
theorem dX2_init_5 : decode cX2_init 5 = .ok (.iconst 5, 1) := by decide +kernel
theorem dX2_init_6 : decode cX2_init 6 = .ok (.bipush 21, 2) := by decide +kernel
theorem dX2_init_8 : decode cX2_init 8 = .ok (.multianewarray 11 2, 4) := by decide +kernel
theorem dX2_init_12 : decode cX2_init 12 = .ok (.putfield 13, 3) := by decide +kernel
theorem dX2_init_15 : decode cX2_init 15 = .ok (.aload_n 0, 1) := by decide +kernel
theorem dX2_init_16 : decode cX2_init 16 = .ok (.getfield 13, 3) := by decide +kernel
theorem dX2_init_19 : decode cX2_init 19 = .ok (.iconst 0, 1) := by decide +kernel
theorem dX2_init_20 : decode cX2_init 20 = .ok (.aaload, 1) := by decide +kernel
theorem dX2_init_21 : decode cX2_init 21 = .ok (.iconst 0, 1) := by decide +kernel
theorem dX2_init_22 : decode cX2_init 22 = .ok (.iconst 1, 1) := by decide +kernel
theorem dX2_init_23 : decode cX2_init 23 = .ok (.iastore, 1) := by decide +kernel
theorem dX2_init_24 : decode cX2_init 24 = .ok (.iconst 1, 1) := by decide +kernel
theorem dX2_init_25 : decode cX2_init 25 = .ok (.istore_n 1, 1) := by decide +kernel
theorem dX2_init_26 : decode cX2_init 26 = .ok (.iload_n 1, 1) := by decide +kernel
theorem dX2_init_27 : decode cX2_init 27 = .ok (.iconst 4, 1) := by decide +kernel
theorem dX2_init_28 : decode cX2_init 28 = .ok (.if_icmp .gt 65, 3) := by decide +kernel
theorem dX2_init_31 : decode cX2_init 31 = .ok (.iconst 0, 1) := by decide +kernel
theorem dX2_init_32 : decode cX2_init 32 = .ok (.istore_n 2, 1) := by decide +kernel
theorem dX2_init_33 : decode cX2_init 33 = .ok (.iload_n 2, 1) := by decide +kernel
theorem dX2_init_34 : decode cX2_init 34 = .ok (.bipush 20, 2) := by decide +kernel
theorem dX2_init_36 : decode cX2_init 36 = .ok (.if_icmp .gt 51, 3) := by decide +kernel
theorem dX2_init_39 : decode cX2_init 39 = .ok (.iconst 0, 1) := by decide +kernel
theorem dX2_init_40 : decode cX2_init 40 = .ok (.istore_n 3, 1) := by decide +kernel
theorem dX2_init_41 : decode cX2_init 41 = .ok (.iload_n 3, 1) := by decide +kernel
theorem dX2_init_42 : decode cX2_init 42 = .ok (.bipush 6, 2) := by decide +kernel
theorem dX2_init_44 : decode cX2_init 44 = .ok (.if_icmp .ge 37, 3) := by decide +kernel
theorem dX2_init_47 : decode cX2_init 47 = .ok (.iload_n 3, 1) := by decide +kernel
theorem dX2_init_48 : decode cX2_init 48 = .ok (.iload_n 2, 1) := by decide +kernel
theorem dX2_init_49 : decode cX2_init 49 = .ok (.if_icmp .gt 32, 3) := by decide +kernel
theorem dX2_init_52 : decode cX2_init 52 = .ok (.aload_n 0, 1) := by decide +kernel
theorem dX2_init_53 : decode cX2_init 53 = .ok (.getfield 13, 3) := by decide +kernel
theorem dX2_init_56 : decode cX2_init 56 = .ok (.iload_n 1, 1) := by decide +kernel
theorem dX2_init_57 : decode cX2_init 57 = .ok (.aaload, 1) := by decide +kernel
theorem dX2_init_58 : decode cX2_init 58 = .ok (.iload_n 2, 1) := by decide +kernel
theorem dX2_init_59 : decode cX2_init 59 = .ok (.dup2, 1) := by decide +kernel
theorem dX2_init_60 : decode cX2_init 60 = .ok (.iaload, 1) := by decide +kernel
theorem dX2_init_61 : decode cX2_init 61 = .ok (.aload_n 0, 1) := by decide +kernel
theorem dX2_init_62 : decode cX2_init 62 = .ok (.getfield 13, 3) := by decide +kernel
theorem dX2_init_65 : decode cX2_init 65 = .ok (.iload_n 1, 1) := by decide +kernel
theorem dX2_init_66 : decode cX2_init 66 = .ok (.iconst 1, 1) := by decide +kernel
theorem dX2_init_67 : decode cX2_init 67 = .ok (.isub, 1) := by decide +kernel
theorem dX2_init_68 : decode cX2_init 68 = .ok (.aaload, 1) := by decide +kernel
theorem dX2_init_69 : decode cX2_init 69 = .ok (.iload_n 2, 1) := by decide +kernel
theorem dX2_init_70 : decode cX2_init 70 = .ok (.iload_n 3, 1) := by decide +kernel
theorem dX2_init_71 : decode cX2_init 71 = .ok (.isub, 1) := by decide +kernel
theorem dX2_init_72 : decode cX2_init 72 = .ok (.iaload, 1) := by decide +kernel
theorem dX2_init_73 : decode cX2_init 73 = .ok (.iadd, 1) := by decide +kernel
theorem dX2_init_74 : decode cX2_init 74 = .ok (.iastore, 1) := by decide +kernel
theorem dX2_init_75 : decode cX2_init 75 = .ok (.iinc 3 1, 3) := by decide +kernel
theorem dX2_init_78 : decode cX2_init 78 = .ok (.goto (-37), 3) := by decide +kernel
theorem dX2_init_81 : decode cX2_init 81 = .ok (.iinc 2 1, 3) := by decide +kernel
theorem dX2_init_84 : decode cX2_init 84 = .ok (.goto (-51), 3) := by decide +kernel
theorem dX2_init_87 : decode cX2_init 87 = .ok (.iinc 1 1, 3) := by decide +kernel
theorem dX2_init_90 : decode cX2_init 90 = .ok (.goto (-64), 3) := by decide +kernel
theorem dX2_init_93 : decode cX2_init 93 = .ok (.return_, 1) := by decide +kernel
theorem dX2_trialOf_0 : decode cX2_trialOf 0 = .ok (.aload_n 1, 1) := by decide +kernel
theorem dX2_trialOf_1 : decode cX2_trialOf 1 = .ok (.iload_n 2, 1) := by decide +kernel
theorem dX2_trialOf_2 : decode cX2_trialOf 2 = .ok (.invokestatic 16, 3) := by decide +kernel
theorem dX2_trialOf_5 : decode cX2_trialOf 5 = .ok (.istore_n 3, 1) := by decide +kernel
theorem dX2_trialOf_6 : decode cX2_trialOf 6 = .ok (.iconst 0, 1) := by decide +kernel
theorem dX2_trialOf_7 : decode cX2_trialOf 7 = .ok (.istore 4, 2) := by decide +kernel
theorem dX2_trialOf_9 : decode cX2_trialOf 9 = .ok (.iconst 0, 1) := by decide +kernel
theorem dX2_trialOf_10 : decode cX2_trialOf 10 = .ok (.istore 5, 2) := by decide +kernel
theorem dX2_trialOf_12 : decode cX2_trialOf 12 = .ok (.iload 5, 2) := by decide +kernel
theorem dX2_trialOf_14 : decode cX2_trialOf 14 = .ok (.iload_n 3, 1) := by decide +kernel
theorem dX2_trialOf_15 : decode cX2_trialOf 15 = .ok (.if_icmp .ge 21, 3) := by decide +kernel
theorem dX2_trialOf_18 : decode cX2_trialOf 18 = .ok (.iload 4, 2) := by decide +kernel
theorem dX2_trialOf_20 : decode cX2_trialOf 20 = .ok (.aload_n 0, 1) := by decide +kernel
theorem dX2_trialOf_21 : decode cX2_trialOf 21 = .ok (.iconst 4, 1) := by decide +kernel
theorem dX2_trialOf_22 : decode cX2_trialOf 22 = .ok (.iload 5, 2) := by decide +kernel
theorem dX2_trialOf_24 : decode cX2_trialOf 24 = .ok (.invokevirtual 20, 3) := by decide +kernel
theorem dX2_trialOf_27 : decode cX2_trialOf 27 = .ok (.iadd, 1) := by decide +kernel
theorem dX2_trialOf_28 : decode cX2_trialOf 28 = .ok (.istore 4, 2) := by decide +kernel
theorem dX2_trialOf_30 : decode cX2_trialOf 30 = .ok (.iinc 5 1, 3) := by decide +kernel
theorem dX2_trialOf_33 : decode cX2_trialOf 33 = .ok (.goto (-21), 3) := by decide +kernel
theorem dX2_trialOf_36 : decode cX2_trialOf 36 = .ok (.iload 4, 2) := by decide +kernel
theorem dX2_trialOf_38 : decode cX2_trialOf 38 = .ok (.aload_n 0, 1) := by decide +kernel
theorem dX2_trialOf_39 : decode cX2_trialOf 39 = .ok (.aload_n 1, 1) := by decide +kernel
theorem dX2_trialOf_40 : decode cX2_trialOf 40 = .ok (.iload_n 2, 1) := by decide +kernel
theorem dX2_trialOf_41 : decode cX2_trialOf 41 = .ok (.iload_n 3, 1) := by decide +kernel
theorem dX2_trialOf_42 : decode cX2_trialOf 42 = .ok (.invokevirtual 24, 3) := by decide +kernel
theorem dX2_trialOf_45 : decode cX2_trialOf 45 = .ok (.iadd, 1) := by decide +kernel
theorem dX2_trialOf_46 : decode cX2_trialOf 46 = .ok (.iconst 1, 1) := by decide +kernel
theorem dX2_trialOf_47 : decode cX2_trialOf 47 = .ok (.iadd, 1) := by decide +kernel
theorem dX2_trialOf_48 : decode cX2_trialOf 48 = .ok (.ireturn, 1) := by decide +kernel
theorem dX2_sumOfPlaces_0 : decode cX2_sumOfPlaces 0 = .ok (.iconst 0, 1) := by decide +kernel
theorem dX2_sumOfPlaces_1 : decode cX2_sumOfPlaces 1 = .ok (.istore_n 2, 1) := by decide +kernel
theorem dX2_sumOfPlaces_2 : decode cX2_sumOfPlaces 2 = .ok (.iconst 0, 1) := by decide +kernel
theorem dX2_sumOfPlaces_3 : decode cX2_sumOfPlaces 3 = .ok (.istore_n 3, 1) := by decide +kernel
theorem dX2_sumOfPlaces_4 : decode cX2_sumOfPlaces 4 = .ok (.iload_n 3, 1) := by decide +kernel
theorem dX2_sumOfPlaces_5 : decode cX2_sumOfPlaces 5 = .ok (.iconst 4, 1) := by decide +kernel
theorem dX2_sumOfPlaces_6 : decode cX2_sumOfPlaces 6 = .ok (.if_icmp .ge 22, 3) := by decide +kernel
theorem dX2_sumOfPlaces_9 : decode cX2_sumOfPlaces 9 = .ok (.iload_n 2, 1) := by decide +kernel
theorem dX2_sumOfPlaces_10 : decode cX2_sumOfPlaces 10 = .ok (.aload_n 0, 1) := by decide +kernel
theorem dX2_sumOfPlaces_11 : decode cX2_sumOfPlaces 11 = .ok (.iload_n 3, 1) := by decide +kernel
theorem dX2_sumOfPlaces_12 : decode cX2_sumOfPlaces 12 = .ok (.iload_n 1, 1) := by decide +kernel
theorem dX2_sumOfPlaces_13 : decode cX2_sumOfPlaces 13 = .ok (.iload_n 3, 1) := by decide +kernel
theorem dX2_sumOfPlaces_14 : decode cX2_sumOfPlaces 14 = .ok (.invokestatic 28, 3) := by decide +kernel
theorem dX2_sumOfPlaces_17 : decode cX2_sumOfPlaces 17 = .ok (.invokevirtual 31, 3) := by decide +kernel
theorem dX2_sumOfPlaces_20 : decode cX2_sumOfPlaces 20 = .ok (.iadd, 1) := by decide +kernel
theorem dX2_sumOfPlaces_21 : decode cX2_sumOfPlaces 21 = .ok (.istore_n 2, 1) := by decide +kernel
theorem dX2_sumOfPlaces_22 : decode cX2_sumOfPlaces 22 = .ok (.iinc 3 1, 3) := by decide +kernel
theorem dX2_sumOfPlaces_25 : decode cX2_sumOfPlaces 25 = .ok (.goto (-21), 3) := by decide +kernel
theorem dX2_sumOfPlaces_28 : decode cX2_sumOfPlaces 28 = .ok (.iload_n 2, 1) := by decide +kernel
theorem dX2_sumOfPlaces_29 : decode cX2_sumOfPlaces 29 = .ok (.ireturn, 1) := by decide +kernel
theorem dX2_lesserWordsOfSum_0 : decode cX2_lesserWordsOfSum 0 = .ok (.iconst 0, 1) := by decide +kernel
theorem dX2_lesserWordsOfSum_1 : decode cX2_lesserWordsOfSum 1 = .ok (.istore 4, 2) := by decide +kernel
theorem dX2_lesserWordsOfSum_3 : decode cX2_lesserWordsOfSum 3 = .ok (.iload_n 3, 1) := by decide +kernel
theorem dX2_lesserWordsOfSum_4 : decode cX2_lesserWordsOfSum 4 = .ok (.istore 5, 2) := by decide +kernel
theorem dX2_lesserWordsOfSum_6 : decode cX2_lesserWordsOfSum 6 = .ok (.iconst 0, 1) := by decide +kernel
theorem dX2_lesserWordsOfSum_7 : decode cX2_lesserWordsOfSum 7 = .ok (.istore 6, 2) := by decide +kernel
theorem dX2_lesserWordsOfSum_9 : decode cX2_lesserWordsOfSum 9 = .ok (.iload 6, 2) := by decide +kernel
theorem dX2_lesserWordsOfSum_11 : decode cX2_lesserWordsOfSum 11 = .ok (.iconst 4, 1) := by decide +kernel
theorem dX2_lesserWordsOfSum_12 : decode cX2_lesserWordsOfSum 12 = .ok (.if_icmp .ge 74, 3) := by decide +kernel
theorem dX2_lesserWordsOfSum_15 : decode cX2_lesserWordsOfSum 15 = .ok (.iload_n 2, 1) := by decide +kernel
theorem dX2_lesserWordsOfSum_16 : decode cX2_lesserWordsOfSum 16 = .ok (.iload 6, 2) := by decide +kernel
theorem dX2_lesserWordsOfSum_18 : decode cX2_lesserWordsOfSum 18 = .ok (.invokestatic 28, 3) := by decide +kernel
theorem dX2_lesserWordsOfSum_21 : decode cX2_lesserWordsOfSum 21 = .ok (.istore 7, 2) := by decide +kernel
theorem dX2_lesserWordsOfSum_23 : decode cX2_lesserWordsOfSum 23 = .ok (.iconst 3, 1) := by decide +kernel
theorem dX2_lesserWordsOfSum_24 : decode cX2_lesserWordsOfSum 24 = .ok (.iload 6, 2) := by decide +kernel
theorem dX2_lesserWordsOfSum_26 : decode cX2_lesserWordsOfSum 26 = .ok (.isub, 1) := by decide +kernel
theorem dX2_lesserWordsOfSum_27 : decode cX2_lesserWordsOfSum 27 = .ok (.istore 8, 2) := by decide +kernel
theorem dX2_lesserWordsOfSum_29 : decode cX2_lesserWordsOfSum 29 = .ok (.iconst 0, 1) := by decide +kernel
theorem dX2_lesserWordsOfSum_30 : decode cX2_lesserWordsOfSum 30 = .ok (.istore 9, 2) := by decide +kernel
theorem dX2_lesserWordsOfSum_32 : decode cX2_lesserWordsOfSum 32 = .ok (.iload 9, 2) := by decide +kernel
theorem dX2_lesserWordsOfSum_34 : decode cX2_lesserWordsOfSum 34 = .ok (.iload 7, 2) := by decide +kernel
theorem dX2_lesserWordsOfSum_36 : decode cX2_lesserWordsOfSum 36 = .ok (.if_icmp .ge 31, 3) := by decide +kernel
theorem dX2_lesserWordsOfSum_39 : decode cX2_lesserWordsOfSum 39 = .ok (.iload 4, 2) := by decide +kernel
theorem dX2_lesserWordsOfSum_41 : decode cX2_lesserWordsOfSum 41 = .ok (.aload_n 0, 1) := by decide +kernel
theorem dX2_lesserWordsOfSum_42 : decode cX2_lesserWordsOfSum 42 = .ok (.iload 8, 2) := by decide +kernel
theorem dX2_lesserWordsOfSum_44 : decode cX2_lesserWordsOfSum 44 = .ok (.iload 5, 2) := by decide +kernel
theorem dX2_lesserWordsOfSum_46 : decode cX2_lesserWordsOfSum 46 = .ok (.aload_n 1, 1) := by decide +kernel
theorem dX2_lesserWordsOfSum_47 : decode cX2_lesserWordsOfSum 47 = .ok (.iload 6, 2) := by decide +kernel
theorem dX2_lesserWordsOfSum_49 : decode cX2_lesserWordsOfSum 49 = .ok (.iload 9, 2) := by decide +kernel
theorem dX2_lesserWordsOfSum_51 : decode cX2_lesserWordsOfSum 51 = .ok (.invokevirtual 31, 3) := by decide +kernel
theorem dX2_lesserWordsOfSum_54 : decode cX2_lesserWordsOfSum 54 = .ok (.isub, 1) := by decide +kernel
theorem dX2_lesserWordsOfSum_55 : decode cX2_lesserWordsOfSum 55 = .ok (.invokevirtual 20, 3) := by decide +kernel
theorem dX2_lesserWordsOfSum_58 : decode cX2_lesserWordsOfSum 58 = .ok (.iadd, 1) := by decide +kernel
theorem dX2_lesserWordsOfSum_59 : decode cX2_lesserWordsOfSum 59 = .ok (.istore 4, 2) := by decide +kernel
theorem dX2_lesserWordsOfSum_61 : decode cX2_lesserWordsOfSum 61 = .ok (.iinc 9 1, 3) := by decide +kernel
theorem dX2_lesserWordsOfSum_64 : decode cX2_lesserWordsOfSum 64 = .ok (.goto (-32), 3) := by decide +kernel
theorem dX2_lesserWordsOfSum_67 : decode cX2_lesserWordsOfSum 67 = .ok (.iload 5, 2) := by decide +kernel
theorem dX2_lesserWordsOfSum_69 : decode cX2_lesserWordsOfSum 69 = .ok (.aload_n 1, 1) := by decide +kernel
theorem dX2_lesserWordsOfSum_70 : decode cX2_lesserWordsOfSum 70 = .ok (.iload 6, 2) := by decide +kernel
theorem dX2_lesserWordsOfSum_72 : decode cX2_lesserWordsOfSum 72 = .ok (.iload 7, 2) := by decide +kernel
theorem dX2_lesserWordsOfSum_74 : decode cX2_lesserWordsOfSum 74 = .ok (.invokevirtual 31, 3) := by decide +kernel
theorem dX2_lesserWordsOfSum_77 : decode cX2_lesserWordsOfSum 77 = .ok (.isub, 1) := by decide +kernel
theorem dX2_lesserWordsOfSum_78 : decode cX2_lesserWordsOfSum 78 = .ok (.istore 5, 2) := by decide +kernel
theorem dX2_lesserWordsOfSum_80 : decode cX2_lesserWordsOfSum 80 = .ok (.iinc 6 1, 3) := by decide +kernel
theorem dX2_lesserWordsOfSum_83 : decode cX2_lesserWordsOfSum 83 = .ok (.goto (-74), 3) := by decide +kernel
theorem dX2_lesserWordsOfSum_86 : decode cX2_lesserWordsOfSum 86 = .ok (.iload 4, 2) := by decide +kernel
theorem dX2_lesserWordsOfSum_88 : decode cX2_lesserWordsOfSum 88 = .ok (.ireturn, 1) := by decide +kernel
theorem dX2_wordsWith_0 : decode cX2_wordsWith 0 = .ok (.iload_n 1, 1) := by decide +kernel
theorem dX2_wordsWith_1 : decode cX2_wordsWith 1 = .ok (.ifCond .lt 18, 3) := by decide +kernel
theorem dX2_wordsWith_4 : decode cX2_wordsWith 4 = .ok (.iload_n 1, 1) := by decide +kernel
theorem dX2_wordsWith_5 : decode cX2_wordsWith 5 = .ok (.iconst 4, 1) := by decide +kernel
theorem dX2_wordsWith_6 : decode cX2_wordsWith 6 = .ok (.if_icmp .gt 13, 3) := by decide +kernel
theorem dX2_wordsWith_9 : decode cX2_wordsWith 9 = .ok (.iload_n 2, 1) := by decide +kernel
theorem dX2_wordsWith_10 : decode cX2_wordsWith 10 = .ok (.ifCond .lt 9, 3) := by decide +kernel
theorem dX2_wordsWith_13 : decode cX2_wordsWith 13 = .ok (.iload_n 2, 1) := by decide +kernel
theorem dX2_wordsWith_14 : decode cX2_wordsWith 14 = .ok (.bipush 20, 2) := by decide +kernel
theorem dX2_wordsWith_16 : decode cX2_wordsWith 16 = .ok (.if_icmp .le 5, 3) := by decide +kernel
theorem dX2_wordsWith_19 : decode cX2_wordsWith 19 = .ok (.iconst 0, 1) := by decide +kernel
theorem dX2_wordsWith_20 : decode cX2_wordsWith 20 = .ok (.ireturn, 1) := by decide +kernel
theorem dX2_wordsWith_21 : decode cX2_wordsWith 21 = .ok (.aload_n 0, 1) := by decide +kernel
theorem dX2_wordsWith_22 : decode cX2_wordsWith 22 = .ok (.getfield 13, 3) := by decide +kernel
theorem dX2_wordsWith_25 : decode cX2_wordsWith 25 = .ok (.iload_n 1, 1) := by decide +kernel
theorem dX2_wordsWith_26 : decode cX2_wordsWith 26 = .ok (.aaload, 1) := by decide +kernel
theorem dX2_wordsWith_27 : decode cX2_wordsWith 27 = .ok (.iload_n 2, 1) := by decide +kernel
theorem dX2_wordsWith_28 : decode cX2_wordsWith 28 = .ok (.iaload, 1) := by decide +kernel
theorem dX2_wordsWith_29 : decode cX2_wordsWith 29 = .ok (.ireturn, 1) := by decide +kernel
theorem dX3_init_0 : decode cX3_init 0 = .ok (.aload_n 0, 1) := by decide +kernel
theorem dX3_init_1 : decode cX3_init 1 = .ok (.invokespecial 1, 3) := by decide +kernel
theorem dX3_init_4 : decode cX3_init 4 = .ok (.aload_n 0, 1) := by decide +kernel
theorem dX3_init_5 : decode cX3_init 5 = .ok (.new 7, 3) := by decide +kernel
theorem dX3_init_8 : decode cX3_init 8 = .ok (.dup, 1) := by decide +kernel
theorem dX3_init_9 : decode cX3_init 9 = .ok (.invokespecial 9, 3) := by decide +kernel
theorem dX3_init_12 : decode cX3_init 12 = .ok (.putfield 10, 3) := by decide +kernel
theorem dX3_init_15 : decode cX3_init 15 = .ok (.aload_n 0, 1) := by decide +kernel
theorem dX3_init_16 : decode cX3_init 16 = .ok (.iconst 3, 1) := by decide +kernel
theorem dX3_init_17 : decode cX3_init 17 = .ok (.anewarray 16, 3) := by decide +kernel
theorem dX3_init_20 : decode cX3_init 20 = .ok (.putfield 18, 3) := by decide +kernel
theorem dX3_init_23 : decode cX3_init 23 = .ok (.iconst 0, 1) := by decide +kernel
theorem dX3_init_24 : decode cX3_init 24 = .ok (.istore_n 1, 1) := by decide +kernel
theorem dX3_init_25 : decode cX3_init 25 = .ok (.iload_n 1, 1) := by decide +kernel
theorem dX3_init_26 : decode cX3_init 26 = .ok (.aload_n 0, 1) := by decide +kernel
theorem dX3_init_27 : decode cX3_init 27 = .ok (.getfield 18, 3) := by decide +kernel
theorem dX3_init_30 : decode cX3_init 30 = .ok (.arraylength, 1) := by decide +kernel
theorem dX3_init_31 : decode cX3_init 31 = .ok (.if_icmp .ge 22, 3) := by decide +kernel
theorem dX3_init_34 : decode cX3_init 34 = .ok (.aload_n 0, 1) := by decide +kernel
theorem dX3_init_35 : decode cX3_init 35 = .ok (.getfield 18, 3) := by decide +kernel
theorem dX3_init_38 : decode cX3_init 38 = .ok (.iload_n 1, 1) := by decide +kernel
theorem dX3_init_39 : decode cX3_init 39 = .ok (.new 16, 3) := by decide +kernel
theorem dX3_init_42 : decode cX3_init 42 = .ok (.dup, 1) := by decide +kernel
theorem dX3_init_43 : decode cX3_init 43 = .ok (.invokespecial 22, 3) := by decide +kernel
theorem dX3_init_46 : decode cX3_init 46 = .ok (.aastore, 1) := by decide +kernel
theorem dX3_init_47 : decode cX3_init 47 = .ok (.iinc 1 1, 3) := by decide +kernel
theorem dX3_init_50 : decode cX3_init 50 = .ok (.goto (-25), 3) := by decide +kernel
theorem dX3_init_53 : decode cX3_init 53 = .ok (.aload_n 0, 1) := by decide +kernel
theorem dX3_init_54 : decode cX3_init 54 = .ok (.new 23, 3) := by decide +kernel
theorem dX3_init_57 : decode cX3_init 57 = .ok (.dup, 1) := by decide +kernel
theorem dX3_init_58 : decode cX3_init 58 = .ok (.invokespecial 25, 3) := by decide +kernel
theorem dX3_init_61 : decode cX3_init 61 = .ok (.putfield 26, 3) := by decide +kernel
theorem dX3_init_64 : decode cX3_init 64 = .ok (.aload_n 0, 1) := by decide +kernel
theorem dX3_init_65 : decode cX3_init 65 = .ok (.new 30, 3) := by decide +kernel
theorem dX3_init_68 : decode cX3_init 68 = .ok (.dup, 1) := by decide +kernel
theorem dX3_init_69 : decode cX3_init 69 = .ok (.iconst 0, 1) := by decide +kernel
theorem dX3_init_70 : decode cX3_init 70 = .ok (.invokespecial 32, 3) := by decide +kernel
theorem dX3_init_73 : decode cX3_init 73 = .ok (.putfield 35, 3) := by decide +kernel
theorem dX3_init_76 : decode cX3_init 76 = .ok (.aload_n 0, 1) := by decide +kernel
theorem dX3_init_77 : decode cX3_init 77 = .ok (.iconst 0, 1) := by decide +kernel
theorem dX3_init_78 : decode cX3_init 78 = .ok (.putfield 39, 3) := by decide +kernel
theorem dX3_init_81 : decode cX3_init 81 = .ok (.aload_n 0, 1) := by decide +kernel
theorem dX3_init_82 : decode cX3_init 82 = .ok (.iconst 0, 1) := by decide +kernel
theorem dX3_init_83 : decode cX3_init 83 = .ok (.putfield 43, 3) := by decide +kernel
theorem dX3_init_86 : decode cX3_init 86 = .ok (.return_, 1) := by decide +kernel
theorem dX3_lock_0 : decode cX3_lock 0 = .ok (.iload_n 1, 1) := by decide +kernel
theorem dX3_lock_1 : decode cX3_lock 1 = .ok (.invokestatic 46, 3) := by decide +kernel
theorem dX3_lock_4 : decode cX3_lock 4 = .ok (.aload_n 0, 1) := by decide +kernel
theorem dX3_lock_5 : decode cX3_lock 5 = .ok (.getfield 10, 3) := by decide +kernel
theorem dX3_lock_8 : decode cX3_lock 8 = .ok (.invokevirtual 49, 3) := by decide +kernel
theorem dX3_lock_11 : decode cX3_lock 11 = .ok (.bipush 8, 2) := by decide +kernel
theorem dX3_lock_13 : decode cX3_lock 13 = .ok (.if_icmp .lt 13, 3) := by decide +kernel
theorem dX3_lock_16 : decode cX3_lock 16 = .ok (.new 53, 3) := by decide +kernel
theorem dX3_lock_19 : decode cX3_lock 19 = .ok (.dup, 1) := by decide +kernel
theorem dX3_lock_20 : decode cX3_lock 20 = .ok (.ldc 55, 2) := by decide +kernel
theorem dX3_lock_22 : decode cX3_lock 22 = .ok (.invokespecial 57, 3) := by decide +kernel
theorem dX3_lock_25 : decode cX3_lock 25 = .ok (.athrow, 1) := by decide +kernel
theorem dX3_lock_26 : decode cX3_lock 26 = .ok (.aload_n 0, 1) := by decide +kernel
theorem dX3_lock_27 : decode cX3_lock 27 = .ok (.getfield 10, 3) := by decide +kernel
theorem dX3_lock_30 : decode cX3_lock 30 = .ok (.new 30, 3) := by decide +kernel
theorem dX3_lock_33 : decode cX3_lock 33 = .ok (.dup, 1) := by decide +kernel
theorem dX3_lock_34 : decode cX3_lock 34 = .ok (.iload_n 1, 1) := by decide +kernel
theorem dX3_lock_35 : decode cX3_lock 35 = .ok (.invokespecial 32, 3) := by decide +kernel
theorem dX3_lock_38 : decode cX3_lock 38 = .ok (.invokevirtual 60, 3) := by decide +kernel
theorem dX3_lock_41 : decode cX3_lock 41 = .ok (.pop, 1) := by decide +kernel
theorem dX3_lock_42 : decode cX3_lock 42 = .ok (.aload_n 0, 1) := by decide +kernel
theorem dX3_lock_43 : decode cX3_lock 43 = .ok (.getfield 10, 3) := by decide +kernel
theorem dX3_lock_46 : decode cX3_lock 46 = .ok (.invokevirtual 49, 3) := by decide +kernel
theorem dX3_lock_49 : decode cX3_lock 49 = .ok (.iconst 1, 1) := by decide +kernel
theorem dX3_lock_50 : decode cX3_lock 50 = .ok (.isub, 1) := by decide +kernel
theorem dX3_lock_51 : decode cX3_lock 51 = .ok (.ireturn, 1) := by decide +kernel
theorem dX3_turn_0 : decode cX3_turn 0 = .ok (.aload_n 0, 1) := by decide +kernel
theorem dX3_turn_1 : decode cX3_turn 1 = .ok (.iload_n 1, 1) := by decide +kernel
theorem dX3_turn_2 : decode cX3_turn 2 = .ok (.invokevirtual 64, 3) := by decide +kernel
theorem dX3_turn_5 : decode cX3_turn 5 = .ok (.astore 4, 2) := by decide +kernel
theorem dX3_turn_7 : decode cX3_turn 7 = .ok (.iload_n 2, 1) := by decide +kernel
theorem dX3_turn_8 : decode cX3_turn 8 = .ok (.invokestatic 68, 3) := by decide +kernel
theorem dX3_turn_11 : decode cX3_turn 11 = .ok (.iload_n 3, 1) := by decide +kernel
theorem dX3_turn_12 : decode cX3_turn 12 = .ok (.invokestatic 71, 3) := by decide +kernel
theorem dX3_turn_15 : decode cX3_turn 15 = .ok (.ifCond .ne 13, 3) := by decide +kernel
theorem dX3_turn_18 : decode cX3_turn 18 = .ok (.new 75, 3) := by decide +kernel
theorem dX3_turn_21 : decode cX3_turn 21 = .ok (.dup, 1) := by decide +kernel
theorem dX3_turn_22 : decode cX3_turn 22 = .ok (.ldc 77, 2) := by decide +kernel
theorem dX3_turn_24 : decode cX3_turn 24 = .ok (.invokespecial 79, 3) := by decide +kernel
theorem dX3_turn_27 : decode cX3_turn 27 = .ok (.athrow, 1) := by decide +kernel
theorem dX3_turn_28 : decode cX3_turn 28 = .ok (.aload 4, 2) := by decide +kernel
theorem dX3_turn_30 : decode cX3_turn 30 = .ok (.iload_n 2, 1) := by decide +kernel
theorem dX3_turn_31 : decode cX3_turn 31 = .ok (.invokevirtual 80, 3) := by decide +kernel
theorem dX3_turn_34 : decode cX3_turn 34 = .ok (.iload_n 3, 1) := by decide +kernel
theorem dX3_turn_35 : decode cX3_turn 35 = .ok (.invokestatic 84, 3) := by decide +kernel
theorem dX3_turn_38 : decode cX3_turn 38 = .ok (.istore 5, 2) := by decide +kernel
theorem dX3_turn_40 : decode cX3_turn 40 = .ok (.aload 4, 2) := by decide +kernel
theorem dX3_turn_42 : decode cX3_turn 42 = .ok (.iload_n 2, 1) := by decide +kernel
theorem dX3_turn_43 : decode cX3_turn 43 = .ok (.iload_n 3, 1) := by decide +kernel
theorem dX3_turn_44 : decode cX3_turn 44 = .ok (.invokevirtual 88, 3) := by decide +kernel
theorem dX3_turn_47 : decode cX3_turn 47 = .ok (.aload_n 0, 1) := by decide +kernel
theorem dX3_turn_48 : decode cX3_turn 48 = .ok (.dup, 1) := by decide +kernel
theorem dX3_turn_49 : decode cX3_turn 49 = .ok (.getfield 43, 3) := by decide +kernel
theorem dX3_turn_52 : decode cX3_turn 52 = .ok (.iload 5, 2) := by decide +kernel
theorem dX3_turn_54 : decode cX3_turn 54 = .ok (.iadd, 1) := by decide +kernel
theorem dX3_turn_55 : decode cX3_turn 55 = .ok (.putfield 43, 3) := by decide +kernel
theorem dX3_turn_58 : decode cX3_turn 58 = .ok (.iload 5, 2) := by decide +kernel
theorem dX3_turn_60 : decode cX3_turn 60 = .ok (.ireturn, 1) := by decide +kernel
theorem dX3_open_0 : decode cX3_open 0 = .ok (.aload_n 0, 1) := by decide +kernel
theorem dX3_open_1 : decode cX3_open 1 = .ok (.iload_n 1, 1) := by decide +kernel
theorem dX3_open_2 : decode cX3_open 2 = .ok (.invokevirtual 64, 3) := by decide +kernel
theorem dX3_open_5 : decode cX3_open 5 = .ok (.astore_n 2, 1) := by decide +kernel
theorem dX3_open_6 : decode cX3_open 6 = .ok (.aload_n 2, 1) := by decide +kernel
theorem dX3_open_7 : decode cX3_open 7 = .ok (.invokevirtual 92, 3) := by decide +kernel
theorem dX3_open_10 : decode cX3_open 10 = .ok (.aload_n 2, 1) := by decide +kernel
theorem dX3_open_11 : decode cX3_open 11 = .ok (.getfield 95, 3) := by decide +kernel
theorem dX3_open_14 : decode cX3_open 14 = .ok (.if_icmp .ne 8, 3) := by decide +kernel
theorem dX3_open_17 : decode cX3_open 17 = .ok (.aload_n 2, 1) := by decide +kernel
theorem dX3_open_18 : decode cX3_open 18 = .ok (.iconst 1, 1) := by decide +kernel
theorem dX3_open_19 : decode cX3_open 19 = .ok (.putfield 98, 3) := by decide +kernel
theorem dX3_open_22 : decode cX3_open 22 = .ok (.aload_n 2, 1) := by decide +kernel
theorem dX3_open_23 : decode cX3_open 23 = .ok (.getfield 98, 3) := by decide +kernel
theorem dX3_open_26 : decode cX3_open 26 = .ok (.ireturn, 1) := by decide +kernel
theorem dX3_shut_0 : decode cX3_shut 0 = .ok (.aload_n 0, 1) := by decide +kernel
theorem dX3_shut_1 : decode cX3_shut 1 = .ok (.iload_n 1, 1) := by decide +kernel
theorem dX3_shut_2 : decode cX3_shut 2 = .ok (.invokevirtual 64, 3) := by decide +kernel
theorem dX3_shut_5 : decode cX3_shut 5 = .ok (.astore_n 2, 1) := by decide +kernel
theorem dX3_shut_6 : decode cX3_shut 6 = .ok (.aload_n 2, 1) := by decide +kernel
theorem dX3_shut_7 : decode cX3_shut 7 = .ok (.invokestatic 102, 3) := by decide +kernel
theorem dX3_shut_10 : decode cX3_shut 10 = .ok (.aload_n 2, 1) := by decide +kernel
theorem dX3_shut_11 : decode cX3_shut 11 = .ok (.invokevirtual 106, 3) := by decide +kernel
theorem dX3_shut_14 : decode cX3_shut 14 = .ok (.aload_n 2, 1) := by decide +kernel
theorem dX3_shut_15 : decode cX3_shut 15 = .ok (.invokevirtual 92, 3) := by decide +kernel
theorem dX3_shut_18 : decode cX3_shut 18 = .ok (.ireturn, 1) := by decide +kernel
theorem dX3_rename_0 : decode cX3_rename 0 = .ok (.aload_n 0, 1) := by decide +kernel
theorem dX3_rename_1 : decode cX3_rename 1 = .ok (.iload_n 1, 1) := by decide +kernel
theorem dX3_rename_2 : decode cX3_rename 2 = .ok (.invokevirtual 64, 3) := by decide +kernel
theorem dX3_rename_5 : decode cX3_rename 5 = .ok (.astore_n 3, 1) := by decide +kernel
theorem dX3_rename_6 : decode cX3_rename 6 = .ok (.iload_n 2, 1) := by decide +kernel
theorem dX3_rename_7 : decode cX3_rename 7 = .ok (.invokestatic 46, 3) := by decide +kernel
theorem dX3_rename_10 : decode cX3_rename 10 = .ok (.aload_n 3, 1) := by decide +kernel
theorem dX3_rename_11 : decode cX3_rename 11 = .ok (.invokestatic 102, 3) := by decide +kernel
theorem dX3_rename_14 : decode cX3_rename 14 = .ok (.aload_n 3, 1) := by decide +kernel
theorem dX3_rename_15 : decode cX3_rename 15 = .ok (.getfield 95, 3) := by decide +kernel
theorem dX3_rename_18 : decode cX3_rename 18 = .ok (.istore 4, 2) := by decide +kernel
theorem dX3_rename_20 : decode cX3_rename 20 = .ok (.aload_n 3, 1) := by decide +kernel
theorem dX3_rename_21 : decode cX3_rename 21 = .ok (.iload_n 2, 1) := by decide +kernel
theorem dX3_rename_22 : decode cX3_rename 22 = .ok (.putfield 95, 3) := by decide +kernel
theorem dX3_rename_25 : decode cX3_rename 25 = .ok (.aload_n 3, 1) := by decide +kernel
theorem dX3_rename_26 : decode cX3_rename 26 = .ok (.iconst 0, 1) := by decide +kernel
theorem dX3_rename_27 : decode cX3_rename 27 = .ok (.putfield 109, 3) := by decide +kernel
theorem dX3_rename_30 : decode cX3_rename 30 = .ok (.iload 4, 2) := by decide +kernel
theorem dX3_rename_32 : decode cX3_rename 32 = .ok (.ireturn, 1) := by decide +kernel
theorem dX3_lose_0 : decode cX3_lose 0 = .ok (.aload_n 0, 1) := by decide +kernel
theorem dX3_lose_1 : decode cX3_lose 1 = .ok (.iload_n 1, 1) := by decide +kernel
theorem dX3_lose_2 : decode cX3_lose 2 = .ok (.invokevirtual 64, 3) := by decide +kernel
theorem dX3_lose_5 : decode cX3_lose 5 = .ok (.astore_n 3, 1) := by decide +kernel
theorem dX3_lose_6 : decode cX3_lose 6 = .ok (.aload_n 3, 1) := by decide +kernel
theorem dX3_lose_7 : decode cX3_lose 7 = .ok (.getfield 109, 3) := by decide +kernel
theorem dX3_lose_10 : decode cX3_lose 10 = .ok (.istore 4, 2) := by decide +kernel
theorem dX3_lose_12 : decode cX3_lose 12 = .ok (.aload_n 3, 1) := by decide +kernel
theorem dX3_lose_13 : decode cX3_lose 13 = .ok (.iload_n 2, 1) := by decide +kernel
theorem dX3_lose_14 : decode cX3_lose 14 = .ok (.putfield 109, 3) := by decide +kernel
theorem dX3_lose_17 : decode cX3_lose 17 = .ok (.iload 4, 2) := by decide +kernel
theorem dX3_lose_19 : decode cX3_lose 19 = .ok (.ireturn, 1) := by decide +kernel
theorem dX3_setPlaces_0 : decode cX3_setPlaces 0 = .ok (.aload_n 0, 1) := by decide +kernel
theorem dX3_setPlaces_1 : decode cX3_setPlaces 1 = .ok (.iload_n 1, 1) := by decide +kernel
theorem dX3_setPlaces_2 : decode cX3_setPlaces 2 = .ok (.invokevirtual 112, 3) := by decide +kernel
theorem dX3_setPlaces_5 : decode cX3_setPlaces 5 = .ok (.astore_n 3, 1) := by decide +kernel
theorem dX3_setPlaces_6 : decode cX3_setPlaces 6 = .ok (.iload_n 2, 1) := by decide +kernel
theorem dX3_setPlaces_7 : decode cX3_setPlaces 7 = .ok (.iconst 1, 1) := by decide +kernel
theorem dX3_setPlaces_8 : decode cX3_setPlaces 8 = .ok (.if_icmp .lt 9, 3) := by decide +kernel
theorem dX3_setPlaces_11 : decode cX3_setPlaces 11 = .ok (.iload_n 2, 1) := by decide +kernel
theorem dX3_setPlaces_12 : decode cX3_setPlaces 12 = .ok (.bipush 6, 2) := by decide +kernel
theorem dX3_setPlaces_14 : decode cX3_setPlaces 14 = .ok (.if_icmp .le 13, 3) := by decide +kernel
theorem dX3_setPlaces_17 : decode cX3_setPlaces 17 = .ok (.new 75, 3) := by decide +kernel
theorem dX3_setPlaces_20 : decode cX3_setPlaces 20 = .ok (.dup, 1) := by decide +kernel
theorem dX3_setPlaces_21 : decode cX3_setPlaces 21 = .ok (.ldc 116, 2) := by decide +kernel
theorem dX3_setPlaces_23 : decode cX3_setPlaces 23 = .ok (.invokespecial 79, 3) := by decide +kernel
theorem dX3_setPlaces_26 : decode cX3_setPlaces 26 = .ok (.athrow, 1) := by decide +kernel
theorem dX3_setPlaces_27 : decode cX3_setPlaces 27 = .ok (.aload_n 0, 1) := by decide +kernel
theorem dX3_setPlaces_28 : decode cX3_setPlaces 28 = .ok (.iload_n 1, 1) := by decide +kernel
theorem dX3_setPlaces_29 : decode cX3_setPlaces 29 = .ok (.invokevirtual 118, 3) := by decide +kernel
theorem dX3_setPlaces_32 : decode cX3_setPlaces 32 = .ok (.iload_n 2, 1) := by decide +kernel
theorem dX3_setPlaces_33 : decode cX3_setPlaces 33 = .ok (.if_icmp .le 13, 3) := by decide +kernel
theorem dX3_setPlaces_36 : decode cX3_setPlaces 36 = .ok (.new 53, 3) := by decide +kernel
theorem dX3_setPlaces_39 : decode cX3_setPlaces 39 = .ok (.dup, 1) := by decide +kernel
theorem dX3_setPlaces_40 : decode cX3_setPlaces 40 = .ok (.ldc 121, 2) := by decide +kernel
theorem dX3_setPlaces_42 : decode cX3_setPlaces 42 = .ok (.invokespecial 57, 3) := by decide +kernel
theorem dX3_setPlaces_45 : decode cX3_setPlaces 45 = .ok (.athrow, 1) := by decide +kernel
theorem dX3_setPlaces_46 : decode cX3_setPlaces 46 = .ok (.aload_n 3, 1) := by decide +kernel
theorem dX3_setPlaces_47 : decode cX3_setPlaces 47 = .ok (.getfield 123, 3) := by decide +kernel
theorem dX3_setPlaces_50 : decode cX3_setPlaces 50 = .ok (.istore 4, 2) := by decide +kernel
theorem dX3_setPlaces_52 : decode cX3_setPlaces 52 = .ok (.aload_n 3, 1) := by decide +kernel
theorem dX3_setPlaces_53 : decode cX3_setPlaces 53 = .ok (.iload_n 2, 1) := by decide +kernel
theorem dX3_setPlaces_54 : decode cX3_setPlaces 54 = .ok (.putfield 123, 3) := by decide +kernel
theorem dX3_setPlaces_57 : decode cX3_setPlaces 57 = .ok (.iload 4, 2) := by decide +kernel
theorem dX3_setPlaces_59 : decode cX3_setPlaces 59 = .ok (.ireturn, 1) := by decide +kernel
theorem dX3_setHours_0 : decode cX3_setHours 0 = .ok (.aload_n 0, 1) := by decide +kernel
theorem dX3_setHours_1 : decode cX3_setHours 1 = .ok (.iload_n 1, 1) := by decide +kernel
theorem dX3_setHours_2 : decode cX3_setHours 2 = .ok (.invokevirtual 112, 3) := by decide +kernel
theorem dX3_setHours_5 : decode cX3_setHours 5 = .ok (.astore 4, 2) := by decide +kernel
theorem dX3_setHours_7 : decode cX3_setHours 7 = .ok (.iload_n 2, 1) := by decide +kernel
theorem dX3_setHours_8 : decode cX3_setHours 8 = .ok (.ifCond .lt 19, 3) := by decide +kernel
theorem dX3_setHours_11 : decode cX3_setHours 11 = .ok (.iload_n 2, 1) := by decide +kernel
theorem dX3_setHours_12 : decode cX3_setHours 12 = .ok (.bipush 24, 2) := by decide +kernel
theorem dX3_setHours_14 : decode cX3_setHours 14 = .ok (.if_icmp .ge 13, 3) := by decide +kernel
theorem dX3_setHours_17 : decode cX3_setHours 17 = .ok (.iload_n 3, 1) := by decide +kernel
theorem dX3_setHours_18 : decode cX3_setHours 18 = .ok (.ifCond .lt 9, 3) := by decide +kernel
theorem dX3_setHours_21 : decode cX3_setHours 21 = .ok (.iload_n 3, 1) := by decide +kernel
theorem dX3_setHours_22 : decode cX3_setHours 22 = .ok (.bipush 24, 2) := by decide +kernel
theorem dX3_setHours_24 : decode cX3_setHours 24 = .ok (.if_icmp .le 13, 3) := by decide +kernel
theorem dX3_setHours_27 : decode cX3_setHours 27 = .ok (.new 75, 3) := by decide +kernel
theorem dX3_setHours_30 : decode cX3_setHours 30 = .ok (.dup, 1) := by decide +kernel
theorem dX3_setHours_31 : decode cX3_setHours 31 = .ok (.ldc 126, 2) := by decide +kernel
theorem dX3_setHours_33 : decode cX3_setHours 33 = .ok (.invokespecial 79, 3) := by decide +kernel
theorem dX3_setHours_36 : decode cX3_setHours 36 = .ok (.athrow, 1) := by decide +kernel
theorem dX3_setHours_37 : decode cX3_setHours 37 = .ok (.bipush 25, 2) := by decide +kernel
theorem dX3_setHours_39 : decode cX3_setHours 39 = .ok (.aload 4, 2) := by decide +kernel
theorem dX3_setHours_41 : decode cX3_setHours 41 = .ok (.getfield 128, 3) := by decide +kernel
theorem dX3_setHours_44 : decode cX3_setHours 44 = .ok (.imul, 1) := by decide +kernel
theorem dX3_setHours_45 : decode cX3_setHours 45 = .ok (.aload 4, 2) := by decide +kernel
theorem dX3_setHours_47 : decode cX3_setHours 47 = .ok (.getfield 131, 3) := by decide +kernel
theorem dX3_setHours_50 : decode cX3_setHours 50 = .ok (.iadd, 1) := by decide +kernel
theorem dX3_setHours_51 : decode cX3_setHours 51 = .ok (.istore 5, 2) := by decide +kernel
theorem dX3_setHours_53 : decode cX3_setHours 53 = .ok (.aload 4, 2) := by decide +kernel
theorem dX3_setHours_55 : decode cX3_setHours 55 = .ok (.iload_n 2, 1) := by decide +kernel
theorem dX3_setHours_56 : decode cX3_setHours 56 = .ok (.putfield 128, 3) := by decide +kernel
theorem dX3_setHours_59 : decode cX3_setHours 59 = .ok (.aload 4, 2) := by decide +kernel
theorem dX3_setHours_61 : decode cX3_setHours 61 = .ok (.iload_n 3, 1) := by decide +kernel
theorem dX3_setHours_62 : decode cX3_setHours 62 = .ok (.putfield 131, 3) := by decide +kernel
theorem dX3_setHours_65 : decode cX3_setHours 65 = .ok (.iload 5, 2) := by decide +kernel
theorem dX3_setHours_67 : decode cX3_setHours 67 = .ok (.ireturn, 1) := by decide +kernel
theorem dX3_put_0 : decode cX3_put 0 = .ok (.aload_n 0, 1) := by decide +kernel
theorem dX3_put_1 : decode cX3_put 1 = .ok (.iload_n 1, 1) := by decide +kernel
theorem dX3_put_2 : decode cX3_put 2 = .ok (.invokevirtual 64, 3) := by decide +kernel
theorem dX3_put_5 : decode cX3_put 5 = .ok (.astore_n 3, 1) := by decide +kernel
theorem dX3_put_6 : decode cX3_put 6 = .ok (.iload_n 2, 1) := by decide +kernel
theorem dX3_put_7 : decode cX3_put 7 = .ok (.iconst (-1), 1) := by decide +kernel
theorem dX3_put_8 : decode cX3_put 8 = .ok (.if_icmp .eq 21, 3) := by decide +kernel
theorem dX3_put_11 : decode cX3_put 11 = .ok (.aload_n 0, 1) := by decide +kernel
theorem dX3_put_12 : decode cX3_put 12 = .ok (.iload_n 2, 1) := by decide +kernel
theorem dX3_put_13 : decode cX3_put 13 = .ok (.invokevirtual 134, 3) := by decide +kernel
theorem dX3_put_16 : decode cX3_put 16 = .ok (.ifCond .ne 13, 3) := by decide +kernel
theorem dX3_put_19 : decode cX3_put 19 = .ok (.new 137, 3) := by decide +kernel
theorem dX3_put_22 : decode cX3_put 22 = .ok (.dup, 1) := by decide +kernel
theorem dX3_put_23 : decode cX3_put 23 = .ok (.ldc 139, 2) := by decide +kernel
theorem dX3_put_25 : decode cX3_put 25 = .ok (.invokespecial 141, 3) := by decide +kernel
theorem dX3_put_28 : decode cX3_put 28 = .ok (.athrow, 1) := by decide +kernel
theorem dX3_put_29 : decode cX3_put 29 = .ok (.aload_n 3, 1) := by decide +kernel
theorem dX3_put_30 : decode cX3_put 30 = .ok (.getfield 142, 3) := by decide +kernel
theorem dX3_put_33 : decode cX3_put 33 = .ok (.istore 4, 2) := by decide +kernel
theorem dX3_put_35 : decode cX3_put 35 = .ok (.iload_n 2, 1) := by decide +kernel
theorem dX3_put_36 : decode cX3_put 36 = .ok (.iload 4, 2) := by decide +kernel
theorem dX3_put_38 : decode cX3_put 38 = .ok (.if_icmp .ne 6, 3) := by decide +kernel
theorem dX3_put_41 : decode cX3_put 41 = .ok (.iload 4, 2) := by decide +kernel
theorem dX3_put_43 : decode cX3_put 43 = .ok (.ireturn, 1) := by decide +kernel
theorem dX3_put_44 : decode cX3_put 44 = .ok (.aload_n 3, 1) := by decide +kernel
theorem dX3_put_45 : decode cX3_put 45 = .ok (.invokestatic 102, 3) := by decide +kernel
theorem dX3_put_48 : decode cX3_put 48 = .ok (.iload_n 2, 1) := by decide +kernel
theorem dX3_put_49 : decode cX3_put 49 = .ok (.iconst (-1), 1) := by decide +kernel
theorem dX3_put_50 : decode cX3_put 50 = .ok (.if_icmp .eq 21, 3) := by decide +kernel
theorem dX3_put_53 : decode cX3_put 53 = .ok (.aload_n 0, 1) := by decide +kernel
theorem dX3_put_54 : decode cX3_put 54 = .ok (.iload_n 2, 1) := by decide +kernel
theorem dX3_put_55 : decode cX3_put 55 = .ok (.invokevirtual 145, 3) := by decide +kernel
theorem dX3_put_58 : decode cX3_put 58 = .ok (.ifCond .ne 13, 3) := by decide +kernel
theorem dX3_put_61 : decode cX3_put 61 = .ok (.new 53, 3) := by decide +kernel
theorem dX3_put_64 : decode cX3_put 64 = .ok (.dup, 1) := by decide +kernel
theorem dX3_put_65 : decode cX3_put 65 = .ok (.ldc 148, 2) := by decide +kernel
theorem dX3_put_67 : decode cX3_put 67 = .ok (.invokespecial 57, 3) := by decide +kernel
theorem dX3_put_70 : decode cX3_put 70 = .ok (.athrow, 1) := by decide +kernel
theorem dX3_put_71 : decode cX3_put 71 = .ok (.aload_n 3, 1) := by decide +kernel
theorem dX3_put_72 : decode cX3_put 72 = .ok (.iload_n 2, 1) := by decide +kernel
theorem dX3_put_73 : decode cX3_put 73 = .ok (.putfield 142, 3) := by decide +kernel
theorem dX3_put_76 : decode cX3_put 76 = .ok (.iload 4, 2) := by decide +kernel
theorem dX3_put_78 : decode cX3_put 78 = .ok (.ireturn, 1) := by decide +kernel
theorem dX3_told_0 : decode cX3_told 0 = .ok (.aload_n 0, 1) := by decide +kernel
theorem dX3_told_1 : decode cX3_told 1 = .ok (.iload_n 1, 1) := by decide +kernel
theorem dX3_told_2 : decode cX3_told 2 = .ok (.invokevirtual 64, 3) := by decide +kernel
theorem dX3_told_5 : decode cX3_told 5 = .ok (.astore_n 3, 1) := by decide +kernel
theorem dX3_told_6 : decode cX3_told 6 = .ok (.iload_n 2, 1) := by decide +kernel
theorem dX3_told_7 : decode cX3_told 7 = .ok (.tableswitch 94 0 5 #[37, 42, 55, 60, 73, 78], 37) := by decide +kernel
theorem dX3_told_44 : decode cX3_told 44 = .ok (.aload_n 3, 1) := by decide +kernel
theorem dX3_told_45 : decode cX3_told 45 = .ok (.invokevirtual 92, 3) := by decide +kernel
theorem dX3_told_48 : decode cX3_told 48 = .ok (.ireturn, 1) := by decide +kernel
theorem dX3_told_49 : decode cX3_told 49 = .ok (.aload_n 3, 1) := by decide +kernel
theorem dX3_told_50 : decode cX3_told 50 = .ok (.getfield 98, 3) := by decide +kernel
theorem dX3_told_53 : decode cX3_told 53 = .ok (.ifCond .eq 7, 3) := by decide +kernel
theorem dX3_told_56 : decode cX3_told 56 = .ok (.iconst 1, 1) := by decide +kernel
theorem dX3_told_57 : decode cX3_told 57 = .ok (.goto 4, 3) := by decide +kernel
theorem dX3_told_60 : decode cX3_told 60 = .ok (.iconst 0, 1) := by decide +kernel
theorem dX3_told_61 : decode cX3_told 61 = .ok (.ireturn, 1) := by decide +kernel
theorem dX3_told_62 : decode cX3_told 62 = .ok (.aload_n 3, 1) := by decide +kernel
theorem dX3_told_63 : decode cX3_told 63 = .ok (.getfield 142, 3) := by decide +kernel
theorem dX3_told_66 : decode cX3_told 66 = .ok (.ireturn, 1) := by decide +kernel
theorem dX3_told_67 : decode cX3_told 67 = .ok (.aload_n 3, 1) := by decide +kernel
theorem dX3_told_68 : decode cX3_told 68 = .ok (.getfield 109, 3) := by decide +kernel
theorem dX3_told_71 : decode cX3_told 71 = .ok (.ifCond .eq 7, 3) := by decide +kernel
theorem dX3_told_74 : decode cX3_told 74 = .ok (.iconst 1, 1) := by decide +kernel
theorem dX3_told_75 : decode cX3_told 75 = .ok (.goto 4, 3) := by decide +kernel
theorem dX3_told_78 : decode cX3_told 78 = .ok (.iconst 0, 1) := by decide +kernel
theorem dX3_told_79 : decode cX3_told 79 = .ok (.ireturn, 1) := by decide +kernel
theorem dX3_told_80 : decode cX3_told 80 = .ok (.aload_n 3, 1) := by decide +kernel
theorem dX3_told_81 : decode cX3_told 81 = .ok (.invokevirtual 150, 3) := by decide +kernel
theorem dX3_told_84 : decode cX3_told 84 = .ok (.ireturn, 1) := by decide +kernel
theorem dX3_told_85 : decode cX3_told 85 = .ok (.aload_n 3, 1) := by decide +kernel
theorem dX3_told_86 : decode cX3_told 86 = .ok (.getfield 109, 3) := by decide +kernel
theorem dX3_told_89 : decode cX3_told 89 = .ok (.ifCond .eq 7, 3) := by decide +kernel
theorem dX3_told_92 : decode cX3_told 92 = .ok (.iconst (-1), 1) := by decide +kernel
theorem dX3_told_93 : decode cX3_told 93 = .ok (.goto 7, 3) := by decide +kernel
theorem dX3_told_96 : decode cX3_told 96 = .ok (.aload_n 3, 1) := by decide +kernel
theorem dX3_told_97 : decode cX3_told 97 = .ok (.getfield 95, 3) := by decide +kernel
theorem dX3_told_100 : decode cX3_told 100 = .ok (.ireturn, 1) := by decide +kernel
theorem dX3_told_101 : decode cX3_told 101 = .ok (.new 137, 3) := by decide +kernel
theorem dX3_told_104 : decode cX3_told 104 = .ok (.dup, 1) := by decide +kernel
theorem dX3_told_105 : decode cX3_told 105 = .ok (.ldc 153, 2) := by decide +kernel
theorem dX3_told_107 : decode cX3_told 107 = .ok (.invokespecial 141, 3) := by decide +kernel
theorem dX3_told_110 : decode cX3_told 110 = .ok (.athrow, 1) := by decide +kernel
theorem dX3_wear_0 : decode cX3_wear 0 = .ok (.aload_n 0, 1) := by decide +kernel
theorem dX3_wear_1 : decode cX3_wear 1 = .ok (.iload_n 1, 1) := by decide +kernel
theorem dX3_wear_2 : decode cX3_wear 2 = .ok (.invokevirtual 64, 3) := by decide +kernel
theorem dX3_wear_5 : decode cX3_wear 5 = .ok (.astore 4, 2) := by decide +kernel
theorem dX3_wear_7 : decode cX3_wear 7 = .ok (.iload_n 2, 1) := by decide +kernel
theorem dX3_wear_8 : decode cX3_wear 8 = .ok (.invokestatic 68, 3) := by decide +kernel
theorem dX3_wear_11 : decode cX3_wear 11 = .ok (.iload_n 3, 1) := by decide +kernel
theorem dX3_wear_12 : decode cX3_wear 12 = .ok (.invokestatic 71, 3) := by decide +kernel
theorem dX3_wear_15 : decode cX3_wear 15 = .ok (.ifCond .ne 13, 3) := by decide +kernel
theorem dX3_wear_18 : decode cX3_wear 18 = .ok (.new 137, 3) := by decide +kernel
theorem dX3_wear_21 : decode cX3_wear 21 = .ok (.dup, 1) := by decide +kernel
theorem dX3_wear_22 : decode cX3_wear 22 = .ok (.ldc 77, 2) := by decide +kernel
theorem dX3_wear_24 : decode cX3_wear 24 = .ok (.invokespecial 141, 3) := by decide +kernel
theorem dX3_wear_27 : decode cX3_wear 27 = .ok (.athrow, 1) := by decide +kernel
theorem dX3_wear_28 : decode cX3_wear 28 = .ok (.aload 4, 2) := by decide +kernel
theorem dX3_wear_30 : decode cX3_wear 30 = .ok (.iload_n 2, 1) := by decide +kernel
theorem dX3_wear_31 : decode cX3_wear 31 = .ok (.iload_n 3, 1) := by decide +kernel
theorem dX3_wear_32 : decode cX3_wear 32 = .ok (.invokevirtual 155, 3) := by decide +kernel
theorem dX3_wear_35 : decode cX3_wear 35 = .ok (.ireturn, 1) := by decide +kernel
theorem dX3_rack_0 : decode cX3_rack 0 = .ok (.aload_n 0, 1) := by decide +kernel
theorem dX3_rack_1 : decode cX3_rack 1 = .ok (.iload_n 1, 1) := by decide +kernel
theorem dX3_rack_2 : decode cX3_rack 2 = .ok (.invokevirtual 112, 3) := by decide +kernel
theorem dX3_rack_5 : decode cX3_rack 5 = .ok (.astore_n 3, 1) := by decide +kernel
theorem dX3_rack_6 : decode cX3_rack 6 = .ok (.iload_n 2, 1) := by decide +kernel
theorem dX3_rack_7 : decode cX3_rack 7 = .ok (.tableswitch 81 0 5 #[37, 42, 48, 65, 71, 76], 37) := by decide +kernel
theorem dX3_rack_44 : decode cX3_rack 44 = .ok (.aload_n 3, 1) := by decide +kernel
theorem dX3_rack_45 : decode cX3_rack 45 = .ok (.getfield 123, 3) := by decide +kernel
theorem dX3_rack_48 : decode cX3_rack 48 = .ok (.ireturn, 1) := by decide +kernel
theorem dX3_rack_49 : decode cX3_rack 49 = .ok (.aload_n 0, 1) := by decide +kernel
theorem dX3_rack_50 : decode cX3_rack 50 = .ok (.iload_n 1, 1) := by decide +kernel
theorem dX3_rack_51 : decode cX3_rack 51 = .ok (.invokevirtual 118, 3) := by decide +kernel
theorem dX3_rack_54 : decode cX3_rack 54 = .ok (.ireturn, 1) := by decide +kernel
theorem dX3_rack_55 : decode cX3_rack 55 = .ok (.aload_n 3, 1) := by decide +kernel
theorem dX3_rack_56 : decode cX3_rack 56 = .ok (.aload_n 0, 1) := by decide +kernel
theorem dX3_rack_57 : decode cX3_rack 57 = .ok (.getfield 39, 3) := by decide +kernel
theorem dX3_rack_60 : decode cX3_rack 60 = .ok (.invokevirtual 158, 3) := by decide +kernel
theorem dX3_rack_63 : decode cX3_rack 63 = .ok (.ifCond .eq 7, 3) := by decide +kernel
theorem dX3_rack_66 : decode cX3_rack 66 = .ok (.iconst 1, 1) := by decide +kernel
theorem dX3_rack_67 : decode cX3_rack 67 = .ok (.goto 4, 3) := by decide +kernel
theorem dX3_rack_70 : decode cX3_rack 70 = .ok (.iconst 0, 1) := by decide +kernel
theorem dX3_rack_71 : decode cX3_rack 71 = .ok (.ireturn, 1) := by decide +kernel
theorem dX3_rack_72 : decode cX3_rack 72 = .ok (.aload_n 0, 1) := by decide +kernel
theorem dX3_rack_73 : decode cX3_rack 73 = .ok (.iload_n 1, 1) := by decide +kernel
theorem dX3_rack_74 : decode cX3_rack 74 = .ok (.invokevirtual 161, 3) := by decide +kernel
theorem dX3_rack_77 : decode cX3_rack 77 = .ok (.ireturn, 1) := by decide +kernel
theorem dX3_rack_78 : decode cX3_rack 78 = .ok (.aload_n 3, 1) := by decide +kernel
theorem dX3_rack_79 : decode cX3_rack 79 = .ok (.getfield 128, 3) := by decide +kernel
theorem dX3_rack_82 : decode cX3_rack 82 = .ok (.ireturn, 1) := by decide +kernel
theorem dX3_rack_83 : decode cX3_rack 83 = .ok (.aload_n 3, 1) := by decide +kernel
theorem dX3_rack_84 : decode cX3_rack 84 = .ok (.getfield 131, 3) := by decide +kernel
theorem dX3_rack_87 : decode cX3_rack 87 = .ok (.ireturn, 1) := by decide +kernel
theorem dX3_rack_88 : decode cX3_rack 88 = .ok (.new 137, 3) := by decide +kernel
theorem dX3_rack_91 : decode cX3_rack 91 = .ok (.dup, 1) := by decide +kernel
theorem dX3_rack_92 : decode cX3_rack 92 = .ok (.ldc 153, 2) := by decide +kernel
theorem dX3_rack_94 : decode cX3_rack 94 = .ok (.invokespecial 141, 3) := by decide +kernel
theorem dX3_rack_97 : decode cX3_rack 97 = .ok (.athrow, 1) := by decide +kernel
theorem dX3_count_0 : decode cX3_count 0 = .ok (.iload_n 1, 1) := by decide +kernel
theorem dX3_count_1 : decode cX3_count 1 = .ok (.tableswitch 81 0 6 #[43, 48, 56, 61, 66, 71, 76], 43) := by decide +kernel
theorem dX3_count_44 : decode cX3_count 44 = .ok (.aload_n 0, 1) := by decide +kernel
theorem dX3_count_45 : decode cX3_count 45 = .ok (.getfield 39, 3) := by decide +kernel
theorem dX3_count_48 : decode cX3_count 48 = .ok (.ireturn, 1) := by decide +kernel
theorem dX3_count_49 : decode cX3_count 49 = .ok (.aload_n 0, 1) := by decide +kernel
theorem dX3_count_50 : decode cX3_count 50 = .ok (.getfield 10, 3) := by decide +kernel
theorem dX3_count_53 : decode cX3_count 53 = .ok (.invokevirtual 49, 3) := by decide +kernel
theorem dX3_count_56 : decode cX3_count 56 = .ok (.ireturn, 1) := by decide +kernel
theorem dX3_count_57 : decode cX3_count 57 = .ok (.aload_n 0, 1) := by decide +kernel
theorem dX3_count_58 : decode cX3_count 58 = .ok (.invokevirtual 164, 3) := by decide +kernel
theorem dX3_count_61 : decode cX3_count 61 = .ok (.ireturn, 1) := by decide +kernel
theorem dX3_count_62 : decode cX3_count 62 = .ok (.aload_n 0, 1) := by decide +kernel
theorem dX3_count_63 : decode cX3_count 63 = .ok (.invokevirtual 167, 3) := by decide +kernel
theorem dX3_count_66 : decode cX3_count 66 = .ok (.ireturn, 1) := by decide +kernel
theorem dX3_count_67 : decode cX3_count 67 = .ok (.aload_n 0, 1) := by decide +kernel
theorem dX3_count_68 : decode cX3_count 68 = .ok (.invokevirtual 170, 3) := by decide +kernel
theorem dX3_count_71 : decode cX3_count 71 = .ok (.ireturn, 1) := by decide +kernel
theorem dX3_count_72 : decode cX3_count 72 = .ok (.aload_n 0, 1) := by decide +kernel
theorem dX3_count_73 : decode cX3_count 73 = .ok (.getfield 43, 3) := by decide +kernel
theorem dX3_count_76 : decode cX3_count 76 = .ok (.ireturn, 1) := by decide +kernel
theorem dX3_count_77 : decode cX3_count 77 = .ok (.aload_n 0, 1) := by decide +kernel
theorem dX3_count_78 : decode cX3_count 78 = .ok (.invokevirtual 173, 3) := by decide +kernel
theorem dX3_count_81 : decode cX3_count 81 = .ok (.ireturn, 1) := by decide +kernel
theorem dX3_count_82 : decode cX3_count 82 = .ok (.new 137, 3) := by decide +kernel
theorem dX3_count_85 : decode cX3_count 85 = .ok (.dup, 1) := by decide +kernel
theorem dX3_count_86 : decode cX3_count 86 = .ok (.ldc 176, 2) := by decide +kernel
theorem dX3_count_88 : decode cX3_count 88 = .ok (.invokespecial 141, 3) := by decide +kernel
theorem dX3_count_91 : decode cX3_count 91 = .ok (.athrow, 1) := by decide +kernel
theorem dX3_trial_0 : decode cX3_trial 0 = .ok (.aload_n 0, 1) := by decide +kernel
theorem dX3_trial_1 : decode cX3_trial 1 = .ok (.iload_n 1, 1) := by decide +kernel
theorem dX3_trial_2 : decode cX3_trial 2 = .ok (.invokevirtual 64, 3) := by decide +kernel
theorem dX3_trial_5 : decode cX3_trial 5 = .ok (.astore_n 3, 1) := by decide +kernel
theorem dX3_trial_6 : decode cX3_trial 6 = .ok (.iload_n 2, 1) := by decide +kernel
theorem dX3_trial_7 : decode cX3_trial 7 = .ok (.invokestatic 46, 3) := by decide +kernel
theorem dX3_trial_10 : decode cX3_trial 10 = .ok (.aload_n 0, 1) := by decide +kernel
theorem dX3_trial_11 : decode cX3_trial 11 = .ok (.getfield 26, 3) := by decide +kernel
theorem dX3_trial_14 : decode cX3_trial 14 = .ok (.aload_n 3, 1) := by decide +kernel
theorem dX3_trial_15 : decode cX3_trial 15 = .ok (.iload_n 2, 1) := by decide +kernel
theorem dX3_trial_16 : decode cX3_trial 16 = .ok (.invokevirtual 181, 3) := by decide +kernel
theorem dX3_trial_19 : decode cX3_trial 19 = .ok (.ireturn, 1) := by decide +kernel
theorem dX3_safe_0 : decode cX3_safe 0 = .ok (.aload_n 0, 1) := by decide +kernel
theorem dX3_safe_1 : decode cX3_safe 1 = .ok (.iload_n 1, 1) := by decide +kernel
theorem dX3_safe_2 : decode cX3_safe 2 = .ok (.invokevirtual 64, 3) := by decide +kernel
theorem dX3_safe_5 : decode cX3_safe 5 = .ok (.astore_n 2, 1) := by decide +kernel
theorem dX3_safe_6 : decode cX3_safe 6 = .ok (.aload_n 0, 1) := by decide +kernel
theorem dX3_safe_7 : decode cX3_safe 7 = .ok (.getfield 26, 3) := by decide +kernel
theorem dX3_safe_10 : decode cX3_safe 10 = .ok (.aload_n 2, 1) := by decide +kernel
theorem dX3_safe_11 : decode cX3_safe 11 = .ok (.aload_n 2, 1) := by decide +kernel
theorem dX3_safe_12 : decode cX3_safe 12 = .ok (.getfield 95, 3) := by decide +kernel
theorem dX3_safe_15 : decode cX3_safe 15 = .ok (.invokevirtual 181, 3) := by decide +kernel
theorem dX3_safe_18 : decode cX3_safe 18 = .ok (.ireturn, 1) := by decide +kernel
theorem dX3_pass_0 : decode cX3_pass 0 = .ok (.iload_n 1, 1) := by decide +kernel
theorem dX3_pass_1 : decode cX3_pass 1 = .ok (.invokestatic 185, 3) := by decide +kernel
theorem dX3_pass_4 : decode cX3_pass 4 = .ok (.iconst 0, 1) := by decide +kernel
theorem dX3_pass_5 : decode cX3_pass 5 = .ok (.istore_n 2, 1) := by decide +kernel
theorem dX3_pass_6 : decode cX3_pass 6 = .ok (.iconst 0, 1) := by decide +kernel
theorem dX3_pass_7 : decode cX3_pass 7 = .ok (.istore_n 3, 1) := by decide +kernel
theorem dX3_pass_8 : decode cX3_pass 8 = .ok (.iload_n 3, 1) := by decide +kernel
theorem dX3_pass_9 : decode cX3_pass 9 = .ok (.iload_n 1, 1) := by decide +kernel
theorem dX3_pass_10 : decode cX3_pass 10 = .ok (.if_icmp .ge 66, 3) := by decide +kernel
theorem dX3_pass_13 : decode cX3_pass 13 = .ok (.iconst 0, 1) := by decide +kernel
theorem dX3_pass_14 : decode cX3_pass 14 = .ok (.istore 4, 2) := by decide +kernel
theorem dX3_pass_16 : decode cX3_pass 16 = .ok (.iload 4, 2) := by decide +kernel
theorem dX3_pass_18 : decode cX3_pass 18 = .ok (.aload_n 0, 1) := by decide +kernel
theorem dX3_pass_19 : decode cX3_pass 19 = .ok (.getfield 10, 3) := by decide +kernel
theorem dX3_pass_22 : decode cX3_pass 22 = .ok (.invokevirtual 49, 3) := by decide +kernel
theorem dX3_pass_25 : decode cX3_pass 25 = .ok (.if_icmp .ge 35, 3) := by decide +kernel
theorem dX3_pass_28 : decode cX3_pass 28 = .ok (.aload_n 0, 1) := by decide +kernel
theorem dX3_pass_29 : decode cX3_pass 29 = .ok (.aload_n 0, 1) := by decide +kernel
theorem dX3_pass_30 : decode cX3_pass 30 = .ok (.getfield 10, 3) := by decide +kernel
theorem dX3_pass_33 : decode cX3_pass 33 = .ok (.iload 4, 2) := by decide +kernel
theorem dX3_pass_35 : decode cX3_pass 35 = .ok (.invokevirtual 188, 3) := by decide +kernel
theorem dX3_pass_38 : decode cX3_pass 38 = .ok (.checkcast 30, 3) := by decide +kernel
theorem dX3_pass_41 : decode cX3_pass 41 = .ok (.aload_n 0, 1) := by decide +kernel
theorem dX3_pass_42 : decode cX3_pass 42 = .ok (.getfield 39, 3) := by decide +kernel
theorem dX3_pass_45 : decode cX3_pass 45 = .ok (.invokevirtual 192, 3) := by decide +kernel
theorem dX3_pass_48 : decode cX3_pass 48 = .ok (.ifCond .eq 6, 3) := by decide +kernel
theorem dX3_pass_51 : decode cX3_pass 51 = .ok (.iinc 2 1, 3) := by decide +kernel
theorem dX3_pass_54 : decode cX3_pass 54 = .ok (.iinc 4 1, 3) := by decide +kernel
theorem dX3_pass_57 : decode cX3_pass 57 = .ok (.goto (-41), 3) := by decide +kernel
theorem dX3_pass_60 : decode cX3_pass 60 = .ok (.aload_n 0, 1) := by decide +kernel
theorem dX3_pass_61 : decode cX3_pass 61 = .ok (.dup, 1) := by decide +kernel
theorem dX3_pass_62 : decode cX3_pass 62 = .ok (.getfield 39, 3) := by decide +kernel
theorem dX3_pass_65 : decode cX3_pass 65 = .ok (.iconst 1, 1) := by decide +kernel
theorem dX3_pass_66 : decode cX3_pass 66 = .ok (.iadd, 1) := by decide +kernel
theorem dX3_pass_67 : decode cX3_pass 67 = .ok (.putfield 39, 3) := by decide +kernel
theorem dX3_pass_70 : decode cX3_pass 70 = .ok (.iinc 3 1, 3) := by decide +kernel
theorem dX3_pass_73 : decode cX3_pass 73 = .ok (.goto (-65), 3) := by decide +kernel
theorem dX3_pass_76 : decode cX3_pass 76 = .ok (.iload_n 2, 1) := by decide +kernel
theorem dX3_pass_77 : decode cX3_pass 77 = .ok (.ireturn, 1) := by decide +kernel
theorem dX3_mean_0 : decode cX3_mean 0 = .ok (.aload_n 0, 1) := by decide +kernel
theorem dX3_mean_1 : decode cX3_mean 1 = .ok (.getfield 10, 3) := by decide +kernel
theorem dX3_mean_4 : decode cX3_mean 4 = .ok (.invokevirtual 49, 3) := by decide +kernel
theorem dX3_mean_7 : decode cX3_mean 7 = .ok (.iconst 4, 1) := by decide +kernel
theorem dX3_mean_8 : decode cX3_mean 8 = .ok (.imul, 1) := by decide +kernel
theorem dX3_mean_9 : decode cX3_mean 9 = .ok (.bipush 6, 2) := by decide +kernel
theorem dX3_mean_11 : decode cX3_mean 11 = .ok (.imul, 1) := by decide +kernel
theorem dX3_mean_12 : decode cX3_mean 12 = .ok (.istore_n 1, 1) := by decide +kernel
theorem dX3_mean_13 : decode cX3_mean 13 = .ok (.iload_n 1, 1) := by decide +kernel
theorem dX3_mean_14 : decode cX3_mean 14 = .ok (.ifCond .ne 5, 3) := by decide +kernel
theorem dX3_mean_17 : decode cX3_mean 17 = .ok (.dconst 0, 1) := by decide +kernel
theorem dX3_mean_18 : decode cX3_mean 18 = .ok (.dreturn, 1) := by decide +kernel
theorem dX3_mean_19 : decode cX3_mean 19 = .ok (.aload_n 0, 1) := by decide +kernel
theorem dX3_mean_20 : decode cX3_mean 20 = .ok (.invokevirtual 170, 3) := by decide +kernel
theorem dX3_mean_23 : decode cX3_mean 23 = .ok (.i2d, 1) := by decide +kernel
theorem dX3_mean_24 : decode cX3_mean 24 = .ok (.iload_n 1, 1) := by decide +kernel
theorem dX3_mean_25 : decode cX3_mean 25 = .ok (.i2d, 1) := by decide +kernel
theorem dX3_mean_26 : decode cX3_mean 26 = .ok (.ddiv, 1) := by decide +kernel
theorem dX3_mean_27 : decode cX3_mean 27 = .ok (.dreturn, 1) := by decide +kernel
theorem dX3_lockAt_0 : decode cX3_lockAt 0 = .ok (.iload_n 1, 1) := by decide +kernel
theorem dX3_lockAt_1 : decode cX3_lockAt 1 = .ok (.ifCond .lt 14, 3) := by decide +kernel
theorem dX3_lockAt_4 : decode cX3_lockAt 4 = .ok (.iload_n 1, 1) := by decide +kernel
theorem dX3_lockAt_5 : decode cX3_lockAt 5 = .ok (.aload_n 0, 1) := by decide +kernel
theorem dX3_lockAt_6 : decode cX3_lockAt 6 = .ok (.getfield 10, 3) := by decide +kernel
theorem dX3_lockAt_9 : decode cX3_lockAt 9 = .ok (.invokevirtual 49, 3) := by decide +kernel
theorem dX3_lockAt_12 : decode cX3_lockAt 12 = .ok (.if_icmp .lt 13, 3) := by decide +kernel
theorem dX3_lockAt_15 : decode cX3_lockAt 15 = .ok (.new 137, 3) := by decide +kernel
theorem dX3_lockAt_18 : decode cX3_lockAt 18 = .ok (.dup, 1) := by decide +kernel
theorem dX3_lockAt_19 : decode cX3_lockAt 19 = .ok (.ldc 226, 2) := by decide +kernel
theorem dX3_lockAt_21 : decode cX3_lockAt 21 = .ok (.invokespecial 141, 3) := by decide +kernel
theorem dX3_lockAt_24 : decode cX3_lockAt 24 = .ok (.athrow, 1) := by decide +kernel
theorem dX3_lockAt_25 : decode cX3_lockAt 25 = .ok (.aload_n 0, 1) := by decide +kernel
theorem dX3_lockAt_26 : decode cX3_lockAt 26 = .ok (.getfield 10, 3) := by decide +kernel
theorem dX3_lockAt_29 : decode cX3_lockAt 29 = .ok (.iload_n 1, 1) := by decide +kernel
theorem dX3_lockAt_30 : decode cX3_lockAt 30 = .ok (.invokevirtual 188, 3) := by decide +kernel
theorem dX3_lockAt_33 : decode cX3_lockAt 33 = .ok (.checkcast 30, 3) := by decide +kernel
theorem dX3_lockAt_36 : decode cX3_lockAt 36 = .ok (.areturn, 1) := by decide +kernel
theorem dX3_rackAt_0 : decode cX3_rackAt 0 = .ok (.aload_n 0, 1) := by decide +kernel
theorem dX3_rackAt_1 : decode cX3_rackAt 1 = .ok (.iload_n 1, 1) := by decide +kernel
theorem dX3_rackAt_2 : decode cX3_rackAt 2 = .ok (.invokevirtual 134, 3) := by decide +kernel
theorem dX3_rackAt_5 : decode cX3_rackAt 5 = .ok (.ifCond .ne 13, 3) := by decide +kernel
theorem dX3_rackAt_8 : decode cX3_rackAt 8 = .ok (.new 137, 3) := by decide +kernel
theorem dX3_rackAt_11 : decode cX3_rackAt 11 = .ok (.dup, 1) := by decide +kernel
theorem dX3_rackAt_12 : decode cX3_rackAt 12 = .ok (.ldc 139, 2) := by decide +kernel
theorem dX3_rackAt_14 : decode cX3_rackAt 14 = .ok (.invokespecial 141, 3) := by decide +kernel
theorem dX3_rackAt_17 : decode cX3_rackAt 17 = .ok (.athrow, 1) := by decide +kernel
theorem dX3_rackAt_18 : decode cX3_rackAt 18 = .ok (.aload_n 0, 1) := by decide +kernel
theorem dX3_rackAt_19 : decode cX3_rackAt 19 = .ok (.getfield 18, 3) := by decide +kernel
theorem dX3_rackAt_22 : decode cX3_rackAt 22 = .ok (.iload_n 1, 1) := by decide +kernel
theorem dX3_rackAt_23 : decode cX3_rackAt 23 = .ok (.aaload, 1) := by decide +kernel
theorem dX3_rackAt_24 : decode cX3_rackAt 24 = .ok (.areturn, 1) := by decide +kernel
theorem dX3_requireRing_0 : decode cX3_requireRing 0 = .ok (.iload_n 0, 1) := by decide +kernel
theorem dX3_requireRing_1 : decode cX3_requireRing 1 = .ok (.invokestatic 228, 3) := by decide +kernel
theorem dX3_requireRing_4 : decode cX3_requireRing 4 = .ok (.ifCond .ne 13, 3) := by decide +kernel
theorem dX3_requireRing_7 : decode cX3_requireRing 7 = .ok (.new 137, 3) := by decide +kernel
theorem dX3_requireRing_10 : decode cX3_requireRing 10 = .ok (.dup, 1) := by decide +kernel
theorem dX3_requireRing_11 : decode cX3_requireRing 11 = .ok (.ldc 231, 2) := by decide +kernel
theorem dX3_requireRing_13 : decode cX3_requireRing 13 = .ok (.invokespecial 141, 3) := by decide +kernel
theorem dX3_requireRing_16 : decode cX3_requireRing 16 = .ok (.athrow, 1) := by decide +kernel
theorem dX3_requireRing_17 : decode cX3_requireRing 17 = .ok (.return_, 1) := by decide +kernel
theorem dX3_requireWord_0 : decode cX3_requireWord 0 = .ok (.iload_n 0, 1) := by decide +kernel
theorem dX3_requireWord_1 : decode cX3_requireWord 1 = .ok (.ifCond .lt 10, 3) := by decide +kernel
theorem dX3_requireWord_4 : decode cX3_requireWord 4 = .ok (.iload_n 0, 1) := by decide +kernel
theorem dX3_requireWord_5 : decode cX3_requireWord 5 = .ok (.sipush 1296, 3) := by decide +kernel
theorem dX3_requireWord_8 : decode cX3_requireWord 8 = .ok (.if_icmp .lt 13, 3) := by decide +kernel
theorem dX3_requireWord_11 : decode cX3_requireWord 11 = .ok (.new 75, 3) := by decide +kernel
theorem dX3_requireWord_14 : decode cX3_requireWord 14 = .ok (.dup, 1) := by decide +kernel
theorem dX3_requireWord_15 : decode cX3_requireWord 15 = .ok (.ldc 233, 2) := by decide +kernel
theorem dX3_requireWord_17 : decode cX3_requireWord 17 = .ok (.invokespecial 79, 3) := by decide +kernel
theorem dX3_requireWord_20 : decode cX3_requireWord 20 = .ok (.athrow, 1) := by decide +kernel
theorem dX3_requireWord_21 : decode cX3_requireWord 21 = .ok (.return_, 1) := by decide +kernel
theorem dX3_requireHours_0 : decode cX3_requireHours 0 = .ok (.iload_n 0, 1) := by decide +kernel
theorem dX3_requireHours_1 : decode cX3_requireHours 1 = .ok (.iconst 1, 1) := by decide +kernel
theorem dX3_requireHours_2 : decode cX3_requireHours 2 = .ok (.if_icmp .lt 9, 3) := by decide +kernel
theorem dX3_requireHours_5 : decode cX3_requireHours 5 = .ok (.iload_n 0, 1) := by decide +kernel
theorem dX3_requireHours_6 : decode cX3_requireHours 6 = .ok (.bipush 99, 2) := by decide +kernel
theorem dX3_requireHours_8 : decode cX3_requireHours 8 = .ok (.if_icmp .le 13, 3) := by decide +kernel
theorem dX3_requireHours_11 : decode cX3_requireHours 11 = .ok (.new 75, 3) := by decide +kernel
theorem dX3_requireHours_14 : decode cX3_requireHours 14 = .ok (.dup, 1) := by decide +kernel
theorem dX3_requireHours_15 : decode cX3_requireHours 15 = .ok (.ldc 235, 2) := by decide +kernel
theorem dX3_requireHours_17 : decode cX3_requireHours 17 = .ok (.invokespecial 79, 3) := by decide +kernel
theorem dX3_requireHours_20 : decode cX3_requireHours 20 = .ok (.athrow, 1) := by decide +kernel
theorem dX3_requireHours_21 : decode cX3_requireHours 21 = .ok (.return_, 1) := by decide +kernel
theorem dX3_requireOpen_0 : decode cX3_requireOpen 0 = .ok (.aload_n 0, 1) := by decide +kernel
theorem dX3_requireOpen_1 : decode cX3_requireOpen 1 = .ok (.getfield 98, 3) := by decide +kernel
theorem dX3_requireOpen_4 : decode cX3_requireOpen 4 = .ok (.ifCond .ne 13, 3) := by decide +kernel
theorem dX3_requireOpen_7 : decode cX3_requireOpen 7 = .ok (.new 53, 3) := by decide +kernel
theorem dX3_requireOpen_10 : decode cX3_requireOpen 10 = .ok (.dup, 1) := by decide +kernel
theorem dX3_requireOpen_11 : decode cX3_requireOpen 11 = .ok (.ldc 237, 2) := by decide +kernel
theorem dX3_requireOpen_13 : decode cX3_requireOpen 13 = .ok (.invokespecial 57, 3) := by decide +kernel
theorem dX3_requireOpen_16 : decode cX3_requireOpen 16 = .ok (.athrow, 1) := by decide +kernel
theorem dX3_requireOpen_17 : decode cX3_requireOpen 17 = .ok (.return_, 1) := by decide +kernel
theorem dX3_isRack_0 : decode cX3_isRack 0 = .ok (.iload_n 1, 1) := by decide +kernel
theorem dX3_isRack_1 : decode cX3_isRack 1 = .ok (.ifCond .lt 16, 3) := by decide +kernel
theorem dX3_isRack_4 : decode cX3_isRack 4 = .ok (.iload_n 1, 1) := by decide +kernel
theorem dX3_isRack_5 : decode cX3_isRack 5 = .ok (.aload_n 0, 1) := by decide +kernel
theorem dX3_isRack_6 : decode cX3_isRack 6 = .ok (.getfield 18, 3) := by decide +kernel
theorem dX3_isRack_9 : decode cX3_isRack 9 = .ok (.arraylength, 1) := by decide +kernel
theorem dX3_isRack_10 : decode cX3_isRack 10 = .ok (.if_icmp .ge 7, 3) := by decide +kernel
theorem dX3_isRack_13 : decode cX3_isRack 13 = .ok (.iconst 1, 1) := by decide +kernel
theorem dX3_isRack_14 : decode cX3_isRack 14 = .ok (.goto 4, 3) := by decide +kernel
theorem dX3_isRack_17 : decode cX3_isRack 17 = .ok (.iconst 0, 1) := by decide +kernel
theorem dX3_isRack_18 : decode cX3_isRack 18 = .ok (.ireturn, 1) := by decide +kernel
theorem dX3_isRing_0 : decode cX3_isRing 0 = .ok (.iload_n 0, 1) := by decide +kernel
theorem dX3_isRing_1 : decode cX3_isRing 1 = .ok (.ifCond .lt 12, 3) := by decide +kernel
theorem dX3_isRing_4 : decode cX3_isRing 4 = .ok (.iload_n 0, 1) := by decide +kernel
theorem dX3_isRing_5 : decode cX3_isRing 5 = .ok (.iconst 4, 1) := by decide +kernel
theorem dX3_isRing_6 : decode cX3_isRing 6 = .ok (.if_icmp .ge 7, 3) := by decide +kernel
theorem dX3_isRing_9 : decode cX3_isRing 9 = .ok (.iconst 1, 1) := by decide +kernel
theorem dX3_isRing_10 : decode cX3_isRing 10 = .ok (.goto 4, 3) := by decide +kernel
theorem dX3_isRing_13 : decode cX3_isRing 13 = .ok (.iconst 0, 1) := by decide +kernel
theorem dX3_isRing_14 : decode cX3_isRing 14 = .ok (.ireturn, 1) := by decide +kernel
theorem dX3_isLetter_0 : decode cX3_isLetter 0 = .ok (.iload_n 0, 1) := by decide +kernel
theorem dX3_isLetter_1 : decode cX3_isLetter 1 = .ok (.ifCond .lt 13, 3) := by decide +kernel
theorem dX3_isLetter_4 : decode cX3_isLetter 4 = .ok (.iload_n 0, 1) := by decide +kernel
theorem dX3_isLetter_5 : decode cX3_isLetter 5 = .ok (.bipush 6, 2) := by decide +kernel
theorem dX3_isLetter_7 : decode cX3_isLetter 7 = .ok (.if_icmp .ge 7, 3) := by decide +kernel
theorem dX3_isLetter_10 : decode cX3_isLetter 10 = .ok (.iconst 1, 1) := by decide +kernel
theorem dX3_isLetter_11 : decode cX3_isLetter 11 = .ok (.goto 4, 3) := by decide +kernel
theorem dX3_isLetter_14 : decode cX3_isLetter 14 = .ok (.iconst 0, 1) := by decide +kernel
theorem dX3_isLetter_15 : decode cX3_isLetter 15 = .ok (.ireturn, 1) := by decide +kernel
theorem dX3_letterOf_0 : decode cX3_letterOf 0 = .ok (.iload_n 0, 1) := by decide +kernel
theorem dX3_letterOf_1 : decode cX3_letterOf 1 = .ok (.istore_n 2, 1) := by decide +kernel
theorem dX3_letterOf_2 : decode cX3_letterOf 2 = .ok (.iconst 3, 1) := by decide +kernel
theorem dX3_letterOf_3 : decode cX3_letterOf 3 = .ok (.istore_n 3, 1) := by decide +kernel
theorem dX3_letterOf_4 : decode cX3_letterOf 4 = .ok (.iload_n 3, 1) := by decide +kernel
theorem dX3_letterOf_5 : decode cX3_letterOf 5 = .ok (.iload_n 1, 1) := by decide +kernel
theorem dX3_letterOf_6 : decode cX3_letterOf 6 = .ok (.if_icmp .le 14, 3) := by decide +kernel
theorem dX3_letterOf_9 : decode cX3_letterOf 9 = .ok (.iload_n 2, 1) := by decide +kernel
theorem dX3_letterOf_10 : decode cX3_letterOf 10 = .ok (.bipush 6, 2) := by decide +kernel
theorem dX3_letterOf_12 : decode cX3_letterOf 12 = .ok (.idiv, 1) := by decide +kernel
theorem dX3_letterOf_13 : decode cX3_letterOf 13 = .ok (.istore_n 2, 1) := by decide +kernel
theorem dX3_letterOf_14 : decode cX3_letterOf 14 = .ok (.iinc 3 (-1), 3) := by decide +kernel
theorem dX3_letterOf_17 : decode cX3_letterOf 17 = .ok (.goto (-13), 3) := by decide +kernel
theorem dX3_letterOf_20 : decode cX3_letterOf 20 = .ok (.iload_n 2, 1) := by decide +kernel
theorem dX3_letterOf_21 : decode cX3_letterOf 21 = .ok (.bipush 6, 2) := by decide +kernel
theorem dX3_letterOf_23 : decode cX3_letterOf 23 = .ok (.irem, 1) := by decide +kernel
theorem dX3_letterOf_24 : decode cX3_letterOf 24 = .ok (.ireturn, 1) := by decide +kernel
theorem dX3_turnsBetween_0 : decode cX3_turnsBetween 0 = .ok (.iload_n 0, 1) := by decide +kernel
theorem dX3_turnsBetween_1 : decode cX3_turnsBetween 1 = .ok (.iload_n 1, 1) := by decide +kernel
theorem dX3_turnsBetween_2 : decode cX3_turnsBetween 2 = .ok (.isub, 1) := by decide +kernel
theorem dX3_turnsBetween_3 : decode cX3_turnsBetween 3 = .ok (.invokestatic 239, 3) := by decide +kernel
theorem dX3_turnsBetween_6 : decode cX3_turnsBetween 6 = .ok (.istore_n 2, 1) := by decide +kernel
theorem dX3_turnsBetween_7 : decode cX3_turnsBetween 7 = .ok (.iload_n 2, 1) := by decide +kernel
theorem dX3_turnsBetween_8 : decode cX3_turnsBetween 8 = .ok (.bipush 6, 2) := by decide +kernel
theorem dX3_turnsBetween_10 : decode cX3_turnsBetween 10 = .ok (.iload_n 2, 1) := by decide +kernel
theorem dX3_turnsBetween_11 : decode cX3_turnsBetween 11 = .ok (.isub, 1) := by decide +kernel
theorem dX3_turnsBetween_12 : decode cX3_turnsBetween 12 = .ok (.invokestatic 244, 3) := by decide +kernel
theorem dX3_turnsBetween_15 : decode cX3_turnsBetween 15 = .ok (.ireturn, 1) := by decide +kernel
theorem dX3_locksIn_0 : decode cX3_locksIn 0 = .ok (.iconst 0, 1) := by decide +kernel
theorem dX3_locksIn_1 : decode cX3_locksIn 1 = .ok (.istore_n 2, 1) := by decide +kernel
theorem dX3_locksIn_2 : decode cX3_locksIn 2 = .ok (.iconst 0, 1) := by decide +kernel
theorem dX3_locksIn_3 : decode cX3_locksIn 3 = .ok (.istore_n 3, 1) := by decide +kernel
theorem dX3_locksIn_4 : decode cX3_locksIn 4 = .ok (.iload_n 3, 1) := by decide +kernel
theorem dX3_locksIn_5 : decode cX3_locksIn 5 = .ok (.aload_n 0, 1) := by decide +kernel
theorem dX3_locksIn_6 : decode cX3_locksIn 6 = .ok (.getfield 10, 3) := by decide +kernel
theorem dX3_locksIn_9 : decode cX3_locksIn 9 = .ok (.invokevirtual 49, 3) := by decide +kernel
theorem dX3_locksIn_12 : decode cX3_locksIn 12 = .ok (.if_icmp .ge 30, 3) := by decide +kernel
theorem dX3_locksIn_15 : decode cX3_locksIn 15 = .ok (.aload_n 0, 1) := by decide +kernel
theorem dX3_locksIn_16 : decode cX3_locksIn 16 = .ok (.getfield 10, 3) := by decide +kernel
theorem dX3_locksIn_19 : decode cX3_locksIn 19 = .ok (.iload_n 3, 1) := by decide +kernel
theorem dX3_locksIn_20 : decode cX3_locksIn 20 = .ok (.invokevirtual 188, 3) := by decide +kernel
theorem dX3_locksIn_23 : decode cX3_locksIn 23 = .ok (.checkcast 30, 3) := by decide +kernel
theorem dX3_locksIn_26 : decode cX3_locksIn 26 = .ok (.getfield 142, 3) := by decide +kernel
theorem dX3_locksIn_29 : decode cX3_locksIn 29 = .ok (.iload_n 1, 1) := by decide +kernel
theorem dX3_locksIn_30 : decode cX3_locksIn 30 = .ok (.if_icmp .ne 6, 3) := by decide +kernel
theorem dX3_locksIn_33 : decode cX3_locksIn 33 = .ok (.iinc 2 1, 3) := by decide +kernel
theorem dX3_locksIn_36 : decode cX3_locksIn 36 = .ok (.iinc 3 1, 3) := by decide +kernel
theorem dX3_locksIn_39 : decode cX3_locksIn 39 = .ok (.goto (-35), 3) := by decide +kernel
theorem dX3_locksIn_42 : decode cX3_locksIn 42 = .ok (.iload_n 2, 1) := by decide +kernel
theorem dX3_locksIn_43 : decode cX3_locksIn 43 = .ok (.ireturn, 1) := by decide +kernel
theorem dX3_openLocksIn_0 : decode cX3_openLocksIn 0 = .ok (.iconst 0, 1) := by decide +kernel
theorem dX3_openLocksIn_1 : decode cX3_openLocksIn 1 = .ok (.istore_n 2, 1) := by decide +kernel
theorem dX3_openLocksIn_2 : decode cX3_openLocksIn 2 = .ok (.iconst 0, 1) := by decide +kernel
theorem dX3_openLocksIn_3 : decode cX3_openLocksIn 3 = .ok (.istore_n 3, 1) := by decide +kernel
theorem dX3_openLocksIn_4 : decode cX3_openLocksIn 4 = .ok (.iload_n 3, 1) := by decide +kernel
theorem dX3_openLocksIn_5 : decode cX3_openLocksIn 5 = .ok (.aload_n 0, 1) := by decide +kernel
theorem dX3_openLocksIn_6 : decode cX3_openLocksIn 6 = .ok (.getfield 10, 3) := by decide +kernel
theorem dX3_openLocksIn_9 : decode cX3_openLocksIn 9 = .ok (.invokevirtual 49, 3) := by decide +kernel
theorem dX3_openLocksIn_12 : decode cX3_openLocksIn 12 = .ok (.if_icmp .ge 42, 3) := by decide +kernel
theorem dX3_openLocksIn_15 : decode cX3_openLocksIn 15 = .ok (.aload_n 0, 1) := by decide +kernel
theorem dX3_openLocksIn_16 : decode cX3_openLocksIn 16 = .ok (.getfield 10, 3) := by decide +kernel
theorem dX3_openLocksIn_19 : decode cX3_openLocksIn 19 = .ok (.iload_n 3, 1) := by decide +kernel
theorem dX3_openLocksIn_20 : decode cX3_openLocksIn 20 = .ok (.invokevirtual 188, 3) := by decide +kernel
theorem dX3_openLocksIn_23 : decode cX3_openLocksIn 23 = .ok (.checkcast 30, 3) := by decide +kernel
theorem dX3_openLocksIn_26 : decode cX3_openLocksIn 26 = .ok (.astore 4, 2) := by decide +kernel
theorem dX3_openLocksIn_28 : decode cX3_openLocksIn 28 = .ok (.aload 4, 2) := by decide +kernel
theorem dX3_openLocksIn_30 : decode cX3_openLocksIn 30 = .ok (.getfield 98, 3) := by decide +kernel
theorem dX3_openLocksIn_33 : decode cX3_openLocksIn 33 = .ok (.ifCond .eq 15, 3) := by decide +kernel
theorem dX3_openLocksIn_36 : decode cX3_openLocksIn 36 = .ok (.aload 4, 2) := by decide +kernel
theorem dX3_openLocksIn_38 : decode cX3_openLocksIn 38 = .ok (.getfield 142, 3) := by decide +kernel
theorem dX3_openLocksIn_41 : decode cX3_openLocksIn 41 = .ok (.iload_n 1, 1) := by decide +kernel
theorem dX3_openLocksIn_42 : decode cX3_openLocksIn 42 = .ok (.if_icmp .ne 6, 3) := by decide +kernel
theorem dX3_openLocksIn_45 : decode cX3_openLocksIn 45 = .ok (.iinc 2 1, 3) := by decide +kernel
theorem dX3_openLocksIn_48 : decode cX3_openLocksIn 48 = .ok (.iinc 3 1, 3) := by decide +kernel
theorem dX3_openLocksIn_51 : decode cX3_openLocksIn 51 = .ok (.goto (-47), 3) := by decide +kernel
theorem dX3_openLocksIn_54 : decode cX3_openLocksIn 54 = .ok (.iload_n 2, 1) := by decide +kernel
theorem dX3_openLocksIn_55 : decode cX3_openLocksIn 55 = .ok (.ireturn, 1) := by decide +kernel
theorem dX3_takesAnother_0 : decode cX3_takesAnother 0 = .ok (.aload_n 0, 1) := by decide +kernel
theorem dX3_takesAnother_1 : decode cX3_takesAnother 1 = .ok (.iload_n 1, 1) := by decide +kernel
theorem dX3_takesAnother_2 : decode cX3_takesAnother 2 = .ok (.invokevirtual 134, 3) := by decide +kernel
theorem dX3_takesAnother_5 : decode cX3_takesAnother 5 = .ok (.ifCond .eq 40, 3) := by decide +kernel
theorem dX3_takesAnother_8 : decode cX3_takesAnother 8 = .ok (.aload_n 0, 1) := by decide +kernel
theorem dX3_takesAnother_9 : decode cX3_takesAnother 9 = .ok (.getfield 18, 3) := by decide +kernel
theorem dX3_takesAnother_12 : decode cX3_takesAnother 12 = .ok (.iload_n 1, 1) := by decide +kernel
theorem dX3_takesAnother_13 : decode cX3_takesAnother 13 = .ok (.aaload, 1) := by decide +kernel
theorem dX3_takesAnother_14 : decode cX3_takesAnother 14 = .ok (.aload_n 0, 1) := by decide +kernel
theorem dX3_takesAnother_15 : decode cX3_takesAnother 15 = .ok (.getfield 39, 3) := by decide +kernel
theorem dX3_takesAnother_18 : decode cX3_takesAnother 18 = .ok (.invokevirtual 158, 3) := by decide +kernel
theorem dX3_takesAnother_21 : decode cX3_takesAnother 21 = .ok (.ifCond .eq 24, 3) := by decide +kernel
theorem dX3_takesAnother_24 : decode cX3_takesAnother 24 = .ok (.aload_n 0, 1) := by decide +kernel
theorem dX3_takesAnother_25 : decode cX3_takesAnother 25 = .ok (.iload_n 1, 1) := by decide +kernel
theorem dX3_takesAnother_26 : decode cX3_takesAnother 26 = .ok (.invokevirtual 118, 3) := by decide +kernel
theorem dX3_takesAnother_29 : decode cX3_takesAnother 29 = .ok (.aload_n 0, 1) := by decide +kernel
theorem dX3_takesAnother_30 : decode cX3_takesAnother 30 = .ok (.getfield 18, 3) := by decide +kernel
theorem dX3_takesAnother_33 : decode cX3_takesAnother 33 = .ok (.iload_n 1, 1) := by decide +kernel
theorem dX3_takesAnother_34 : decode cX3_takesAnother 34 = .ok (.aaload, 1) := by decide +kernel
theorem dX3_takesAnother_35 : decode cX3_takesAnother 35 = .ok (.getfield 123, 3) := by decide +kernel
theorem dX3_takesAnother_38 : decode cX3_takesAnother 38 = .ok (.if_icmp .ge 7, 3) := by decide +kernel
theorem dX3_takesAnother_41 : decode cX3_takesAnother 41 = .ok (.iconst 1, 1) := by decide +kernel
theorem dX3_takesAnother_42 : decode cX3_takesAnother 42 = .ok (.goto 4, 3) := by decide +kernel
theorem dX3_takesAnother_45 : decode cX3_takesAnother 45 = .ok (.iconst 0, 1) := by decide +kernel
theorem dX3_takesAnother_46 : decode cX3_takesAnother 46 = .ok (.ireturn, 1) := by decide +kernel
theorem dX3_isInClosedRack_0 : decode cX3_isInClosedRack 0 = .ok (.aload_n 0, 1) := by decide +kernel
theorem dX3_isInClosedRack_1 : decode cX3_isInClosedRack 1 = .ok (.aload_n 1, 1) := by decide +kernel
theorem dX3_isInClosedRack_2 : decode cX3_isInClosedRack 2 = .ok (.getfield 142, 3) := by decide +kernel
theorem dX3_isInClosedRack_5 : decode cX3_isInClosedRack 5 = .ok (.invokevirtual 134, 3) := by decide +kernel
theorem dX3_isInClosedRack_8 : decode cX3_isInClosedRack 8 = .ok (.ifCond .eq 23, 3) := by decide +kernel
theorem dX3_isInClosedRack_11 : decode cX3_isInClosedRack 11 = .ok (.aload_n 0, 1) := by decide +kernel
theorem dX3_isInClosedRack_12 : decode cX3_isInClosedRack 12 = .ok (.getfield 18, 3) := by decide +kernel
theorem dX3_isInClosedRack_15 : decode cX3_isInClosedRack 15 = .ok (.aload_n 1, 1) := by decide +kernel
theorem dX3_isInClosedRack_16 : decode cX3_isInClosedRack 16 = .ok (.getfield 142, 3) := by decide +kernel
theorem dX3_isInClosedRack_19 : decode cX3_isInClosedRack 19 = .ok (.aaload, 1) := by decide +kernel
theorem dX3_isInClosedRack_20 : decode cX3_isInClosedRack 20 = .ok (.iload_n 2, 1) := by decide +kernel
theorem dX3_isInClosedRack_21 : decode cX3_isInClosedRack 21 = .ok (.invokevirtual 158, 3) := by decide +kernel
theorem dX3_isInClosedRack_24 : decode cX3_isInClosedRack 24 = .ok (.ifCond .ne 7, 3) := by decide +kernel
theorem dX3_isInClosedRack_27 : decode cX3_isInClosedRack 27 = .ok (.iconst 1, 1) := by decide +kernel
theorem dX3_isInClosedRack_28 : decode cX3_isInClosedRack 28 = .ok (.goto 4, 3) := by decide +kernel
theorem dX3_isInClosedRack_31 : decode cX3_isInClosedRack 31 = .ok (.iconst 0, 1) := by decide +kernel
theorem dX3_isInClosedRack_32 : decode cX3_isInClosedRack 32 = .ok (.ireturn, 1) := by decide +kernel
theorem dX3_letHourGoBy_0 : decode cX3_letHourGoBy 0 = .ok (.aload_n 1, 1) := by decide +kernel
theorem dX3_letHourGoBy_1 : decode cX3_letHourGoBy 1 = .ok (.invokevirtual 247, 3) := by decide +kernel
theorem dX3_letHourGoBy_4 : decode cX3_letHourGoBy 4 = .ok (.aload_n 1, 1) := by decide +kernel
theorem dX3_letHourGoBy_5 : decode cX3_letHourGoBy 5 = .ok (.getfield 98, 3) := by decide +kernel
theorem dX3_letHourGoBy_8 : decode cX3_letHourGoBy 8 = .ok (.ifCond .eq 12, 3) := by decide +kernel
theorem dX3_letHourGoBy_11 : decode cX3_letHourGoBy 11 = .ok (.aload_n 0, 1) := by decide +kernel
theorem dX3_letHourGoBy_12 : decode cX3_letHourGoBy 12 = .ok (.aload_n 1, 1) := by decide +kernel
theorem dX3_letHourGoBy_13 : decode cX3_letHourGoBy 13 = .ok (.iload_n 2, 1) := by decide +kernel
theorem dX3_letHourGoBy_14 : decode cX3_letHourGoBy 14 = .ok (.invokevirtual 199, 3) := by decide +kernel
theorem dX3_letHourGoBy_17 : decode cX3_letHourGoBy 17 = .ok (.ifCond .ne 5, 3) := by decide +kernel
theorem dX3_letHourGoBy_20 : decode cX3_letHourGoBy 20 = .ok (.iconst 0, 1) := by decide +kernel
theorem dX3_letHourGoBy_21 : decode cX3_letHourGoBy 21 = .ok (.ireturn, 1) := by decide +kernel
theorem dX3_letHourGoBy_22 : decode cX3_letHourGoBy 22 = .ok (.aload_n 1, 1) := by decide +kernel
theorem dX3_letHourGoBy_23 : decode cX3_letHourGoBy 23 = .ok (.invokevirtual 106, 3) := by decide +kernel
theorem dX3_letHourGoBy_26 : decode cX3_letHourGoBy 26 = .ok (.iconst 1, 1) := by decide +kernel
theorem dX3_letHourGoBy_27 : decode cX3_letHourGoBy 27 = .ok (.ireturn, 1) := by decide +kernel
theorem dX3_openLocks_0 : decode cX3_openLocks 0 = .ok (.iconst 0, 1) := by decide +kernel
theorem dX3_openLocks_1 : decode cX3_openLocks 1 = .ok (.istore_n 1, 1) := by decide +kernel
theorem dX3_openLocks_2 : decode cX3_openLocks 2 = .ok (.iconst 0, 1) := by decide +kernel
theorem dX3_openLocks_3 : decode cX3_openLocks 3 = .ok (.istore_n 2, 1) := by decide +kernel
theorem dX3_openLocks_4 : decode cX3_openLocks 4 = .ok (.iload_n 2, 1) := by decide +kernel
theorem dX3_openLocks_5 : decode cX3_openLocks 5 = .ok (.aload_n 0, 1) := by decide +kernel
theorem dX3_openLocks_6 : decode cX3_openLocks 6 = .ok (.getfield 10, 3) := by decide +kernel
theorem dX3_openLocks_9 : decode cX3_openLocks 9 = .ok (.invokevirtual 49, 3) := by decide +kernel
theorem dX3_openLocks_12 : decode cX3_openLocks 12 = .ok (.if_icmp .ge 29, 3) := by decide +kernel
theorem dX3_openLocks_15 : decode cX3_openLocks 15 = .ok (.aload_n 0, 1) := by decide +kernel
theorem dX3_openLocks_16 : decode cX3_openLocks 16 = .ok (.getfield 10, 3) := by decide +kernel
theorem dX3_openLocks_19 : decode cX3_openLocks 19 = .ok (.iload_n 2, 1) := by decide +kernel
theorem dX3_openLocks_20 : decode cX3_openLocks 20 = .ok (.invokevirtual 188, 3) := by decide +kernel
theorem dX3_openLocks_23 : decode cX3_openLocks 23 = .ok (.checkcast 30, 3) := by decide +kernel
theorem dX3_openLocks_26 : decode cX3_openLocks 26 = .ok (.getfield 98, 3) := by decide +kernel
theorem dX3_openLocks_29 : decode cX3_openLocks 29 = .ok (.ifCond .eq 6, 3) := by decide +kernel
theorem dX3_openLocks_32 : decode cX3_openLocks 32 = .ok (.iinc 1 1, 3) := by decide +kernel
theorem dX3_openLocks_35 : decode cX3_openLocks 35 = .ok (.iinc 2 1, 3) := by decide +kernel
theorem dX3_openLocks_38 : decode cX3_openLocks 38 = .ok (.goto (-34), 3) := by decide +kernel
theorem dX3_openLocks_41 : decode cX3_openLocks 41 = .ok (.iload_n 1, 1) := by decide +kernel
theorem dX3_openLocks_42 : decode cX3_openLocks 42 = .ok (.ireturn, 1) := by decide +kernel
theorem dX3_lostWords_0 : decode cX3_lostWords 0 = .ok (.iconst 0, 1) := by decide +kernel
theorem dX3_lostWords_1 : decode cX3_lostWords 1 = .ok (.istore_n 1, 1) := by decide +kernel
theorem dX3_lostWords_2 : decode cX3_lostWords 2 = .ok (.iconst 0, 1) := by decide +kernel
theorem dX3_lostWords_3 : decode cX3_lostWords 3 = .ok (.istore_n 2, 1) := by decide +kernel
theorem dX3_lostWords_4 : decode cX3_lostWords 4 = .ok (.iload_n 2, 1) := by decide +kernel
theorem dX3_lostWords_5 : decode cX3_lostWords 5 = .ok (.aload_n 0, 1) := by decide +kernel
theorem dX3_lostWords_6 : decode cX3_lostWords 6 = .ok (.getfield 10, 3) := by decide +kernel
theorem dX3_lostWords_9 : decode cX3_lostWords 9 = .ok (.invokevirtual 49, 3) := by decide +kernel
theorem dX3_lostWords_12 : decode cX3_lostWords 12 = .ok (.if_icmp .ge 29, 3) := by decide +kernel
theorem dX3_lostWords_15 : decode cX3_lostWords 15 = .ok (.aload_n 0, 1) := by decide +kernel
theorem dX3_lostWords_16 : decode cX3_lostWords 16 = .ok (.getfield 10, 3) := by decide +kernel
theorem dX3_lostWords_19 : decode cX3_lostWords 19 = .ok (.iload_n 2, 1) := by decide +kernel
theorem dX3_lostWords_20 : decode cX3_lostWords 20 = .ok (.invokevirtual 188, 3) := by decide +kernel
theorem dX3_lostWords_23 : decode cX3_lostWords 23 = .ok (.checkcast 30, 3) := by decide +kernel
theorem dX3_lostWords_26 : decode cX3_lostWords 26 = .ok (.getfield 109, 3) := by decide +kernel
theorem dX3_lostWords_29 : decode cX3_lostWords 29 = .ok (.ifCond .eq 6, 3) := by decide +kernel
theorem dX3_lostWords_32 : decode cX3_lostWords 32 = .ok (.iinc 1 1, 3) := by decide +kernel
theorem dX3_lostWords_35 : decode cX3_lostWords 35 = .ok (.iinc 2 1, 3) := by decide +kernel
theorem dX3_lostWords_38 : decode cX3_lostWords 38 = .ok (.goto (-34), 3) := by decide +kernel
theorem dX3_lostWords_41 : decode cX3_lostWords 41 = .ok (.iload_n 1, 1) := by decide +kernel
theorem dX3_lostWords_42 : decode cX3_lostWords 42 = .ok (.ireturn, 1) := by decide +kernel
theorem dX3_allWear_0 : decode cX3_allWear 0 = .ok (.iconst 0, 1) := by decide +kernel
theorem dX3_allWear_1 : decode cX3_allWear 1 = .ok (.istore_n 1, 1) := by decide +kernel
theorem dX3_allWear_2 : decode cX3_allWear 2 = .ok (.iconst 0, 1) := by decide +kernel
theorem dX3_allWear_3 : decode cX3_allWear 3 = .ok (.istore_n 2, 1) := by decide +kernel
theorem dX3_allWear_4 : decode cX3_allWear 4 = .ok (.iload_n 2, 1) := by decide +kernel
theorem dX3_allWear_5 : decode cX3_allWear 5 = .ok (.aload_n 0, 1) := by decide +kernel
theorem dX3_allWear_6 : decode cX3_allWear 6 = .ok (.getfield 10, 3) := by decide +kernel
theorem dX3_allWear_9 : decode cX3_allWear 9 = .ok (.invokevirtual 49, 3) := by decide +kernel
theorem dX3_allWear_12 : decode cX3_allWear 12 = .ok (.if_icmp .ge 26, 3) := by decide +kernel
theorem dX3_allWear_15 : decode cX3_allWear 15 = .ok (.iload_n 1, 1) := by decide +kernel
theorem dX3_allWear_16 : decode cX3_allWear 16 = .ok (.aload_n 0, 1) := by decide +kernel
theorem dX3_allWear_17 : decode cX3_allWear 17 = .ok (.getfield 10, 3) := by decide +kernel
theorem dX3_allWear_20 : decode cX3_allWear 20 = .ok (.iload_n 2, 1) := by decide +kernel
theorem dX3_allWear_21 : decode cX3_allWear 21 = .ok (.invokevirtual 188, 3) := by decide +kernel
theorem dX3_allWear_24 : decode cX3_allWear 24 = .ok (.checkcast 30, 3) := by decide +kernel
theorem dX3_allWear_27 : decode cX3_allWear 27 = .ok (.invokevirtual 250, 3) := by decide +kernel
theorem dX3_allWear_30 : decode cX3_allWear 30 = .ok (.iadd, 1) := by decide +kernel
theorem dX3_allWear_31 : decode cX3_allWear 31 = .ok (.istore_n 1, 1) := by decide +kernel
theorem dX3_allWear_32 : decode cX3_allWear 32 = .ok (.iinc 2 1, 3) := by decide +kernel
theorem dX3_allWear_35 : decode cX3_allWear 35 = .ok (.goto (-31), 3) := by decide +kernel
theorem dX3_allWear_38 : decode cX3_allWear 38 = .ok (.iload_n 1, 1) := by decide +kernel
theorem dX3_allWear_39 : decode cX3_allWear 39 = .ok (.ireturn, 1) := by decide +kernel
theorem dX3_locksInRacks_0 : decode cX3_locksInRacks 0 = .ok (.aload_n 0, 1) := by decide +kernel
theorem dX3_locksInRacks_1 : decode cX3_locksInRacks 1 = .ok (.getfield 10, 3) := by decide +kernel
theorem dX3_locksInRacks_4 : decode cX3_locksInRacks 4 = .ok (.invokevirtual 49, 3) := by decide +kernel
theorem dX3_locksInRacks_7 : decode cX3_locksInRacks 7 = .ok (.aload_n 0, 1) := by decide +kernel
theorem dX3_locksInRacks_8 : decode cX3_locksInRacks 8 = .ok (.iconst (-1), 1) := by decide +kernel
theorem dX3_locksInRacks_9 : decode cX3_locksInRacks 9 = .ok (.invokevirtual 118, 3) := by decide +kernel
theorem dX3_locksInRacks_12 : decode cX3_locksInRacks 12 = .ok (.isub, 1) := by decide +kernel
theorem dX3_locksInRacks_13 : decode cX3_locksInRacks 13 = .ok (.ireturn, 1) := by decide +kernel
theorem dX4_init_0 : decode cX4_init 0 = .ok (.aload_n 0, 1) := by decide +kernel
theorem dX4_init_1 : decode cX4_init 1 = .ok (.invokespecial 1, 3) := by decide +kernel
theorem dX4_init_4 : decode cX4_init 4 = .ok (.aload_n 0, 1) := by decide +kernel
theorem dX4_init_5 : decode cX4_init 5 = .ok (.iconst 4, 1) := by decide +kernel
theorem dX4_init_6 : decode cX4_init 6 = .ok (.newarray .int, 2) := by decide +kernel
theorem dX4_init_8 : decode cX4_init 8 = .ok (.putfield 7, 3) := by decide +kernel
theorem dX4_init_11 : decode cX4_init 11 = .ok (.aload_n 0, 1) := by decide +kernel
theorem dX4_init_12 : decode cX4_init 12 = .ok (.iconst 4, 1) := by decide +kernel
theorem dX4_init_13 : decode cX4_init 13 = .ok (.bipush 6, 2) := by decide +kernel
theorem dX4_init_15 : decode cX4_init 15 = .ok (.multianewarray 13 2, 4) := by decide +kernel
theorem dX4_init_19 : decode cX4_init 19 = .ok (.putfield 15, 3) := by decide +kernel
theorem dX4_init_22 : decode cX4_init 22 = .ok (.aload_n 0, 1) := by decide +kernel
theorem dX4_init_23 : decode cX4_init 23 = .ok (.iconst 1, 1) := by decide +kernel
theorem dX4_init_24 : decode cX4_init 24 = .ok (.putfield 18, 3) := by decide +kernel
theorem dX4_init_27 : decode cX4_init 27 = .ok (.aload_n 0, 1) := by decide +kernel
theorem dX4_init_28 : decode cX4_init 28 = .ok (.iconst (-1), 1) := by decide +kernel
theorem dX4_init_29 : decode cX4_init 29 = .ok (.putfield 22, 3) := by decide +kernel
theorem dX4_init_32 : decode cX4_init 32 = .ok (.return_, 1) := by decide +kernel
theorem dX4_shut_0 : decode cX4_shut 0 = .ok (.aload_n 0, 1) := by decide +kernel
theorem dX4_shut_1 : decode cX4_shut 1 = .ok (.iconst 0, 1) := by decide +kernel
theorem dX4_shut_2 : decode cX4_shut 2 = .ok (.putfield 18, 3) := by decide +kernel
theorem dX4_shut_5 : decode cX4_shut 5 = .ok (.iconst 0, 1) := by decide +kernel
theorem dX4_shut_6 : decode cX4_shut 6 = .ok (.istore_n 1, 1) := by decide +kernel
theorem dX4_shut_7 : decode cX4_shut 7 = .ok (.iload_n 1, 1) := by decide +kernel
theorem dX4_shut_8 : decode cX4_shut 8 = .ok (.iconst 4, 1) := by decide +kernel
theorem dX4_shut_9 : decode cX4_shut 9 = .ok (.if_icmp .ge 42, 3) := by decide +kernel
theorem dX4_shut_12 : decode cX4_shut 12 = .ok (.aload_n 0, 1) := by decide +kernel
theorem dX4_shut_13 : decode cX4_shut 13 = .ok (.getfield 7, 3) := by decide +kernel
theorem dX4_shut_16 : decode cX4_shut 16 = .ok (.iload_n 1, 1) := by decide +kernel
theorem dX4_shut_17 : decode cX4_shut 17 = .ok (.dup2, 1) := by decide +kernel
theorem dX4_shut_18 : decode cX4_shut 18 = .ok (.iaload, 1) := by decide +kernel
theorem dX4_shut_19 : decode cX4_shut 19 = .ok (.iload_n 1, 1) := by decide +kernel
theorem dX4_shut_20 : decode cX4_shut 20 = .ok (.iconst 1, 1) := by decide +kernel
theorem dX4_shut_21 : decode cX4_shut 21 = .ok (.iadd, 1) := by decide +kernel
theorem dX4_shut_22 : decode cX4_shut 22 = .ok (.iadd, 1) := by decide +kernel
theorem dX4_shut_23 : decode cX4_shut 23 = .ok (.iastore, 1) := by decide +kernel
theorem dX4_shut_24 : decode cX4_shut 24 = .ok (.aload_n 0, 1) := by decide +kernel
theorem dX4_shut_25 : decode cX4_shut 25 = .ok (.getfield 7, 3) := by decide +kernel
theorem dX4_shut_28 : decode cX4_shut 28 = .ok (.iload_n 1, 1) := by decide +kernel
theorem dX4_shut_29 : decode cX4_shut 29 = .ok (.iaload, 1) := by decide +kernel
theorem dX4_shut_30 : decode cX4_shut 30 = .ok (.iconst 5, 1) := by decide +kernel
theorem dX4_shut_31 : decode cX4_shut 31 = .ok (.if_icmp .le 14, 3) := by decide +kernel
theorem dX4_shut_34 : decode cX4_shut 34 = .ok (.aload_n 0, 1) := by decide +kernel
theorem dX4_shut_35 : decode cX4_shut 35 = .ok (.getfield 7, 3) := by decide +kernel
theorem dX4_shut_38 : decode cX4_shut 38 = .ok (.iload_n 1, 1) := by decide +kernel
theorem dX4_shut_39 : decode cX4_shut 39 = .ok (.dup2, 1) := by decide +kernel
theorem dX4_shut_40 : decode cX4_shut 40 = .ok (.iaload, 1) := by decide +kernel
theorem dX4_shut_41 : decode cX4_shut 41 = .ok (.bipush 6, 2) := by decide +kernel
theorem dX4_shut_43 : decode cX4_shut 43 = .ok (.isub, 1) := by decide +kernel
theorem dX4_shut_44 : decode cX4_shut 44 = .ok (.iastore, 1) := by decide +kernel
theorem dX4_shut_45 : decode cX4_shut 45 = .ok (.iinc 1 1, 3) := by decide +kernel
theorem dX4_shut_48 : decode cX4_shut 48 = .ok (.goto (-41), 3) := by decide +kernel
theorem dX4_shut_51 : decode cX4_shut 51 = .ok (.return_, 1) := by decide +kernel
theorem dX5_init_0 : decode cX5_init 0 = .ok (.aload_n 0, 1) := by decide +kernel
theorem dX5_init_1 : decode cX5_init 1 = .ok (.invokespecial 1, 3) := by decide +kernel
theorem dX5_init_4 : decode cX5_init 4 = .ok (.aload_n 0, 1) := by decide +kernel
theorem dX5_init_5 : decode cX5_init 5 = .ok (.iconst 0, 1) := by decide +kernel
theorem dX5_init_6 : decode cX5_init 6 = .ok (.anewarray 7, 3) := by decide +kernel
theorem dX5_init_9 : decode cX5_init 9 = .ok (.putfield 9, 3) := by decide +kernel
theorem dX5_init_12 : decode cX5_init 12 = .ok (.aload_n 0, 1) := by decide +kernel
theorem dX5_init_13 : decode cX5_init 13 = .ok (.iconst 3, 1) := by decide +kernel
theorem dX5_init_14 : decode cX5_init 14 = .ok (.anewarray 15, 3) := by decide +kernel
theorem dX5_init_17 : decode cX5_init 17 = .ok (.dup, 1) := by decide +kernel
theorem dX5_init_18 : decode cX5_init 18 = .ok (.iconst 0, 1) := by decide +kernel
theorem dX5_init_19 : decode cX5_init 19 = .ok (.iconst 3, 1) := by decide +kernel
theorem dX5_init_20 : decode cX5_init 20 = .ok (.newarray .int, 2) := by decide +kernel
theorem dX5_init_22 : decode cX5_init 22 = .ok (.dup, 1) := by decide +kernel
theorem dX5_init_23 : decode cX5_init 23 = .ok (.iconst 0, 1) := by decide +kernel
theorem dX5_init_24 : decode cX5_init 24 = .ok (.iconst 4, 1) := by decide +kernel
theorem dX5_init_25 : decode cX5_init 25 = .ok (.iastore, 1) := by decide +kernel
theorem dX5_init_26 : decode cX5_init 26 = .ok (.dup, 1) := by decide +kernel
theorem dX5_init_27 : decode cX5_init 27 = .ok (.iconst 1, 1) := by decide +kernel
theorem dX5_init_28 : decode cX5_init 28 = .ok (.iconst 0, 1) := by decide +kernel
theorem dX5_init_29 : decode cX5_init 29 = .ok (.iastore, 1) := by decide +kernel
theorem dX5_init_30 : decode cX5_init 30 = .ok (.dup, 1) := by decide +kernel
theorem dX5_init_31 : decode cX5_init 31 = .ok (.iconst 2, 1) := by decide +kernel
theorem dX5_init_32 : decode cX5_init 32 = .ok (.bipush 24, 2) := by decide +kernel
theorem dX5_init_34 : decode cX5_init 34 = .ok (.iastore, 1) := by decide +kernel
theorem dX5_init_35 : decode cX5_init 35 = .ok (.aastore, 1) := by decide +kernel
theorem dX5_init_36 : decode cX5_init 36 = .ok (.dup, 1) := by decide +kernel
theorem dX5_init_37 : decode cX5_init 37 = .ok (.iconst 1, 1) := by decide +kernel
theorem dX5_init_38 : decode cX5_init 38 = .ok (.iconst 3, 1) := by decide +kernel
theorem dX5_init_39 : decode cX5_init 39 = .ok (.newarray .int, 2) := by decide +kernel
theorem dX5_init_41 : decode cX5_init 41 = .ok (.dup, 1) := by decide +kernel
theorem dX5_init_42 : decode cX5_init 42 = .ok (.iconst 0, 1) := by decide +kernel
theorem dX5_init_43 : decode cX5_init 43 = .ok (.iconst 4, 1) := by decide +kernel
theorem dX5_init_44 : decode cX5_init 44 = .ok (.iastore, 1) := by decide +kernel
theorem dX5_init_45 : decode cX5_init 45 = .ok (.dup, 1) := by decide +kernel
theorem dX5_init_46 : decode cX5_init 46 = .ok (.iconst 1, 1) := by decide +kernel
theorem dX5_init_47 : decode cX5_init 47 = .ok (.iconst 0, 1) := by decide +kernel
theorem dX5_init_48 : decode cX5_init 48 = .ok (.iastore, 1) := by decide +kernel
theorem dX5_init_49 : decode cX5_init 49 = .ok (.dup, 1) := by decide +kernel
theorem dX5_init_50 : decode cX5_init 50 = .ok (.iconst 2, 1) := by decide +kernel
theorem dX5_init_51 : decode cX5_init 51 = .ok (.bipush 24, 2) := by decide +kernel
theorem dX5_init_53 : decode cX5_init 53 = .ok (.iastore, 1) := by decide +kernel
theorem dX5_init_54 : decode cX5_init 54 = .ok (.aastore, 1) := by decide +kernel
theorem dX5_init_55 : decode cX5_init 55 = .ok (.dup, 1) := by decide +kernel
theorem dX5_init_56 : decode cX5_init 56 = .ok (.iconst 2, 1) := by decide +kernel
theorem dX5_init_57 : decode cX5_init 57 = .ok (.iconst 3, 1) := by decide +kernel
theorem dX5_init_58 : decode cX5_init 58 = .ok (.newarray .int, 2) := by decide +kernel
theorem dX5_init_60 : decode cX5_init 60 = .ok (.dup, 1) := by decide +kernel
theorem dX5_init_61 : decode cX5_init 61 = .ok (.iconst 0, 1) := by decide +kernel
theorem dX5_init_62 : decode cX5_init 62 = .ok (.iconst 4, 1) := by decide +kernel
theorem dX5_init_63 : decode cX5_init 63 = .ok (.iastore, 1) := by decide +kernel
theorem dX5_init_64 : decode cX5_init 64 = .ok (.dup, 1) := by decide +kernel
theorem dX5_init_65 : decode cX5_init 65 = .ok (.iconst 1, 1) := by decide +kernel
theorem dX5_init_66 : decode cX5_init 66 = .ok (.iconst 0, 1) := by decide +kernel
theorem dX5_init_67 : decode cX5_init 67 = .ok (.iastore, 1) := by decide +kernel
theorem dX5_init_68 : decode cX5_init 68 = .ok (.dup, 1) := by decide +kernel
theorem dX5_init_69 : decode cX5_init 69 = .ok (.iconst 2, 1) := by decide +kernel
theorem dX5_init_70 : decode cX5_init 70 = .ok (.bipush 24, 2) := by decide +kernel
theorem dX5_init_72 : decode cX5_init 72 = .ok (.iastore, 1) := by decide +kernel
theorem dX5_init_73 : decode cX5_init 73 = .ok (.aastore, 1) := by decide +kernel
theorem dX5_init_74 : decode cX5_init 74 = .ok (.putfield 17, 3) := by decide +kernel
theorem dX5_init_77 : decode cX5_init 77 = .ok (.return_, 1) := by decide +kernel
theorem dX5_isOpen_0 : decode cX5_isOpen 0 = .ok (.aload_n 0, 1) := by decide +kernel
theorem dX5_isOpen_1 : decode cX5_isOpen 1 = .ok (.getfield 17, 3) := by decide +kernel
theorem dX5_isOpen_4 : decode cX5_isOpen 4 = .ok (.iload_n 1, 1) := by decide +kernel
theorem dX5_isOpen_5 : decode cX5_isOpen 5 = .ok (.aaload, 1) := by decide +kernel
theorem dX5_isOpen_6 : decode cX5_isOpen 6 = .ok (.iconst 1, 1) := by decide +kernel
theorem dX5_isOpen_7 : decode cX5_isOpen 7 = .ok (.iaload, 1) := by decide +kernel
theorem dX5_isOpen_8 : decode cX5_isOpen 8 = .ok (.istore_n 2, 1) := by decide +kernel
theorem dX5_isOpen_9 : decode cX5_isOpen 9 = .ok (.iload_n 2, 1) := by decide +kernel
theorem dX5_isOpen_10 : decode cX5_isOpen 10 = .ok (.aload_n 0, 1) := by decide +kernel
theorem dX5_isOpen_11 : decode cX5_isOpen 11 = .ok (.getfield 17, 3) := by decide +kernel
theorem dX5_isOpen_14 : decode cX5_isOpen 14 = .ok (.iload_n 1, 1) := by decide +kernel
theorem dX5_isOpen_15 : decode cX5_isOpen 15 = .ok (.aaload, 1) := by decide +kernel
theorem dX5_isOpen_16 : decode cX5_isOpen 16 = .ok (.iconst 2, 1) := by decide +kernel
theorem dX5_isOpen_17 : decode cX5_isOpen 17 = .ok (.iaload, 1) := by decide +kernel
theorem dX5_isOpen_18 : decode cX5_isOpen 18 = .ok (.if_icmp .ne 5, 3) := by decide +kernel
theorem dX5_isOpen_21 : decode cX5_isOpen 21 = .ok (.iconst 0, 1) := by decide +kernel
theorem dX5_isOpen_22 : decode cX5_isOpen 22 = .ok (.ireturn, 1) := by decide +kernel
theorem dX5_isOpen_23 : decode cX5_isOpen 23 = .ok (.iload_n 2, 1) := by decide +kernel
theorem dX5_isOpen_24 : decode cX5_isOpen 24 = .ok (.aload_n 0, 1) := by decide +kernel
theorem dX5_isOpen_25 : decode cX5_isOpen 25 = .ok (.getfield 17, 3) := by decide +kernel
theorem dX5_isOpen_28 : decode cX5_isOpen 28 = .ok (.iload_n 1, 1) := by decide +kernel
theorem dX5_isOpen_29 : decode cX5_isOpen 29 = .ok (.aaload, 1) := by decide +kernel
theorem dX5_isOpen_30 : decode cX5_isOpen 30 = .ok (.iconst 2, 1) := by decide +kernel
theorem dX5_isOpen_31 : decode cX5_isOpen 31 = .ok (.iaload, 1) := by decide +kernel
theorem dX5_isOpen_32 : decode cX5_isOpen 32 = .ok (.if_icmp .eq 40, 3) := by decide +kernel
theorem dX5_isOpen_35 : decode cX5_isOpen 35 = .ok (.iload_n 2, 1) := by decide +kernel
theorem dX5_isOpen_36 : decode cX5_isOpen 36 = .ok (.bipush 24, 2) := by decide +kernel
theorem dX5_isOpen_38 : decode cX5_isOpen 38 = .ok (.aload_n 0, 1) := by decide +kernel
theorem dX5_isOpen_39 : decode cX5_isOpen 39 = .ok (.getfield 17, 3) := by decide +kernel
theorem dX5_isOpen_42 : decode cX5_isOpen 42 = .ok (.iload_n 1, 1) := by decide +kernel
theorem dX5_isOpen_43 : decode cX5_isOpen 43 = .ok (.aaload, 1) := by decide +kernel
theorem dX5_isOpen_44 : decode cX5_isOpen 44 = .ok (.iconst 2, 1) := by decide +kernel
theorem dX5_isOpen_45 : decode cX5_isOpen 45 = .ok (.iaload, 1) := by decide +kernel
theorem dX5_isOpen_46 : decode cX5_isOpen 46 = .ok (.iadd, 1) := by decide +kernel
theorem dX5_isOpen_47 : decode cX5_isOpen 47 = .ok (.if_icmp .eq 25, 3) := by decide +kernel
theorem dX5_isOpen_50 : decode cX5_isOpen 50 = .ok (.iload_n 2, 1) := by decide +kernel
theorem dX5_isOpen_51 : decode cX5_isOpen 51 = .ok (.bipush 24, 2) := by decide +kernel
theorem dX5_isOpen_53 : decode cX5_isOpen 53 = .ok (.irem, 1) := by decide +kernel
theorem dX5_isOpen_54 : decode cX5_isOpen 54 = .ok (.aload_n 0, 1) := by decide +kernel
theorem dX5_isOpen_55 : decode cX5_isOpen 55 = .ok (.getfield 22, 3) := by decide +kernel
theorem dX5_isOpen_58 : decode cX5_isOpen 58 = .ok (.bipush 24, 2) := by decide +kernel
theorem dX5_isOpen_60 : decode cX5_isOpen 60 = .ok (.irem, 1) := by decide +kernel
theorem dX5_isOpen_61 : decode cX5_isOpen 61 = .ok (.if_icmp .ne 5, 3) := by decide +kernel
theorem dX5_isOpen_64 : decode cX5_isOpen 64 = .ok (.iconst 1, 1) := by decide +kernel
theorem dX5_isOpen_65 : decode cX5_isOpen 65 = .ok (.ireturn, 1) := by decide +kernel
theorem dX5_isOpen_66 : decode cX5_isOpen 66 = .ok (.iinc 2 1, 3) := by decide +kernel
theorem dX5_isOpen_69 : decode cX5_isOpen 69 = .ok (.goto (-46), 3) := by decide +kernel
theorem dX5_isOpen_72 : decode cX5_isOpen 72 = .ok (.iconst 0, 1) := by decide +kernel
theorem dX5_isOpen_73 : decode cX5_isOpen 73 = .ok (.ireturn, 1) := by decide +kernel
theorem dX5_in_0 : decode cX5_in 0 = .ok (.iconst 0, 1) := by decide +kernel
theorem dX5_in_1 : decode cX5_in 1 = .ok (.istore_n 2, 1) := by decide +kernel
theorem dX5_in_2 : decode cX5_in 2 = .ok (.aload_n 0, 1) := by decide +kernel
theorem dX5_in_3 : decode cX5_in 3 = .ok (.getfield 9, 3) := by decide +kernel
theorem dX5_in_6 : decode cX5_in 6 = .ok (.astore_n 3, 1) := by decide +kernel
theorem dX5_in_7 : decode cX5_in 7 = .ok (.aload_n 3, 1) := by decide +kernel
theorem dX5_in_8 : decode cX5_in 8 = .ok (.arraylength, 1) := by decide +kernel
theorem dX5_in_9 : decode cX5_in 9 = .ok (.istore 4, 2) := by decide +kernel
theorem dX5_in_11 : decode cX5_in 11 = .ok (.iconst 0, 1) := by decide +kernel
theorem dX5_in_12 : decode cX5_in 12 = .ok (.istore 5, 2) := by decide +kernel
theorem dX5_in_14 : decode cX5_in 14 = .ok (.iload 5, 2) := by decide +kernel
theorem dX5_in_16 : decode cX5_in 16 = .ok (.iload 4, 2) := by decide +kernel
theorem dX5_in_18 : decode cX5_in 18 = .ok (.if_icmp .ge 32, 3) := by decide +kernel
theorem dX5_in_21 : decode cX5_in 21 = .ok (.aload_n 3, 1) := by decide +kernel
theorem dX5_in_22 : decode cX5_in 22 = .ok (.iload 5, 2) := by decide +kernel
theorem dX5_in_24 : decode cX5_in 24 = .ok (.aaload, 1) := by decide +kernel
theorem dX5_in_25 : decode cX5_in 25 = .ok (.astore 6, 2) := by decide +kernel
theorem dX5_in_27 : decode cX5_in 27 = .ok (.iload_n 2, 1) := by decide +kernel
theorem dX5_in_28 : decode cX5_in 28 = .ok (.aload 6, 2) := by decide +kernel
theorem dX5_in_30 : decode cX5_in 30 = .ok (.getfield 33, 3) := by decide +kernel
theorem dX5_in_33 : decode cX5_in 33 = .ok (.iload_n 1, 1) := by decide +kernel
theorem dX5_in_34 : decode cX5_in 34 = .ok (.if_icmp .ne 7, 3) := by decide +kernel
theorem dX5_in_37 : decode cX5_in 37 = .ok (.iconst 1, 1) := by decide +kernel
theorem dX5_in_38 : decode cX5_in 38 = .ok (.goto 4, 3) := by decide +kernel
theorem dX5_in_41 : decode cX5_in 41 = .ok (.iconst 0, 1) := by decide +kernel
theorem dX5_in_42 : decode cX5_in 42 = .ok (.iadd, 1) := by decide +kernel
theorem dX5_in_43 : decode cX5_in 43 = .ok (.istore_n 2, 1) := by decide +kernel
theorem dX5_in_44 : decode cX5_in 44 = .ok (.iinc 5 1, 3) := by decide +kernel
theorem dX5_in_47 : decode cX5_in 47 = .ok (.goto (-33), 3) := by decide +kernel
theorem dX5_in_50 : decode cX5_in 50 = .ok (.iload_n 2, 1) := by decide +kernel
theorem dX5_in_51 : decode cX5_in 51 = .ok (.ireturn, 1) := by decide +kernel
theorem dX5_pass_0 : decode cX5_pass 0 = .ok (.aload_n 0, 1) := by decide +kernel
theorem dX5_pass_1 : decode cX5_pass 1 = .ok (.getfield 9, 3) := by decide +kernel
theorem dX5_pass_4 : decode cX5_pass 4 = .ok (.astore_n 1, 1) := by decide +kernel
theorem dX5_pass_5 : decode cX5_pass 5 = .ok (.aload_n 1, 1) := by decide +kernel
theorem dX5_pass_6 : decode cX5_pass 6 = .ok (.arraylength, 1) := by decide +kernel
theorem dX5_pass_7 : decode cX5_pass 7 = .ok (.istore_n 2, 1) := by decide +kernel
theorem dX5_pass_8 : decode cX5_pass 8 = .ok (.iconst 0, 1) := by decide +kernel
theorem dX5_pass_9 : decode cX5_pass 9 = .ok (.istore_n 3, 1) := by decide +kernel
theorem dX5_pass_10 : decode cX5_pass 10 = .ok (.iload_n 3, 1) := by decide +kernel
theorem dX5_pass_11 : decode cX5_pass 11 = .ok (.iload_n 2, 1) := by decide +kernel
theorem dX5_pass_12 : decode cX5_pass 12 = .ok (.if_icmp .ge 115, 3) := by decide +kernel
theorem dX5_pass_15 : decode cX5_pass 15 = .ok (.aload_n 1, 1) := by decide +kernel
theorem dX5_pass_16 : decode cX5_pass 16 = .ok (.iload_n 3, 1) := by decide +kernel
theorem dX5_pass_17 : decode cX5_pass 17 = .ok (.aaload, 1) := by decide +kernel
theorem dX5_pass_18 : decode cX5_pass 18 = .ok (.astore 4, 2) := by decide +kernel
theorem dX5_pass_20 : decode cX5_pass 20 = .ok (.iconst 0, 1) := by decide +kernel
theorem dX5_pass_21 : decode cX5_pass 21 = .ok (.istore 5, 2) := by decide +kernel
theorem dX5_pass_23 : decode cX5_pass 23 = .ok (.iload 5, 2) := by decide +kernel
theorem dX5_pass_25 : decode cX5_pass 25 = .ok (.iconst 4, 1) := by decide +kernel
theorem dX5_pass_26 : decode cX5_pass 26 = .ok (.if_icmp .ge 95, 3) := by decide +kernel
theorem dX5_pass_29 : decode cX5_pass 29 = .ok (.aload 4, 2) := by decide +kernel
theorem dX5_pass_31 : decode cX5_pass 31 = .ok (.getfield 36, 3) := by decide +kernel
theorem dX5_pass_34 : decode cX5_pass 34 = .ok (.ifCond .eq 14, 3) := by decide +kernel
theorem dX5_pass_37 : decode cX5_pass 37 = .ok (.aload 4, 2) := by decide +kernel
theorem dX5_pass_39 : decode cX5_pass 39 = .ok (.getfield 40, 3) := by decide +kernel
theorem dX5_pass_42 : decode cX5_pass 42 = .ok (.iload 5, 2) := by decide +kernel
theorem dX5_pass_44 : decode cX5_pass 44 = .ok (.iaload, 1) := by decide +kernel
theorem dX5_pass_45 : decode cX5_pass 45 = .ok (.goto 11, 3) := by decide +kernel
theorem dX5_pass_48 : decode cX5_pass 48 = .ok (.aload 4, 2) := by decide +kernel
theorem dX5_pass_50 : decode cX5_pass 50 = .ok (.getfield 43, 3) := by decide +kernel
theorem dX5_pass_53 : decode cX5_pass 53 = .ok (.iload 5, 2) := by decide +kernel
theorem dX5_pass_55 : decode cX5_pass 55 = .ok (.iaload, 1) := by decide +kernel
theorem dX5_pass_56 : decode cX5_pass 56 = .ok (.istore 6, 2) := by decide +kernel
theorem dX5_pass_58 : decode cX5_pass 58 = .ok (.aload 4, 2) := by decide +kernel
theorem dX5_pass_60 : decode cX5_pass 60 = .ok (.getfield 36, 3) := by decide +kernel
theorem dX5_pass_63 : decode cX5_pass 63 = .ok (.ifCond .ne 7, 3) := by decide +kernel
theorem dX5_pass_66 : decode cX5_pass 66 = .ok (.iconst 1, 1) := by decide +kernel
theorem dX5_pass_67 : decode cX5_pass 67 = .ok (.goto 16, 3) := by decide +kernel
theorem dX5_pass_70 : decode cX5_pass 70 = .ok (.aload 4, 2) := by decide +kernel
theorem dX5_pass_72 : decode cX5_pass 72 = .ok (.getfield 33, 3) := by decide +kernel
theorem dX5_pass_75 : decode cX5_pass 75 = .ok (.ifCond .lt 7, 3) := by decide +kernel
theorem dX5_pass_78 : decode cX5_pass 78 = .ok (.iconst 2, 1) := by decide +kernel
theorem dX5_pass_79 : decode cX5_pass 79 = .ok (.goto 4, 3) := by decide +kernel
theorem dX5_pass_82 : decode cX5_pass 82 = .ok (.iconst 0, 1) := by decide +kernel
theorem dX5_pass_83 : decode cX5_pass 83 = .ok (.istore 7, 2) := by decide +kernel
theorem dX5_pass_85 : decode cX5_pass 85 = .ok (.aload 4, 2) := by decide +kernel
theorem dX5_pass_87 : decode cX5_pass 87 = .ok (.getfield 46, 3) := by decide +kernel
theorem dX5_pass_90 : decode cX5_pass 90 = .ok (.iload 5, 2) := by decide +kernel
theorem dX5_pass_92 : decode cX5_pass 92 = .ok (.aaload, 1) := by decide +kernel
theorem dX5_pass_93 : decode cX5_pass 93 = .ok (.iload 6, 2) := by decide +kernel
theorem dX5_pass_95 : decode cX5_pass 95 = .ok (.bipush 99, 2) := by decide +kernel
theorem dX5_pass_97 : decode cX5_pass 97 = .ok (.aload 4, 2) := by decide +kernel
theorem dX5_pass_99 : decode cX5_pass 99 = .ok (.getfield 46, 3) := by decide +kernel
theorem dX5_pass_102 : decode cX5_pass 102 = .ok (.iload 5, 2) := by decide +kernel
theorem dX5_pass_104 : decode cX5_pass 104 = .ok (.aaload, 1) := by decide +kernel
theorem dX5_pass_105 : decode cX5_pass 105 = .ok (.iload 6, 2) := by decide +kernel
theorem dX5_pass_107 : decode cX5_pass 107 = .ok (.iaload, 1) := by decide +kernel
theorem dX5_pass_108 : decode cX5_pass 108 = .ok (.iload 7, 2) := by decide +kernel
theorem dX5_pass_110 : decode cX5_pass 110 = .ok (.iadd, 1) := by decide +kernel
theorem dX5_pass_111 : decode cX5_pass 111 = .ok (.invokestatic 49, 3) := by decide +kernel
theorem dX5_pass_114 : decode cX5_pass 114 = .ok (.iastore, 1) := by decide +kernel
theorem dX5_pass_115 : decode cX5_pass 115 = .ok (.iinc 5 1, 3) := by decide +kernel
theorem dX5_pass_118 : decode cX5_pass 118 = .ok (.goto (-95), 3) := by decide +kernel
theorem dX5_pass_121 : decode cX5_pass 121 = .ok (.iinc 3 1, 3) := by decide +kernel
theorem dX5_pass_124 : decode cX5_pass 124 = .ok (.goto (-114), 3) := by decide +kernel
theorem dX5_pass_127 : decode cX5_pass 127 = .ok (.iconst 0, 1) := by decide +kernel
theorem dX5_pass_128 : decode cX5_pass 128 = .ok (.istore_n 1, 1) := by decide +kernel
theorem dX5_pass_129 : decode cX5_pass 129 = .ok (.aload_n 0, 1) := by decide +kernel
theorem dX5_pass_130 : decode cX5_pass 130 = .ok (.getfield 9, 3) := by decide +kernel
theorem dX5_pass_133 : decode cX5_pass 133 = .ok (.astore_n 2, 1) := by decide +kernel
theorem dX5_pass_134 : decode cX5_pass 134 = .ok (.aload_n 2, 1) := by decide +kernel
theorem dX5_pass_135 : decode cX5_pass 135 = .ok (.arraylength, 1) := by decide +kernel
theorem dX5_pass_136 : decode cX5_pass 136 = .ok (.istore_n 3, 1) := by decide +kernel
theorem dX5_pass_137 : decode cX5_pass 137 = .ok (.iconst 0, 1) := by decide +kernel
theorem dX5_pass_138 : decode cX5_pass 138 = .ok (.istore 4, 2) := by decide +kernel
theorem dX5_pass_140 : decode cX5_pass 140 = .ok (.iload 4, 2) := by decide +kernel
theorem dX5_pass_142 : decode cX5_pass 142 = .ok (.iload_n 3, 1) := by decide +kernel
theorem dX5_pass_143 : decode cX5_pass 143 = .ok (.if_icmp .ge 54, 3) := by decide +kernel
theorem dX5_pass_146 : decode cX5_pass 146 = .ok (.aload_n 2, 1) := by decide +kernel
theorem dX5_pass_147 : decode cX5_pass 147 = .ok (.iload 4, 2) := by decide +kernel
theorem dX5_pass_149 : decode cX5_pass 149 = .ok (.aaload, 1) := by decide +kernel
theorem dX5_pass_150 : decode cX5_pass 150 = .ok (.astore 5, 2) := by decide +kernel
theorem dX5_pass_152 : decode cX5_pass 152 = .ok (.aload 5, 2) := by decide +kernel
theorem dX5_pass_154 : decode cX5_pass 154 = .ok (.getfield 33, 3) := by decide +kernel
theorem dX5_pass_157 : decode cX5_pass 157 = .ok (.ifCond .lt 34, 3) := by decide +kernel
theorem dX5_pass_160 : decode cX5_pass 160 = .ok (.aload 5, 2) := by decide +kernel
theorem dX5_pass_162 : decode cX5_pass 162 = .ok (.getfield 36, 3) := by decide +kernel
theorem dX5_pass_165 : decode cX5_pass 165 = .ok (.ifCond .eq 26, 3) := by decide +kernel
theorem dX5_pass_168 : decode cX5_pass 168 = .ok (.aload_n 0, 1) := by decide +kernel
theorem dX5_pass_169 : decode cX5_pass 169 = .ok (.aload 5, 2) := by decide +kernel
theorem dX5_pass_171 : decode cX5_pass 171 = .ok (.getfield 33, 3) := by decide +kernel
theorem dX5_pass_174 : decode cX5_pass 174 = .ok (.invokevirtual 55, 3) := by decide +kernel
theorem dX5_pass_177 : decode cX5_pass 177 = .ok (.ifCond .eq 6, 3) := by decide +kernel
theorem dX5_pass_180 : decode cX5_pass 180 = .ok (.goto 11, 3) := by decide +kernel
theorem dX5_pass_183 : decode cX5_pass 183 = .ok (.aload 5, 2) := by decide +kernel
theorem dX5_pass_185 : decode cX5_pass 185 = .ok (.invokevirtual 58, 3) := by decide +kernel
theorem dX5_pass_188 : decode cX5_pass 188 = .ok (.iinc 1 1, 3) := by decide +kernel
theorem dX5_pass_191 : decode cX5_pass 191 = .ok (.iinc 4 1, 3) := by decide +kernel
theorem dX5_pass_194 : decode cX5_pass 194 = .ok (.goto (-54), 3) := by decide +kernel
theorem dX5_pass_197 : decode cX5_pass 197 = .ok (.aload_n 0, 1) := by decide +kernel
theorem dX5_pass_198 : decode cX5_pass 198 = .ok (.dup, 1) := by decide +kernel
theorem dX5_pass_199 : decode cX5_pass 199 = .ok (.getfield 22, 3) := by decide +kernel
theorem dX5_pass_202 : decode cX5_pass 202 = .ok (.iconst 1, 1) := by decide +kernel
theorem dX5_pass_203 : decode cX5_pass 203 = .ok (.iadd, 1) := by decide +kernel
theorem dX5_pass_204 : decode cX5_pass 204 = .ok (.putfield 22, 3) := by decide +kernel
theorem dX5_pass_207 : decode cX5_pass 207 = .ok (.iload_n 1, 1) := by decide +kernel
theorem dX5_pass_208 : decode cX5_pass 208 = .ok (.ireturn, 1) := by decide +kernel
theorem dX5_best_0 : decode cX5_best 0 = .ok (.iconst 5, 1) := by decide +kernel
theorem dX5_best_1 : decode cX5_best 1 = .ok (.istore_n 1, 1) := by decide +kernel
theorem dX5_best_2 : decode cX5_best 2 = .ok (.iconst 4, 1) := by decide +kernel
theorem dX5_best_3 : decode cX5_best 3 = .ok (.istore_n 2, 1) := by decide +kernel
theorem dX5_best_4 : decode cX5_best 4 = .ok (.iload_n 2, 1) := by decide +kernel
theorem dX5_best_5 : decode cX5_best 5 = .ok (.ifCond .lt 20, 3) := by decide +kernel
theorem dX5_best_8 : decode cX5_best 8 = .ok (.aload_n 0, 1) := by decide +kernel
theorem dX5_best_9 : decode cX5_best 9 = .ok (.iload_n 2, 1) := by decide +kernel
theorem dX5_best_10 : decode cX5_best 10 = .ok (.iaload, 1) := by decide +kernel
theorem dX5_best_11 : decode cX5_best 11 = .ok (.aload_n 0, 1) := by decide +kernel
theorem dX5_best_12 : decode cX5_best 12 = .ok (.iload_n 1, 1) := by decide +kernel
theorem dX5_best_13 : decode cX5_best 13 = .ok (.iaload, 1) := by decide +kernel
theorem dX5_best_14 : decode cX5_best 14 = .ok (.if_icmp .lt 5, 3) := by decide +kernel
theorem dX5_best_17 : decode cX5_best 17 = .ok (.iload_n 2, 1) := by decide +kernel
theorem dX5_best_18 : decode cX5_best 18 = .ok (.istore_n 1, 1) := by decide +kernel
theorem dX5_best_19 : decode cX5_best 19 = .ok (.iinc 2 (-1), 3) := by decide +kernel
theorem dX5_best_22 : decode cX5_best 22 = .ok (.goto (-18), 3) := by decide +kernel
theorem dX5_best_25 : decode cX5_best 25 = .ok (.iload_n 1, 1) := by decide +kernel
theorem dX5_best_26 : decode cX5_best 26 = .ok (.ireturn, 1) := by decide +kernel
theorem dX5_isSame_0 : decode cX5_isSame 0 = .ok (.iconst 0, 1) := by decide +kernel
theorem dX5_isSame_1 : decode cX5_isSame 1 = .ok (.istore_n 2, 1) := by decide +kernel
theorem dX5_isSame_2 : decode cX5_isSame 2 = .ok (.iconst 0, 1) := by decide +kernel
theorem dX5_isSame_3 : decode cX5_isSame 3 = .ok (.istore_n 3, 1) := by decide +kernel
theorem dX5_isSame_4 : decode cX5_isSame 4 = .ok (.iconst 0, 1) := by decide +kernel
theorem dX5_isSame_5 : decode cX5_isSame 5 = .ok (.istore 4, 2) := by decide +kernel
theorem dX5_isSame_7 : decode cX5_isSame 7 = .ok (.iconst 0, 1) := by decide +kernel
theorem dX5_isSame_8 : decode cX5_isSame 8 = .ok (.istore 5, 2) := by decide +kernel
theorem dX5_isSame_10 : decode cX5_isSame 10 = .ok (.iload 5, 2) := by decide +kernel
theorem dX5_isSame_12 : decode cX5_isSame 12 = .ok (.aload_n 0, 1) := by decide +kernel
theorem dX5_isSame_13 : decode cX5_isSame 13 = .ok (.getfield 9, 3) := by decide +kernel
theorem dX5_isSame_16 : decode cX5_isSame 16 = .ok (.arraylength, 1) := by decide +kernel
theorem dX5_isSame_17 : decode cX5_isSame 17 = .ok (.if_icmp .ge 248, 3) := by decide +kernel
theorem dX5_isSame_20 : decode cX5_isSame 20 = .ok (.aload_n 0, 1) := by decide +kernel
theorem dX5_isSame_21 : decode cX5_isSame 21 = .ok (.getfield 9, 3) := by decide +kernel
theorem dX5_isSame_24 : decode cX5_isSame 24 = .ok (.iload 5, 2) := by decide +kernel
theorem dX5_isSame_26 : decode cX5_isSame 26 = .ok (.aaload, 1) := by decide +kernel
theorem dX5_isSame_27 : decode cX5_isSame 27 = .ok (.astore 6, 2) := by decide +kernel
theorem dX5_isSame_29 : decode cX5_isSame 29 = .ok (.iconst 4, 1) := by decide +kernel
theorem dX5_isSame_30 : decode cX5_isSame 30 = .ok (.newarray .int, 2) := by decide +kernel
theorem dX5_isSame_32 : decode cX5_isSame 32 = .ok (.astore 7, 2) := by decide +kernel
theorem dX5_isSame_34 : decode cX5_isSame 34 = .ok (.iconst 0, 1) := by decide +kernel
theorem dX5_isSame_35 : decode cX5_isSame 35 = .ok (.istore 8, 2) := by decide +kernel
theorem dX5_isSame_37 : decode cX5_isSame 37 = .ok (.iload 8, 2) := by decide +kernel
theorem dX5_isSame_39 : decode cX5_isSame 39 = .ok (.iconst 4, 1) := by decide +kernel
theorem dX5_isSame_40 : decode cX5_isSame 40 = .ok (.if_icmp .ge 83, 3) := by decide +kernel
theorem dX5_isSame_43 : decode cX5_isSame 43 = .ok (.aload 7, 2) := by decide +kernel
theorem dX5_isSame_45 : decode cX5_isSame 45 = .ok (.iload 8, 2) := by decide +kernel
theorem dX5_isSame_47 : decode cX5_isSame 47 = .ok (.aload 6, 2) := by decide +kernel
theorem dX5_isSame_49 : decode cX5_isSame 49 = .ok (.getfield 46, 3) := by decide +kernel
theorem dX5_isSame_52 : decode cX5_isSame 52 = .ok (.iload 8, 2) := by decide +kernel
theorem dX5_isSame_54 : decode cX5_isSame 54 = .ok (.aaload, 1) := by decide +kernel
theorem dX5_isSame_55 : decode cX5_isSame 55 = .ok (.invokestatic 65, 3) := by decide +kernel
theorem dX5_isSame_58 : decode cX5_isSame 58 = .ok (.iastore, 1) := by decide +kernel
theorem dX5_isSame_59 : decode cX5_isSame 59 = .ok (.iconst 0, 1) := by decide +kernel
theorem dX5_isSame_60 : decode cX5_isSame 60 = .ok (.istore 9, 2) := by decide +kernel
theorem dX5_isSame_62 : decode cX5_isSame 62 = .ok (.iload 9, 2) := by decide +kernel
theorem dX5_isSame_64 : decode cX5_isSame 64 = .ok (.bipush 6, 2) := by decide +kernel
theorem dX5_isSame_66 : decode cX5_isSame 66 = .ok (.if_icmp .ge 51, 3) := by decide +kernel
theorem dX5_isSame_69 : decode cX5_isSame 69 = .ok (.aload_n 1, 1) := by decide +kernel
theorem dX5_isSame_70 : decode cX5_isSame 70 = .ok (.iload 5, 2) := by decide +kernel
theorem dX5_isSame_72 : decode cX5_isSame 72 = .ok (.iload 8, 2) := by decide +kernel
theorem dX5_isSame_74 : decode cX5_isSame 74 = .ok (.iload 9, 2) := by decide +kernel
theorem dX5_isSame_76 : decode cX5_isSame 76 = .ok (.invokevirtual 84, 3) := by decide +kernel
theorem dX5_isSame_79 : decode cX5_isSame 79 = .ok (.aload 6, 2) := by decide +kernel
theorem dX5_isSame_81 : decode cX5_isSame 81 = .ok (.getfield 46, 3) := by decide +kernel
theorem dX5_isSame_84 : decode cX5_isSame 84 = .ok (.iload 8, 2) := by decide +kernel
theorem dX5_isSame_86 : decode cX5_isSame 86 = .ok (.aaload, 1) := by decide +kernel
theorem dX5_isSame_87 : decode cX5_isSame 87 = .ok (.iload 9, 2) := by decide +kernel
theorem dX5_isSame_89 : decode cX5_isSame 89 = .ok (.iaload, 1) := by decide +kernel
theorem dX5_isSame_90 : decode cX5_isSame 90 = .ok (.if_icmp .eq 5, 3) := by decide +kernel
theorem dX5_isSame_93 : decode cX5_isSame 93 = .ok (.iconst 0, 1) := by decide +kernel
theorem dX5_isSame_94 : decode cX5_isSame 94 = .ok (.ireturn, 1) := by decide +kernel
theorem dX5_isSame_95 : decode cX5_isSame 95 = .ok (.iload 4, 2) := by decide +kernel
theorem dX5_isSame_97 : decode cX5_isSame 97 = .ok (.aload 6, 2) := by decide +kernel
theorem dX5_isSame_99 : decode cX5_isSame 99 = .ok (.getfield 46, 3) := by decide +kernel
theorem dX5_isSame_102 : decode cX5_isSame 102 = .ok (.iload 8, 2) := by decide +kernel
theorem dX5_isSame_104 : decode cX5_isSame 104 = .ok (.aaload, 1) := by decide +kernel
theorem dX5_isSame_105 : decode cX5_isSame 105 = .ok (.iload 9, 2) := by decide +kernel
theorem dX5_isSame_107 : decode cX5_isSame 107 = .ok (.iaload, 1) := by decide +kernel
theorem dX5_isSame_108 : decode cX5_isSame 108 = .ok (.iadd, 1) := by decide +kernel
theorem dX5_isSame_109 : decode cX5_isSame 109 = .ok (.istore 4, 2) := by decide +kernel
theorem dX5_isSame_111 : decode cX5_isSame 111 = .ok (.iinc 9 1, 3) := by decide +kernel
theorem dX5_isSame_114 : decode cX5_isSame 114 = .ok (.goto (-52), 3) := by decide +kernel
theorem dX5_isSame_117 : decode cX5_isSame 117 = .ok (.iinc 8 1, 3) := by decide +kernel
theorem dX5_isSame_120 : decode cX5_isSame 120 = .ok (.goto (-83), 3) := by decide +kernel
theorem dX5_isSame_123 : decode cX5_isSame 123 = .ok (.bipush 6, 2) := by decide +kernel
theorem dX5_isSame_125 : decode cX5_isSame 125 = .ok (.newarray .int, 2) := by decide +kernel
theorem dX5_isSame_127 : decode cX5_isSame 127 = .ok (.dup, 1) := by decide +kernel
theorem dX5_isSame_128 : decode cX5_isSame 128 = .ok (.iconst 0, 1) := by decide +kernel
theorem dX5_isSame_129 : decode cX5_isSame 129 = .ok (.aload 6, 2) := by decide +kernel
theorem dX5_isSame_131 : decode cX5_isSame 131 = .ok (.getfield 43, 3) := by decide +kernel
theorem dX5_isSame_134 : decode cX5_isSame 134 = .ok (.invokestatic 89, 3) := by decide +kernel
theorem dX5_isSame_137 : decode cX5_isSame 137 = .ok (.iastore, 1) := by decide +kernel
theorem dX5_isSame_138 : decode cX5_isSame 138 = .ok (.dup, 1) := by decide +kernel
theorem dX5_isSame_139 : decode cX5_isSame 139 = .ok (.iconst 1, 1) := by decide +kernel
theorem dX5_isSame_140 : decode cX5_isSame 140 = .ok (.aload 6, 2) := by decide +kernel
theorem dX5_isSame_142 : decode cX5_isSame 142 = .ok (.getfield 36, 3) := by decide +kernel
theorem dX5_isSame_145 : decode cX5_isSame 145 = .ok (.ifCond .eq 7, 3) := by decide +kernel
theorem dX5_isSame_148 : decode cX5_isSame 148 = .ok (.iconst 1, 1) := by decide +kernel
theorem dX5_isSame_149 : decode cX5_isSame 149 = .ok (.goto 4, 3) := by decide +kernel
theorem dX5_isSame_152 : decode cX5_isSame 152 = .ok (.iconst 0, 1) := by decide +kernel
theorem dX5_isSame_153 : decode cX5_isSame 153 = .ok (.iastore, 1) := by decide +kernel
theorem dX5_isSame_154 : decode cX5_isSame 154 = .ok (.dup, 1) := by decide +kernel
theorem dX5_isSame_155 : decode cX5_isSame 155 = .ok (.iconst 2, 1) := by decide +kernel
theorem dX5_isSame_156 : decode cX5_isSame 156 = .ok (.aload 6, 2) := by decide +kernel
theorem dX5_isSame_158 : decode cX5_isSame 158 = .ok (.getfield 33, 3) := by decide +kernel
theorem dX5_isSame_161 : decode cX5_isSame 161 = .ok (.iastore, 1) := by decide +kernel
theorem dX5_isSame_162 : decode cX5_isSame 162 = .ok (.dup, 1) := by decide +kernel
theorem dX5_isSame_163 : decode cX5_isSame 163 = .ok (.iconst 3, 1) := by decide +kernel
theorem dX5_isSame_164 : decode cX5_isSame 164 = .ok (.aload 6, 2) := by decide +kernel
theorem dX5_isSame_166 : decode cX5_isSame 166 = .ok (.getfield 91, 3) := by decide +kernel
theorem dX5_isSame_169 : decode cX5_isSame 169 = .ok (.ifCond .eq 7, 3) := by decide +kernel
theorem dX5_isSame_172 : decode cX5_isSame 172 = .ok (.iconst 1, 1) := by decide +kernel
theorem dX5_isSame_173 : decode cX5_isSame 173 = .ok (.goto 4, 3) := by decide +kernel
theorem dX5_isSame_176 : decode cX5_isSame 176 = .ok (.iconst 0, 1) := by decide +kernel
theorem dX5_isSame_177 : decode cX5_isSame 177 = .ok (.iastore, 1) := by decide +kernel
theorem dX5_isSame_178 : decode cX5_isSame 178 = .ok (.dup, 1) := by decide +kernel
theorem dX5_isSame_179 : decode cX5_isSame 179 = .ok (.iconst 4, 1) := by decide +kernel
theorem dX5_isSame_180 : decode cX5_isSame 180 = .ok (.aload 7, 2) := by decide +kernel
theorem dX5_isSame_182 : decode cX5_isSame 182 = .ok (.invokestatic 89, 3) := by decide +kernel
theorem dX5_isSame_185 : decode cX5_isSame 185 = .ok (.iastore, 1) := by decide +kernel
theorem dX5_isSame_186 : decode cX5_isSame 186 = .ok (.dup, 1) := by decide +kernel
theorem dX5_isSame_187 : decode cX5_isSame 187 = .ok (.iconst 5, 1) := by decide +kernel
theorem dX5_isSame_188 : decode cX5_isSame 188 = .ok (.aload 6, 2) := by decide +kernel
theorem dX5_isSame_190 : decode cX5_isSame 190 = .ok (.getfield 91, 3) := by decide +kernel
theorem dX5_isSame_193 : decode cX5_isSame 193 = .ok (.ifCond .eq 7, 3) := by decide +kernel
theorem dX5_isSame_196 : decode cX5_isSame 196 = .ok (.iconst (-1), 1) := by decide +kernel
theorem dX5_isSame_197 : decode cX5_isSame 197 = .ok (.goto 11, 3) := by decide +kernel
theorem dX5_isSame_200 : decode cX5_isSame 200 = .ok (.aload 6, 2) := by decide +kernel
theorem dX5_isSame_202 : decode cX5_isSame 202 = .ok (.getfield 40, 3) := by decide +kernel
theorem dX5_isSame_205 : decode cX5_isSame 205 = .ok (.invokestatic 89, 3) := by decide +kernel
theorem dX5_isSame_208 : decode cX5_isSame 208 = .ok (.iastore, 1) := by decide +kernel
theorem dX5_isSame_209 : decode cX5_isSame 209 = .ok (.astore 8, 2) := by decide +kernel
theorem dX5_isSame_211 : decode cX5_isSame 211 = .ok (.iconst 0, 1) := by decide +kernel
theorem dX5_isSame_212 : decode cX5_isSame 212 = .ok (.istore 9, 2) := by decide +kernel
theorem dX5_isSame_214 : decode cX5_isSame 214 = .ok (.iload 9, 2) := by decide +kernel
theorem dX5_isSame_216 : decode cX5_isSame 216 = .ok (.bipush 6, 2) := by decide +kernel
theorem dX5_isSame_218 : decode cX5_isSame 218 = .ok (.if_icmp .ge 27, 3) := by decide +kernel
theorem dX5_isSame_221 : decode cX5_isSame 221 = .ok (.aload_n 1, 1) := by decide +kernel
theorem dX5_isSame_222 : decode cX5_isSame 222 = .ok (.iload 5, 2) := by decide +kernel
theorem dX5_isSame_224 : decode cX5_isSame 224 = .ok (.iload 9, 2) := by decide +kernel
theorem dX5_isSame_226 : decode cX5_isSame 226 = .ok (.invokevirtual 94, 3) := by decide +kernel
theorem dX5_isSame_229 : decode cX5_isSame 229 = .ok (.aload 8, 2) := by decide +kernel
theorem dX5_isSame_231 : decode cX5_isSame 231 = .ok (.iload 9, 2) := by decide +kernel
theorem dX5_isSame_233 : decode cX5_isSame 233 = .ok (.iaload, 1) := by decide +kernel
theorem dX5_isSame_234 : decode cX5_isSame 234 = .ok (.if_icmp .eq 5, 3) := by decide +kernel
theorem dX5_isSame_237 : decode cX5_isSame 237 = .ok (.iconst 0, 1) := by decide +kernel
theorem dX5_isSame_238 : decode cX5_isSame 238 = .ok (.ireturn, 1) := by decide +kernel
theorem dX5_isSame_239 : decode cX5_isSame 239 = .ok (.iinc 9 1, 3) := by decide +kernel
theorem dX5_isSame_242 : decode cX5_isSame 242 = .ok (.goto (-28), 3) := by decide +kernel
theorem dX5_isSame_245 : decode cX5_isSame 245 = .ok (.iload_n 2, 1) := by decide +kernel
theorem dX5_isSame_246 : decode cX5_isSame 246 = .ok (.aload 8, 2) := by decide +kernel
theorem dX5_isSame_248 : decode cX5_isSame 248 = .ok (.iconst 1, 1) := by decide +kernel
theorem dX5_isSame_249 : decode cX5_isSame 249 = .ok (.iaload, 1) := by decide +kernel
theorem dX5_isSame_250 : decode cX5_isSame 250 = .ok (.iadd, 1) := by decide +kernel
theorem dX5_isSame_251 : decode cX5_isSame 251 = .ok (.istore_n 2, 1) := by decide +kernel
theorem dX5_isSame_252 : decode cX5_isSame 252 = .ok (.iload_n 3, 1) := by decide +kernel
theorem dX5_isSame_253 : decode cX5_isSame 253 = .ok (.aload 8, 2) := by decide +kernel
theorem dX5_isSame_255 : decode cX5_isSame 255 = .ok (.iconst 3, 1) := by decide +kernel
theorem dX5_isSame_256 : decode cX5_isSame 256 = .ok (.iaload, 1) := by decide +kernel
theorem dX5_isSame_257 : decode cX5_isSame 257 = .ok (.iadd, 1) := by decide +kernel
theorem dX5_isSame_258 : decode cX5_isSame 258 = .ok (.istore_n 3, 1) := by decide +kernel
theorem dX5_isSame_259 : decode cX5_isSame 259 = .ok (.iinc 5 1, 3) := by decide +kernel
theorem dX5_isSame_262 : decode cX5_isSame 262 = .ok (.goto (-252), 3) := by decide +kernel
theorem dX5_isSame_265 : decode cX5_isSame 265 = .ok (.iconst 0, 1) := by decide +kernel
theorem dX5_isSame_266 : decode cX5_isSame 266 = .ok (.istore 5, 2) := by decide +kernel
theorem dX5_isSame_268 : decode cX5_isSame 268 = .ok (.iload 5, 2) := by decide +kernel
theorem dX5_isSame_270 : decode cX5_isSame 270 = .ok (.iconst 3, 1) := by decide +kernel
theorem dX5_isSame_271 : decode cX5_isSame 271 = .ok (.if_icmp .ge 181, 3) := by decide +kernel
theorem dX5_isSame_274 : decode cX5_isSame 274 = .ok (.iconst 0, 1) := by decide +kernel
theorem dX5_isSame_275 : decode cX5_isSame 275 = .ok (.istore 6, 2) := by decide +kernel
theorem dX5_isSame_277 : decode cX5_isSame 277 = .ok (.aload_n 0, 1) := by decide +kernel
theorem dX5_isSame_278 : decode cX5_isSame 278 = .ok (.getfield 9, 3) := by decide +kernel
theorem dX5_isSame_281 : decode cX5_isSame 281 = .ok (.astore 7, 2) := by decide +kernel
theorem dX5_isSame_283 : decode cX5_isSame 283 = .ok (.aload 7, 2) := by decide +kernel
theorem dX5_isSame_285 : decode cX5_isSame 285 = .ok (.arraylength, 1) := by decide +kernel
theorem dX5_isSame_286 : decode cX5_isSame 286 = .ok (.istore 8, 2) := by decide +kernel
theorem dX5_isSame_288 : decode cX5_isSame 288 = .ok (.iconst 0, 1) := by decide +kernel
theorem dX5_isSame_289 : decode cX5_isSame 289 = .ok (.istore 9, 2) := by decide +kernel
theorem dX5_isSame_291 : decode cX5_isSame 291 = .ok (.iload 9, 2) := by decide +kernel
theorem dX5_isSame_293 : decode cX5_isSame 293 = .ok (.iload 8, 2) := by decide +kernel
theorem dX5_isSame_295 : decode cX5_isSame 295 = .ok (.if_icmp .ge 44, 3) := by decide +kernel
theorem dX5_isSame_298 : decode cX5_isSame 298 = .ok (.aload 7, 2) := by decide +kernel
theorem dX5_isSame_300 : decode cX5_isSame 300 = .ok (.iload 9, 2) := by decide +kernel
theorem dX5_isSame_302 : decode cX5_isSame 302 = .ok (.aaload, 1) := by decide +kernel
theorem dX5_isSame_303 : decode cX5_isSame 303 = .ok (.astore 10, 2) := by decide +kernel
theorem dX5_isSame_305 : decode cX5_isSame 305 = .ok (.iload 6, 2) := by decide +kernel
theorem dX5_isSame_307 : decode cX5_isSame 307 = .ok (.aload 10, 2) := by decide +kernel
theorem dX5_isSame_309 : decode cX5_isSame 309 = .ok (.getfield 33, 3) := by decide +kernel
theorem dX5_isSame_312 : decode cX5_isSame 312 = .ok (.iload 5, 2) := by decide +kernel
theorem dX5_isSame_314 : decode cX5_isSame 314 = .ok (.if_icmp .ne 15, 3) := by decide +kernel
theorem dX5_isSame_317 : decode cX5_isSame 317 = .ok (.aload 10, 2) := by decide +kernel
theorem dX5_isSame_319 : decode cX5_isSame 319 = .ok (.getfield 36, 3) := by decide +kernel
theorem dX5_isSame_322 : decode cX5_isSame 322 = .ok (.ifCond .eq 7, 3) := by decide +kernel
theorem dX5_isSame_325 : decode cX5_isSame 325 = .ok (.iconst 1, 1) := by decide +kernel
theorem dX5_isSame_326 : decode cX5_isSame 326 = .ok (.goto 4, 3) := by decide +kernel
theorem dX5_isSame_329 : decode cX5_isSame 329 = .ok (.iconst 0, 1) := by decide +kernel
theorem dX5_isSame_330 : decode cX5_isSame 330 = .ok (.iadd, 1) := by decide +kernel
theorem dX5_isSame_331 : decode cX5_isSame 331 = .ok (.istore 6, 2) := by decide +kernel
theorem dX5_isSame_333 : decode cX5_isSame 333 = .ok (.iinc 9 1, 3) := by decide +kernel
theorem dX5_isSame_336 : decode cX5_isSame 336 = .ok (.goto (-45), 3) := by decide +kernel
theorem dX5_isSame_339 : decode cX5_isSame 339 = .ok (.bipush 6, 2) := by decide +kernel
theorem dX5_isSame_341 : decode cX5_isSame 341 = .ok (.newarray .int, 2) := by decide +kernel
theorem dX5_isSame_343 : decode cX5_isSame 343 = .ok (.dup, 1) := by decide +kernel
theorem dX5_isSame_344 : decode cX5_isSame 344 = .ok (.iconst 0, 1) := by decide +kernel
theorem dX5_isSame_345 : decode cX5_isSame 345 = .ok (.aload_n 0, 1) := by decide +kernel
theorem dX5_isSame_346 : decode cX5_isSame 346 = .ok (.getfield 17, 3) := by decide +kernel
theorem dX5_isSame_349 : decode cX5_isSame 349 = .ok (.iload 5, 2) := by decide +kernel
theorem dX5_isSame_351 : decode cX5_isSame 351 = .ok (.aaload, 1) := by decide +kernel
theorem dX5_isSame_352 : decode cX5_isSame 352 = .ok (.iconst 0, 1) := by decide +kernel
theorem dX5_isSame_353 : decode cX5_isSame 353 = .ok (.iaload, 1) := by decide +kernel
theorem dX5_isSame_354 : decode cX5_isSame 354 = .ok (.iastore, 1) := by decide +kernel
theorem dX5_isSame_355 : decode cX5_isSame 355 = .ok (.dup, 1) := by decide +kernel
theorem dX5_isSame_356 : decode cX5_isSame 356 = .ok (.iconst 1, 1) := by decide +kernel
theorem dX5_isSame_357 : decode cX5_isSame 357 = .ok (.aload_n 0, 1) := by decide +kernel
theorem dX5_isSame_358 : decode cX5_isSame 358 = .ok (.iload 5, 2) := by decide +kernel
theorem dX5_isSame_360 : decode cX5_isSame 360 = .ok (.invokevirtual 97, 3) := by decide +kernel
theorem dX5_isSame_363 : decode cX5_isSame 363 = .ok (.iastore, 1) := by decide +kernel
theorem dX5_isSame_364 : decode cX5_isSame 364 = .ok (.dup, 1) := by decide +kernel
theorem dX5_isSame_365 : decode cX5_isSame 365 = .ok (.iconst 2, 1) := by decide +kernel
theorem dX5_isSame_366 : decode cX5_isSame 366 = .ok (.aload_n 0, 1) := by decide +kernel
theorem dX5_isSame_367 : decode cX5_isSame 367 = .ok (.iload 5, 2) := by decide +kernel
theorem dX5_isSame_369 : decode cX5_isSame 369 = .ok (.invokevirtual 55, 3) := by decide +kernel
theorem dX5_isSame_372 : decode cX5_isSame 372 = .ok (.ifCond .eq 7, 3) := by decide +kernel
theorem dX5_isSame_375 : decode cX5_isSame 375 = .ok (.iconst 1, 1) := by decide +kernel
theorem dX5_isSame_376 : decode cX5_isSame 376 = .ok (.goto 4, 3) := by decide +kernel
theorem dX5_isSame_379 : decode cX5_isSame 379 = .ok (.iconst 0, 1) := by decide +kernel
theorem dX5_isSame_380 : decode cX5_isSame 380 = .ok (.iastore, 1) := by decide +kernel
theorem dX5_isSame_381 : decode cX5_isSame 381 = .ok (.dup, 1) := by decide +kernel
theorem dX5_isSame_382 : decode cX5_isSame 382 = .ok (.iconst 3, 1) := by decide +kernel
theorem dX5_isSame_383 : decode cX5_isSame 383 = .ok (.iload 6, 2) := by decide +kernel
theorem dX5_isSame_385 : decode cX5_isSame 385 = .ok (.iastore, 1) := by decide +kernel
theorem dX5_isSame_386 : decode cX5_isSame 386 = .ok (.dup, 1) := by decide +kernel
theorem dX5_isSame_387 : decode cX5_isSame 387 = .ok (.iconst 4, 1) := by decide +kernel
theorem dX5_isSame_388 : decode cX5_isSame 388 = .ok (.aload_n 0, 1) := by decide +kernel
theorem dX5_isSame_389 : decode cX5_isSame 389 = .ok (.getfield 17, 3) := by decide +kernel
theorem dX5_isSame_392 : decode cX5_isSame 392 = .ok (.iload 5, 2) := by decide +kernel
theorem dX5_isSame_394 : decode cX5_isSame 394 = .ok (.aaload, 1) := by decide +kernel
theorem dX5_isSame_395 : decode cX5_isSame 395 = .ok (.iconst 1, 1) := by decide +kernel
theorem dX5_isSame_396 : decode cX5_isSame 396 = .ok (.iaload, 1) := by decide +kernel
theorem dX5_isSame_397 : decode cX5_isSame 397 = .ok (.iastore, 1) := by decide +kernel
theorem dX5_isSame_398 : decode cX5_isSame 398 = .ok (.dup, 1) := by decide +kernel
theorem dX5_isSame_399 : decode cX5_isSame 399 = .ok (.iconst 5, 1) := by decide +kernel
theorem dX5_isSame_400 : decode cX5_isSame 400 = .ok (.aload_n 0, 1) := by decide +kernel
theorem dX5_isSame_401 : decode cX5_isSame 401 = .ok (.getfield 17, 3) := by decide +kernel
theorem dX5_isSame_404 : decode cX5_isSame 404 = .ok (.iload 5, 2) := by decide +kernel
theorem dX5_isSame_406 : decode cX5_isSame 406 = .ok (.aaload, 1) := by decide +kernel
theorem dX5_isSame_407 : decode cX5_isSame 407 = .ok (.iconst 2, 1) := by decide +kernel
theorem dX5_isSame_408 : decode cX5_isSame 408 = .ok (.iaload, 1) := by decide +kernel
theorem dX5_isSame_409 : decode cX5_isSame 409 = .ok (.iastore, 1) := by decide +kernel
theorem dX5_isSame_410 : decode cX5_isSame 410 = .ok (.astore 7, 2) := by decide +kernel
theorem dX5_isSame_412 : decode cX5_isSame 412 = .ok (.iconst 0, 1) := by decide +kernel
theorem dX5_isSame_413 : decode cX5_isSame 413 = .ok (.istore 8, 2) := by decide +kernel
theorem dX5_isSame_415 : decode cX5_isSame 415 = .ok (.iload 8, 2) := by decide +kernel
theorem dX5_isSame_417 : decode cX5_isSame 417 = .ok (.bipush 6, 2) := by decide +kernel
theorem dX5_isSame_419 : decode cX5_isSame 419 = .ok (.if_icmp .ge 27, 3) := by decide +kernel
theorem dX5_isSame_422 : decode cX5_isSame 422 = .ok (.aload_n 1, 1) := by decide +kernel
theorem dX5_isSame_423 : decode cX5_isSame 423 = .ok (.iload 5, 2) := by decide +kernel
theorem dX5_isSame_425 : decode cX5_isSame 425 = .ok (.iload 8, 2) := by decide +kernel
theorem dX5_isSame_427 : decode cX5_isSame 427 = .ok (.invokevirtual 101, 3) := by decide +kernel
theorem dX5_isSame_430 : decode cX5_isSame 430 = .ok (.aload 7, 2) := by decide +kernel
theorem dX5_isSame_432 : decode cX5_isSame 432 = .ok (.iload 8, 2) := by decide +kernel
theorem dX5_isSame_434 : decode cX5_isSame 434 = .ok (.iaload, 1) := by decide +kernel
theorem dX5_isSame_435 : decode cX5_isSame 435 = .ok (.if_icmp .eq 5, 3) := by decide +kernel
theorem dX5_isSame_438 : decode cX5_isSame 438 = .ok (.iconst 0, 1) := by decide +kernel
theorem dX5_isSame_439 : decode cX5_isSame 439 = .ok (.ireturn, 1) := by decide +kernel
theorem dX5_isSame_440 : decode cX5_isSame 440 = .ok (.iinc 8 1, 3) := by decide +kernel
theorem dX5_isSame_443 : decode cX5_isSame 443 = .ok (.goto (-28), 3) := by decide +kernel
theorem dX5_isSame_446 : decode cX5_isSame 446 = .ok (.iinc 5 1, 3) := by decide +kernel
theorem dX5_isSame_449 : decode cX5_isSame 449 = .ok (.goto (-181), 3) := by decide +kernel
theorem dX5_isSame_452 : decode cX5_isSame 452 = .ok (.bipush 7, 2) := by decide +kernel
theorem dX5_isSame_454 : decode cX5_isSame 454 = .ok (.newarray .int, 2) := by decide +kernel
theorem dX5_isSame_456 : decode cX5_isSame 456 = .ok (.dup, 1) := by decide +kernel
theorem dX5_isSame_457 : decode cX5_isSame 457 = .ok (.iconst 0, 1) := by decide +kernel
theorem dX5_isSame_458 : decode cX5_isSame 458 = .ok (.aload_n 0, 1) := by decide +kernel
theorem dX5_isSame_459 : decode cX5_isSame 459 = .ok (.getfield 22, 3) := by decide +kernel
theorem dX5_isSame_462 : decode cX5_isSame 462 = .ok (.iastore, 1) := by decide +kernel
theorem dX5_isSame_463 : decode cX5_isSame 463 = .ok (.dup, 1) := by decide +kernel
theorem dX5_isSame_464 : decode cX5_isSame 464 = .ok (.iconst 1, 1) := by decide +kernel
theorem dX5_isSame_465 : decode cX5_isSame 465 = .ok (.aload_n 0, 1) := by decide +kernel
theorem dX5_isSame_466 : decode cX5_isSame 466 = .ok (.getfield 9, 3) := by decide +kernel
theorem dX5_isSame_469 : decode cX5_isSame 469 = .ok (.arraylength, 1) := by decide +kernel
theorem dX5_isSame_470 : decode cX5_isSame 470 = .ok (.iastore, 1) := by decide +kernel
theorem dX5_isSame_471 : decode cX5_isSame 471 = .ok (.dup, 1) := by decide +kernel
theorem dX5_isSame_472 : decode cX5_isSame 472 = .ok (.iconst 2, 1) := by decide +kernel
theorem dX5_isSame_473 : decode cX5_isSame 473 = .ok (.iload_n 2, 1) := by decide +kernel
theorem dX5_isSame_474 : decode cX5_isSame 474 = .ok (.iastore, 1) := by decide +kernel
theorem dX5_isSame_475 : decode cX5_isSame 475 = .ok (.dup, 1) := by decide +kernel
theorem dX5_isSame_476 : decode cX5_isSame 476 = .ok (.iconst 3, 1) := by decide +kernel
theorem dX5_isSame_477 : decode cX5_isSame 477 = .ok (.iload_n 3, 1) := by decide +kernel
theorem dX5_isSame_478 : decode cX5_isSame 478 = .ok (.iastore, 1) := by decide +kernel
theorem dX5_isSame_479 : decode cX5_isSame 479 = .ok (.dup, 1) := by decide +kernel
theorem dX5_isSame_480 : decode cX5_isSame 480 = .ok (.iconst 4, 1) := by decide +kernel
theorem dX5_isSame_481 : decode cX5_isSame 481 = .ok (.iload 4, 2) := by decide +kernel
theorem dX5_isSame_483 : decode cX5_isSame 483 = .ok (.iastore, 1) := by decide +kernel
theorem dX5_isSame_484 : decode cX5_isSame 484 = .ok (.dup, 1) := by decide +kernel
theorem dX5_isSame_485 : decode cX5_isSame 485 = .ok (.iconst 5, 1) := by decide +kernel
theorem dX5_isSame_486 : decode cX5_isSame 486 = .ok (.aload_n 0, 1) := by decide +kernel
theorem dX5_isSame_487 : decode cX5_isSame 487 = .ok (.getfield 26, 3) := by decide +kernel
theorem dX5_isSame_490 : decode cX5_isSame 490 = .ok (.iastore, 1) := by decide +kernel
theorem dX5_isSame_491 : decode cX5_isSame 491 = .ok (.dup, 1) := by decide +kernel
theorem dX5_isSame_492 : decode cX5_isSame 492 = .ok (.bipush 6, 2) := by decide +kernel
theorem dX5_isSame_494 : decode cX5_isSame 494 = .ok (.aload_n 0, 1) := by decide +kernel
theorem dX5_isSame_495 : decode cX5_isSame 495 = .ok (.iconst 0, 1) := by decide +kernel
theorem dX5_isSame_496 : decode cX5_isSame 496 = .ok (.invokevirtual 97, 3) := by decide +kernel
theorem dX5_isSame_499 : decode cX5_isSame 499 = .ok (.aload_n 0, 1) := by decide +kernel
theorem dX5_isSame_500 : decode cX5_isSame 500 = .ok (.iconst 1, 1) := by decide +kernel
theorem dX5_isSame_501 : decode cX5_isSame 501 = .ok (.invokevirtual 97, 3) := by decide +kernel
theorem dX5_isSame_504 : decode cX5_isSame 504 = .ok (.iadd, 1) := by decide +kernel
theorem dX5_isSame_505 : decode cX5_isSame 505 = .ok (.aload_n 0, 1) := by decide +kernel
theorem dX5_isSame_506 : decode cX5_isSame 506 = .ok (.iconst 2, 1) := by decide +kernel
theorem dX5_isSame_507 : decode cX5_isSame 507 = .ok (.invokevirtual 97, 3) := by decide +kernel
theorem dX5_isSame_510 : decode cX5_isSame 510 = .ok (.iadd, 1) := by decide +kernel
theorem dX5_isSame_511 : decode cX5_isSame 511 = .ok (.iastore, 1) := by decide +kernel
theorem dX5_isSame_512 : decode cX5_isSame 512 = .ok (.astore 5, 2) := by decide +kernel
theorem dX5_isSame_514 : decode cX5_isSame 514 = .ok (.iconst 0, 1) := by decide +kernel
theorem dX5_isSame_515 : decode cX5_isSame 515 = .ok (.istore 6, 2) := by decide +kernel
theorem dX5_isSame_517 : decode cX5_isSame 517 = .ok (.iload 6, 2) := by decide +kernel
theorem dX5_isSame_519 : decode cX5_isSame 519 = .ok (.bipush 7, 2) := by decide +kernel
theorem dX5_isSame_521 : decode cX5_isSame 521 = .ok (.if_icmp .ge 25, 3) := by decide +kernel
theorem dX5_isSame_524 : decode cX5_isSame 524 = .ok (.aload_n 1, 1) := by decide +kernel
theorem dX5_isSame_525 : decode cX5_isSame 525 = .ok (.iload 6, 2) := by decide +kernel
theorem dX5_isSame_527 : decode cX5_isSame 527 = .ok (.invokevirtual 103, 3) := by decide +kernel
theorem dX5_isSame_530 : decode cX5_isSame 530 = .ok (.aload 5, 2) := by decide +kernel
theorem dX5_isSame_532 : decode cX5_isSame 532 = .ok (.iload 6, 2) := by decide +kernel
theorem dX5_isSame_534 : decode cX5_isSame 534 = .ok (.iaload, 1) := by decide +kernel
theorem dX5_isSame_535 : decode cX5_isSame 535 = .ok (.if_icmp .eq 5, 3) := by decide +kernel
theorem dX5_isSame_538 : decode cX5_isSame 538 = .ok (.iconst 0, 1) := by decide +kernel
theorem dX5_isSame_539 : decode cX5_isSame 539 = .ok (.ireturn, 1) := by decide +kernel
theorem dX5_isSame_540 : decode cX5_isSame 540 = .ok (.iinc 6 1, 3) := by decide +kernel
theorem dX5_isSame_543 : decode cX5_isSame 543 = .ok (.goto (-26), 3) := by decide +kernel
theorem dX5_isSame_546 : decode cX5_isSame 546 = .ok (.aload_n 1, 1) := by decide +kernel
theorem dX5_isSame_547 : decode cX5_isSame 547 = .ok (.invokevirtual 106, 3) := by decide +kernel
theorem dX5_isSame_550 : decode cX5_isSame 550 = .ok (.aload_n 0, 1) := by decide +kernel
theorem dX5_isSame_551 : decode cX5_isSame 551 = .ok (.getfield 9, 3) := by decide +kernel
theorem dX5_isSame_554 : decode cX5_isSame 554 = .ok (.arraylength, 1) := by decide +kernel
theorem dX5_isSame_555 : decode cX5_isSame 555 = .ok (.ifCond .ne 7, 3) := by decide +kernel
theorem dX5_isSame_558 : decode cX5_isSame 558 = .ok (.dconst 0, 1) := by decide +kernel
theorem dX5_isSame_559 : decode cX5_isSame 559 = .ok (.goto 16, 3) := by decide +kernel
theorem dX5_isSame_562 : decode cX5_isSame 562 = .ok (.iload 4, 2) := by decide +kernel
theorem dX5_isSame_564 : decode cX5_isSame 564 = .ok (.i2d, 1) := by decide +kernel
theorem dX5_isSame_565 : decode cX5_isSame 565 = .ok (.bipush 24, 2) := by decide +kernel
theorem dX5_isSame_567 : decode cX5_isSame 567 = .ok (.aload_n 0, 1) := by decide +kernel
theorem dX5_isSame_568 : decode cX5_isSame 568 = .ok (.getfield 9, 3) := by decide +kernel
theorem dX5_isSame_571 : decode cX5_isSame 571 = .ok (.arraylength, 1) := by decide +kernel
theorem dX5_isSame_572 : decode cX5_isSame 572 = .ok (.imul, 1) := by decide +kernel
theorem dX5_isSame_573 : decode cX5_isSame 573 = .ok (.i2d, 1) := by decide +kernel
theorem dX5_isSame_574 : decode cX5_isSame 574 = .ok (.ddiv, 1) := by decide +kernel
theorem dX5_isSame_575 : decode cX5_isSame 575 = .ok (.dcmp .l, 1) := by decide +kernel
theorem dX5_isSame_576 : decode cX5_isSame 576 = .ok (.ifCond .ne 7, 3) := by decide +kernel
theorem dX5_isSame_579 : decode cX5_isSame 579 = .ok (.iconst 1, 1) := by decide +kernel
theorem dX5_isSame_580 : decode cX5_isSame 580 = .ok (.goto 4, 3) := by decide +kernel
theorem dX5_isSame_583 : decode cX5_isSame 583 = .ok (.iconst 0, 1) := by decide +kernel
theorem dX5_isSame_584 : decode cX5_isSame 584 = .ok (.ireturn, 1) := by decide +kernel
theorem dJ9_abs_0f7a4_0 : decode cJ9_abs_0f7a4 0 = .ok (.iload_n 0, 1) := by decide +kernel
theorem dJ9_abs_0f7a4_1 : decode cJ9_abs_0f7a4 1 = .ok (.ifCond .ge 8, 3) := by decide +kernel
theorem dJ9_abs_0f7a4_4 : decode cJ9_abs_0f7a4 4 = .ok (.iload_n 0, 1) := by decide +kernel
theorem dJ9_abs_0f7a4_5 : decode cJ9_abs_0f7a4 5 = .ok (.ineg, 1) := by decide +kernel
theorem dJ9_abs_0f7a4_6 : decode cJ9_abs_0f7a4 6 = .ok (.goto 4, 3) := by decide +kernel
theorem dJ9_abs_0f7a4_9 : decode cJ9_abs_0f7a4 9 = .ok (.iload_n 0, 1) := by decide +kernel
theorem dJ9_abs_0f7a4_10 : decode cJ9_abs_0f7a4 10 = .ok (.ireturn, 1) := by decide +kernel
theorem dJ9_max_7cf53_0 : decode cJ9_max_7cf53 0 = .ok (.iload_n 0, 1) := by decide +kernel
theorem dJ9_max_7cf53_1 : decode cJ9_max_7cf53 1 = .ok (.iload_n 1, 1) := by decide +kernel
theorem dJ9_max_7cf53_2 : decode cJ9_max_7cf53 2 = .ok (.if_icmp .lt 7, 3) := by decide +kernel
theorem dJ9_max_7cf53_5 : decode cJ9_max_7cf53 5 = .ok (.iload_n 0, 1) := by decide +kernel
theorem dJ9_max_7cf53_6 : decode cJ9_max_7cf53 6 = .ok (.goto 4, 3) := by decide +kernel
theorem dJ9_max_7cf53_9 : decode cJ9_max_7cf53 9 = .ok (.iload_n 1, 1) := by decide +kernel
theorem dJ9_max_7cf53_10 : decode cJ9_max_7cf53 10 = .ok (.ireturn, 1) := by decide +kernel
theorem dJ9_min_7cf53_0 : decode cJ9_min_7cf53 0 = .ok (.iload_n 0, 1) := by decide +kernel
theorem dJ9_min_7cf53_1 : decode cJ9_min_7cf53 1 = .ok (.iload_n 1, 1) := by decide +kernel
theorem dJ9_min_7cf53_2 : decode cJ9_min_7cf53 2 = .ok (.if_icmp .gt 7, 3) := by decide +kernel
theorem dJ9_min_7cf53_5 : decode cJ9_min_7cf53 5 = .ok (.iload_n 0, 1) := by decide +kernel
theorem dJ9_min_7cf53_6 : decode cJ9_min_7cf53 6 = .ok (.goto 4, 3) := by decide +kernel
theorem dJ9_min_7cf53_9 : decode cJ9_min_7cf53 9 = .ok (.iload_n 1, 1) := by decide +kernel
theorem dJ9_min_7cf53_10 : decode cJ9_min_7cf53 10 = .ok (.ireturn, 1) := by decide +kernel
theorem dJxa1e45_init_da8c8_0 : decode cJxa1e45_init_da8c8 0 = .ok (.aload_n 0, 1) := by decide +kernel
theorem dJxa1e45_init_da8c8_1 : decode cJxa1e45_init_da8c8 1 = .ok (.invokespecial 1, 3) := by decide +kernel
theorem dJxa1e45_init_da8c8_4 : decode cJxa1e45_init_da8c8 4 = .ok (.return_, 1) := by decide +kernel
theorem dJxc12de_init_da8c8_0 : decode cJxc12de_init_da8c8 0 = .ok (.aload_n 0, 1) := by decide +kernel
theorem dJxc12de_init_da8c8_1 : decode cJxc12de_init_da8c8 1 = .ok (.invokespecial 1, 3) := by decide +kernel
theorem dJxc12de_init_da8c8_4 : decode cJxc12de_init_da8c8 4 = .ok (.aload_n 0, 1) := by decide +kernel
theorem dJxc12de_init_da8c8_5 : decode cJxc12de_init_da8c8 5 = .ok (.iconst 0, 1) := by decide +kernel
theorem dJxc12de_init_da8c8_6 : decode cJxc12de_init_da8c8 6 = .ok (.putfield 7, 3) := by decide +kernel
theorem dJxc12de_init_da8c8_9 : decode cJxc12de_init_da8c8 9 = .ok (.return_, 1) := by decide +kernel
theorem dJx4a65c_init_da8c8_0 : decode cJx4a65c_init_da8c8 0 = .ok (.aload_n 0, 1) := by decide +kernel
theorem dJx4a65c_init_da8c8_1 : decode cJx4a65c_init_da8c8 1 = .ok (.invokespecial 1, 3) := by decide +kernel
theorem dJx4a65c_init_da8c8_4 : decode cJx4a65c_init_da8c8 4 = .ok (.aload_n 0, 1) := by decide +kernel
theorem dJx4a65c_init_da8c8_5 : decode cJx4a65c_init_da8c8 5 = .ok (.getstatic 39, 3) := by decide +kernel
theorem dJx4a65c_init_da8c8_8 : decode cJx4a65c_init_da8c8 8 = .ok (.putfield 9, 3) := by decide +kernel
theorem dJx4a65c_init_da8c8_11 : decode cJx4a65c_init_da8c8 11 = .ok (.return_, 1) := by decide +kernel
theorem dJx4a65c_grow_92f84_0 : decode cJx4a65c_grow_92f84 0 = .ok (.aload_n 0, 1) := by decide +kernel
theorem dJx4a65c_grow_92f84_1 : decode cJx4a65c_grow_92f84 1 = .ok (.getfield 9, 3) := by decide +kernel
theorem dJx4a65c_grow_92f84_4 : decode cJx4a65c_grow_92f84 4 = .ok (.arraylength, 1) := by decide +kernel
theorem dJx4a65c_grow_92f84_5 : decode cJx4a65c_grow_92f84 5 = .ok (.istore_n 2, 1) := by decide +kernel
theorem dJx4a65c_grow_92f84_6 : decode cJx4a65c_grow_92f84 6 = .ok (.iload_n 2, 1) := by decide +kernel
theorem dJx4a65c_grow_92f84_7 : decode cJx4a65c_grow_92f84 7 = .ok (.ifCond .gt 13, 3) := by decide +kernel
theorem dJx4a65c_grow_92f84_10 : decode cJx4a65c_grow_92f84 10 = .ok (.aload_n 0, 1) := by decide +kernel
theorem dJx4a65c_grow_92f84_11 : decode cJx4a65c_grow_92f84 11 = .ok (.getfield 9, 3) := by decide +kernel
theorem dJx4a65c_grow_92f84_14 : decode cJx4a65c_grow_92f84 14 = .ok (.getstatic 39, 3) := by decide +kernel
theorem dJx4a65c_grow_92f84_17 : decode cJx4a65c_grow_92f84 17 = .ok (.if_acmp .eq 28, 3) := by decide +kernel
theorem dJx4a65c_grow_92f84_20 : decode cJx4a65c_grow_92f84 20 = .ok (.iload_n 2, 1) := by decide +kernel
theorem dJx4a65c_grow_92f84_21 : decode cJx4a65c_grow_92f84 21 = .ok (.iload_n 1, 1) := by decide +kernel
theorem dJx4a65c_grow_92f84_22 : decode cJx4a65c_grow_92f84 22 = .ok (.iload_n 2, 1) := by decide +kernel
theorem dJx4a65c_grow_92f84_23 : decode cJx4a65c_grow_92f84 23 = .ok (.isub, 1) := by decide +kernel
theorem dJx4a65c_grow_92f84_24 : decode cJx4a65c_grow_92f84 24 = .ok (.iload_n 2, 1) := by decide +kernel
theorem dJx4a65c_grow_92f84_25 : decode cJx4a65c_grow_92f84 25 = .ok (.iconst 1, 1) := by decide +kernel
theorem dJx4a65c_grow_92f84_26 : decode cJx4a65c_grow_92f84 26 = .ok (.ishr, 1) := by decide +kernel
theorem dJx4a65c_grow_92f84_27 : decode cJx4a65c_grow_92f84 27 = .ok (.invokestatic 73, 3) := by decide +kernel
theorem dJx4a65c_grow_92f84_30 : decode cJx4a65c_grow_92f84 30 = .ok (.istore_n 3, 1) := by decide +kernel
theorem dJx4a65c_grow_92f84_31 : decode cJx4a65c_grow_92f84 31 = .ok (.aload_n 0, 1) := by decide +kernel
theorem dJx4a65c_grow_92f84_32 : decode cJx4a65c_grow_92f84 32 = .ok (.aload_n 0, 1) := by decide +kernel
theorem dJx4a65c_grow_92f84_33 : decode cJx4a65c_grow_92f84 33 = .ok (.getfield 9, 3) := by decide +kernel
theorem dJx4a65c_grow_92f84_36 : decode cJx4a65c_grow_92f84 36 = .ok (.iload_n 3, 1) := by decide +kernel
theorem dJx4a65c_grow_92f84_37 : decode cJx4a65c_grow_92f84 37 = .ok (.invokestatic 66, 3) := by decide +kernel
theorem dJx4a65c_grow_92f84_40 : decode cJx4a65c_grow_92f84 40 = .ok (.dup_x1, 1) := by decide +kernel
theorem dJx4a65c_grow_92f84_41 : decode cJx4a65c_grow_92f84 41 = .ok (.putfield 9, 3) := by decide +kernel
theorem dJx4a65c_grow_92f84_44 : decode cJx4a65c_grow_92f84 44 = .ok (.areturn, 1) := by decide +kernel
theorem dJx4a65c_grow_92f84_45 : decode cJx4a65c_grow_92f84 45 = .ok (.aload_n 0, 1) := by decide +kernel
theorem dJx4a65c_grow_92f84_46 : decode cJx4a65c_grow_92f84 46 = .ok (.bipush 10, 2) := by decide +kernel
theorem dJx4a65c_grow_92f84_48 : decode cJx4a65c_grow_92f84 48 = .ok (.iload_n 1, 1) := by decide +kernel
theorem dJx4a65c_grow_92f84_49 : decode cJx4a65c_grow_92f84 49 = .ok (.invokestatic 79, 3) := by decide +kernel
theorem dJx4a65c_grow_92f84_52 : decode cJx4a65c_grow_92f84 52 = .ok (.anewarray 7, 3) := by decide +kernel
theorem dJx4a65c_grow_92f84_55 : decode cJx4a65c_grow_92f84 55 = .ok (.dup_x1, 1) := by decide +kernel
theorem dJx4a65c_grow_92f84_56 : decode cJx4a65c_grow_92f84 56 = .ok (.putfield 9, 3) := by decide +kernel
theorem dJx4a65c_grow_92f84_59 : decode cJx4a65c_grow_92f84 59 = .ok (.areturn, 1) := by decide +kernel
theorem dJx4a65c_grow_d5877_0 : decode cJx4a65c_grow_d5877 0 = .ok (.aload_n 0, 1) := by decide +kernel
theorem dJx4a65c_grow_d5877_1 : decode cJx4a65c_grow_d5877 1 = .ok (.aload_n 0, 1) := by decide +kernel
theorem dJx4a65c_grow_d5877_2 : decode cJx4a65c_grow_d5877 2 = .ok (.getfield 48, 3) := by decide +kernel
theorem dJx4a65c_grow_d5877_5 : decode cJx4a65c_grow_d5877 5 = .ok (.iconst 1, 1) := by decide +kernel
theorem dJx4a65c_grow_d5877_6 : decode cJx4a65c_grow_d5877 6 = .ok (.iadd, 1) := by decide +kernel
theorem dJx4a65c_grow_d5877_7 : decode cJx4a65c_grow_d5877 7 = .ok (.invokevirtual 69, 3) := by decide +kernel
theorem dJx4a65c_grow_d5877_10 : decode cJx4a65c_grow_d5877 10 = .ok (.areturn, 1) := by decide +kernel
theorem dJx4a65c_size_8abf5_0 : decode cJx4a65c_size_8abf5 0 = .ok (.aload_n 0, 1) := by decide +kernel
theorem dJx4a65c_size_8abf5_1 : decode cJx4a65c_size_8abf5 1 = .ok (.getfield 48, 3) := by decide +kernel
theorem dJx4a65c_size_8abf5_4 : decode cJx4a65c_size_8abf5 4 = .ok (.ireturn, 1) := by decide +kernel
theorem dJx4a65c_elementData_915e3_0 : decode cJx4a65c_elementData_915e3 0 = .ok (.aload_n 0, 1) := by decide +kernel
theorem dJx4a65c_elementData_915e3_1 : decode cJx4a65c_elementData_915e3 1 = .ok (.getfield 9, 3) := by decide +kernel
theorem dJx4a65c_elementData_915e3_4 : decode cJx4a65c_elementData_915e3 4 = .ok (.iload_n 1, 1) := by decide +kernel
theorem dJx4a65c_elementData_915e3_5 : decode cJx4a65c_elementData_915e3 5 = .ok (.aaload, 1) := by decide +kernel
theorem dJx4a65c_elementData_915e3_6 : decode cJx4a65c_elementData_915e3 6 = .ok (.areturn, 1) := by decide +kernel
theorem dJx4a65c_get_915e3_0 : decode cJx4a65c_get_915e3 0 = .ok (.iload_n 1, 1) := by decide +kernel
theorem dJx4a65c_get_915e3_1 : decode cJx4a65c_get_915e3 1 = .ok (.aload_n 0, 1) := by decide +kernel
theorem dJx4a65c_get_915e3_2 : decode cJx4a65c_get_915e3 2 = .ok (.getfield 48, 3) := by decide +kernel
theorem dJx4a65c_get_915e3_5 : decode cJx4a65c_get_915e3 5 = .ok (.invokestatic 118, 3) := by decide +kernel
theorem dJx4a65c_get_915e3_8 : decode cJx4a65c_get_915e3 8 = .ok (.pop, 1) := by decide +kernel
theorem dJx4a65c_get_915e3_9 : decode cJx4a65c_get_915e3 9 = .ok (.aload_n 0, 1) := by decide +kernel
theorem dJx4a65c_get_915e3_10 : decode cJx4a65c_get_915e3 10 = .ok (.iload_n 1, 1) := by decide +kernel
theorem dJx4a65c_get_915e3_11 : decode cJx4a65c_get_915e3 11 = .ok (.invokevirtual 123, 3) := by decide +kernel
theorem dJx4a65c_get_915e3_14 : decode cJx4a65c_get_915e3 14 = .ok (.areturn, 1) := by decide +kernel
theorem dJx4a65c_add_72be8_0 : decode cJx4a65c_add_72be8 0 = .ok (.iload_n 3, 1) := by decide +kernel
theorem dJx4a65c_add_72be8_1 : decode cJx4a65c_add_72be8 1 = .ok (.aload_n 2, 1) := by decide +kernel
theorem dJx4a65c_add_72be8_2 : decode cJx4a65c_add_72be8 2 = .ok (.arraylength, 1) := by decide +kernel
theorem dJx4a65c_add_72be8_3 : decode cJx4a65c_add_72be8 3 = .ok (.if_icmp .ne 8, 3) := by decide +kernel
theorem dJx4a65c_add_72be8_6 : decode cJx4a65c_add_72be8 6 = .ok (.aload_n 0, 1) := by decide +kernel
theorem dJx4a65c_add_72be8_7 : decode cJx4a65c_add_72be8 7 = .ok (.invokevirtual 129, 3) := by decide +kernel
theorem dJx4a65c_add_72be8_10 : decode cJx4a65c_add_72be8 10 = .ok (.astore_n 2, 1) := by decide +kernel
theorem dJx4a65c_add_72be8_11 : decode cJx4a65c_add_72be8 11 = .ok (.aload_n 2, 1) := by decide +kernel
theorem dJx4a65c_add_72be8_12 : decode cJx4a65c_add_72be8 12 = .ok (.iload_n 3, 1) := by decide +kernel
theorem dJx4a65c_add_72be8_13 : decode cJx4a65c_add_72be8 13 = .ok (.aload_n 1, 1) := by decide +kernel
theorem dJx4a65c_add_72be8_14 : decode cJx4a65c_add_72be8 14 = .ok (.aastore, 1) := by decide +kernel
theorem dJx4a65c_add_72be8_15 : decode cJx4a65c_add_72be8 15 = .ok (.aload_n 0, 1) := by decide +kernel
theorem dJx4a65c_add_72be8_16 : decode cJx4a65c_add_72be8 16 = .ok (.iload_n 3, 1) := by decide +kernel
theorem dJx4a65c_add_72be8_17 : decode cJx4a65c_add_72be8 17 = .ok (.iconst 1, 1) := by decide +kernel
theorem dJx4a65c_add_72be8_18 : decode cJx4a65c_add_72be8 18 = .ok (.iadd, 1) := by decide +kernel
theorem dJx4a65c_add_72be8_19 : decode cJx4a65c_add_72be8 19 = .ok (.putfield 48, 3) := by decide +kernel
theorem dJx4a65c_add_72be8_22 : decode cJx4a65c_add_72be8 22 = .ok (.return_, 1) := by decide +kernel
theorem dJx4a65c_add_9ea2d_0 : decode cJx4a65c_add_9ea2d 0 = .ok (.aload_n 0, 1) := by decide +kernel
theorem dJx4a65c_add_9ea2d_1 : decode cJx4a65c_add_9ea2d 1 = .ok (.dup, 1) := by decide +kernel
theorem dJx4a65c_add_9ea2d_2 : decode cJx4a65c_add_9ea2d 2 = .ok (.getfield 63, 3) := by decide +kernel
theorem dJx4a65c_add_9ea2d_5 : decode cJx4a65c_add_9ea2d 5 = .ok (.iconst 1, 1) := by decide +kernel
theorem dJx4a65c_add_9ea2d_6 : decode cJx4a65c_add_9ea2d 6 = .ok (.iadd, 1) := by decide +kernel
theorem dJx4a65c_add_9ea2d_7 : decode cJx4a65c_add_9ea2d 7 = .ok (.putfield 63, 3) := by decide +kernel
theorem dJx4a65c_add_9ea2d_10 : decode cJx4a65c_add_9ea2d 10 = .ok (.aload_n 0, 1) := by decide +kernel
theorem dJx4a65c_add_9ea2d_11 : decode cJx4a65c_add_9ea2d 11 = .ok (.aload_n 1, 1) := by decide +kernel
theorem dJx4a65c_add_9ea2d_12 : decode cJx4a65c_add_9ea2d 12 = .ok (.aload_n 0, 1) := by decide +kernel
theorem dJx4a65c_add_9ea2d_13 : decode cJx4a65c_add_9ea2d 13 = .ok (.getfield 9, 3) := by decide +kernel
theorem dJx4a65c_add_9ea2d_16 : decode cJx4a65c_add_9ea2d 16 = .ok (.aload_n 0, 1) := by decide +kernel
theorem dJx4a65c_add_9ea2d_17 : decode cJx4a65c_add_9ea2d 17 = .ok (.getfield 48, 3) := by decide +kernel
theorem dJx4a65c_add_9ea2d_20 : decode cJx4a65c_add_9ea2d 20 = .ok (.invokevirtual 131, 3) := by decide +kernel
theorem dJx4a65c_add_9ea2d_23 : decode cJx4a65c_add_9ea2d 23 = .ok (.iconst 1, 1) := by decide +kernel
theorem dJx4a65c_add_9ea2d_24 : decode cJx4a65c_add_9ea2d 24 = .ok (.ireturn, 1) := by decide +kernel
theorem dJ7_copyOf_1904c_0 : decode cJ7_copyOf_1904c 0 = .ok (.aload_n 0, 1) := by decide +kernel
theorem dJ7_copyOf_1904c_1 : decode cJ7_copyOf_1904c 1 = .ok (.iload_n 1, 1) := by decide +kernel
theorem dJ7_copyOf_1904c_2 : decode cJ7_copyOf_1904c 2 = .ok (.aload_n 0, 1) := by decide +kernel
theorem dJ7_copyOf_1904c_3 : decode cJ7_copyOf_1904c 3 = .ok (.invokevirtual 86, 3) := by decide +kernel
theorem dJ7_copyOf_1904c_6 : decode cJ7_copyOf_1904c 6 = .ok (.invokestatic 300, 3) := by decide +kernel
theorem dJ7_copyOf_1904c_9 : decode cJ7_copyOf_1904c 9 = .ok (.areturn, 1) := by decide +kernel
theorem dJ7_copyOf_6403c_0 : decode cJ7_copyOf_6403c 0 = .ok (.aload_n 2, 1) := by decide +kernel
theorem dJ7_copyOf_6403c_1 : decode cJ7_copyOf_6403c 1 = .ok (.ldc 110, 2) := by decide +kernel
theorem dJ7_copyOf_6403c_3 : decode cJ7_copyOf_6403c 3 = .ok (.if_acmp .ne 10, 3) := by decide +kernel
theorem dJ7_copyOf_6403c_6 : decode cJ7_copyOf_6403c 6 = .ok (.iload_n 1, 1) := by decide +kernel
theorem dJ7_copyOf_6403c_7 : decode cJ7_copyOf_6403c 7 = .ok (.anewarray 2, 3) := by decide +kernel
theorem dJ7_copyOf_6403c_10 : decode cJ7_copyOf_6403c 10 = .ok (.goto 14, 3) := by decide +kernel
theorem dJ7_copyOf_6403c_13 : decode cJ7_copyOf_6403c 13 = .ok (.aload_n 2, 1) := by decide +kernel
theorem dJ7_copyOf_6403c_14 : decode cJ7_copyOf_6403c 14 = .ok (.invokevirtual 90, 3) := by decide +kernel
theorem dJ7_copyOf_6403c_17 : decode cJ7_copyOf_6403c 17 = .ok (.iload_n 1, 1) := by decide +kernel
theorem dJ7_copyOf_6403c_18 : decode cJ7_copyOf_6403c 18 = .ok (.invokestatic 95, 3) := by decide +kernel
theorem dJ7_copyOf_6403c_21 : decode cJ7_copyOf_6403c 21 = .ok (.checkcast 110, 3) := by decide +kernel
theorem dJ7_copyOf_6403c_24 : decode cJ7_copyOf_6403c 24 = .ok (.astore_n 3, 1) := by decide +kernel
theorem dJ7_copyOf_6403c_25 : decode cJ7_copyOf_6403c 25 = .ok (.aload_n 0, 1) := by decide +kernel
theorem dJ7_copyOf_6403c_26 : decode cJ7_copyOf_6403c 26 = .ok (.iconst 0, 1) := by decide +kernel
theorem dJ7_copyOf_6403c_27 : decode cJ7_copyOf_6403c 27 = .ok (.aload_n 3, 1) := by decide +kernel
theorem dJ7_copyOf_6403c_28 : decode cJ7_copyOf_6403c 28 = .ok (.iconst 0, 1) := by decide +kernel
theorem dJ7_copyOf_6403c_29 : decode cJ7_copyOf_6403c 29 = .ok (.aload_n 0, 1) := by decide +kernel
theorem dJ7_copyOf_6403c_30 : decode cJ7_copyOf_6403c 30 = .ok (.arraylength, 1) := by decide +kernel
theorem dJ7_copyOf_6403c_31 : decode cJ7_copyOf_6403c 31 = .ok (.iload_n 1, 1) := by decide +kernel
theorem dJ7_copyOf_6403c_32 : decode cJ7_copyOf_6403c 32 = .ok (.invokestatic 304, 3) := by decide +kernel
theorem dJ7_copyOf_6403c_35 : decode cJ7_copyOf_6403c 35 = .ok (.invokestatic 150, 3) := by decide +kernel
theorem dJ7_copyOf_6403c_38 : decode cJ7_copyOf_6403c 38 = .ok (.aload_n 3, 1) := by decide +kernel
theorem dJ7_copyOf_6403c_39 : decode cJ7_copyOf_6403c 39 = .ok (.areturn, 1) := by decide +kernel
theorem dJ15_checkIndex_7cf53_0 : decode cJ15_checkIndex_7cf53 0 = .ok (.iload_n 0, 1) := by decide +kernel
theorem dJ15_checkIndex_7cf53_1 : decode cJ15_checkIndex_7cf53 1 = .ok (.iload_n 1, 1) := by decide +kernel
theorem dJ15_checkIndex_7cf53_2 : decode cJ15_checkIndex_7cf53 2 = .ok (.aconst_null, 1) := by decide +kernel
theorem dJ15_checkIndex_7cf53_3 : decode cJ15_checkIndex_7cf53 3 = .ok (.invokestatic 105, 3) := by decide +kernel
theorem dJ15_checkIndex_7cf53_6 : decode cJ15_checkIndex_7cf53 6 = .ok (.ireturn, 1) := by decide +kernel
theorem dJ8_newLength_cabcc_0 : decode cJ8_newLength_cabcc 0 = .ok (.iload_n 0, 1) := by decide +kernel
theorem dJ8_newLength_cabcc_1 : decode cJ8_newLength_cabcc 1 = .ok (.iload_n 1, 1) := by decide +kernel
theorem dJ8_newLength_cabcc_2 : decode cJ8_newLength_cabcc 2 = .ok (.iload_n 2, 1) := by decide +kernel
theorem dJ8_newLength_cabcc_3 : decode cJ8_newLength_cabcc 3 = .ok (.invokestatic 194, 3) := by decide +kernel
theorem dJ8_newLength_cabcc_6 : decode cJ8_newLength_cabcc 6 = .ok (.iadd, 1) := by decide +kernel
theorem dJ8_newLength_cabcc_7 : decode cJ8_newLength_cabcc 7 = .ok (.istore_n 3, 1) := by decide +kernel
theorem dJ8_newLength_cabcc_8 : decode cJ8_newLength_cabcc 8 = .ok (.iconst 0, 1) := by decide +kernel
theorem dJ8_newLength_cabcc_9 : decode cJ8_newLength_cabcc 9 = .ok (.iload_n 3, 1) := by decide +kernel
theorem dJ8_newLength_cabcc_10 : decode cJ8_newLength_cabcc 10 = .ok (.if_icmp .ge 11, 3) := by decide +kernel
theorem dJ8_newLength_cabcc_13 : decode cJ8_newLength_cabcc 13 = .ok (.iload_n 3, 1) := by decide +kernel
theorem dJ8_newLength_cabcc_14 : decode cJ8_newLength_cabcc 14 = .ok (.ldc 200, 2) := by decide +kernel
theorem dJ8_newLength_cabcc_16 : decode cJ8_newLength_cabcc 16 = .ok (.if_icmp .gt 5, 3) := by decide +kernel
theorem dJ8_newLength_cabcc_19 : decode cJ8_newLength_cabcc 19 = .ok (.iload_n 3, 1) := by decide +kernel
theorem dJ8_newLength_cabcc_20 : decode cJ8_newLength_cabcc 20 = .ok (.ireturn, 1) := by decide +kernel
theorem dJ8_newLength_cabcc_21 : decode cJ8_newLength_cabcc 21 = .ok (.iload_n 0, 1) := by decide +kernel
theorem dJ8_newLength_cabcc_22 : decode cJ8_newLength_cabcc 22 = .ok (.iload_n 1, 1) := by decide +kernel
theorem dJ8_newLength_cabcc_23 : decode cJ8_newLength_cabcc 23 = .ok (.invokestatic 201, 3) := by decide +kernel
theorem dJ8_newLength_cabcc_26 : decode cJ8_newLength_cabcc 26 = .ok (.ireturn, 1) := by decide +kernel
theorem dJ8_hugeLength_7cf53_0 : decode cJ8_hugeLength_7cf53 0 = .ok (.iload_n 0, 1) := by decide +kernel
theorem dJ8_hugeLength_7cf53_1 : decode cJ8_hugeLength_7cf53 1 = .ok (.iload_n 1, 1) := by decide +kernel
theorem dJ8_hugeLength_7cf53_2 : decode cJ8_hugeLength_7cf53 2 = .ok (.iadd, 1) := by decide +kernel
theorem dJ8_hugeLength_7cf53_3 : decode cJ8_hugeLength_7cf53 3 = .ok (.istore_n 2, 1) := by decide +kernel
theorem dJ8_hugeLength_7cf53_4 : decode cJ8_hugeLength_7cf53 4 = .ok (.iload_n 2, 1) := by decide +kernel
theorem dJ8_hugeLength_7cf53_5 : decode cJ8_hugeLength_7cf53 5 = .ok (.ifCond .ge 44, 3) := by decide +kernel
theorem dJ8_hugeLength_7cf53_8 : decode cJ8_hugeLength_7cf53 8 = .ok (.new 204, 3) := by decide +kernel
theorem dJ8_hugeLength_7cf53_11 : decode cJ8_hugeLength_7cf53 11 = .ok (.dup, 1) := by decide +kernel
theorem dJ8_hugeLength_7cf53_12 : decode cJ8_hugeLength_7cf53 12 = .ok (.new 89, 3) := by decide +kernel
theorem dJ8_hugeLength_7cf53_15 : decode cJ8_hugeLength_7cf53 15 = .ok (.dup, 1) := by decide +kernel
theorem dJ8_hugeLength_7cf53_16 : decode cJ8_hugeLength_7cf53 16 = .ok (.invokespecial 91, 3) := by decide +kernel
theorem dJ8_hugeLength_7cf53_19 : decode cJ8_hugeLength_7cf53 19 = .ok (.ldc 206, 2) := by decide +kernel
theorem dJ8_hugeLength_7cf53_21 : decode cJ8_hugeLength_7cf53 21 = .ok (.invokevirtual 94, 3) := by decide +kernel
theorem dJ8_hugeLength_7cf53_24 : decode cJ8_hugeLength_7cf53 24 = .ok (.iload_n 0, 1) := by decide +kernel
theorem dJ8_hugeLength_7cf53_25 : decode cJ8_hugeLength_7cf53 25 = .ok (.invokevirtual 98, 3) := by decide +kernel
theorem dJ8_hugeLength_7cf53_28 : decode cJ8_hugeLength_7cf53 28 = .ok (.ldc 208, 2) := by decide +kernel
theorem dJ8_hugeLength_7cf53_30 : decode cJ8_hugeLength_7cf53 30 = .ok (.invokevirtual 94, 3) := by decide +kernel
theorem dJ8_hugeLength_7cf53_33 : decode cJ8_hugeLength_7cf53 33 = .ok (.iload_n 1, 1) := by decide +kernel
theorem dJ8_hugeLength_7cf53_34 : decode cJ8_hugeLength_7cf53 34 = .ok (.invokevirtual 98, 3) := by decide +kernel
theorem dJ8_hugeLength_7cf53_37 : decode cJ8_hugeLength_7cf53 37 = .ok (.ldc 210, 2) := by decide +kernel
theorem dJ8_hugeLength_7cf53_39 : decode cJ8_hugeLength_7cf53 39 = .ok (.invokevirtual 94, 3) := by decide +kernel
theorem dJ8_hugeLength_7cf53_42 : decode cJ8_hugeLength_7cf53 42 = .ok (.invokevirtual 101, 3) := by decide +kernel
theorem dJ8_hugeLength_7cf53_45 : decode cJ8_hugeLength_7cf53 45 = .ok (.invokespecial 212, 3) := by decide +kernel
theorem dJ8_hugeLength_7cf53_48 : decode cJ8_hugeLength_7cf53 48 = .ok (.athrow, 1) := by decide +kernel
theorem dJ8_hugeLength_7cf53_49 : decode cJ8_hugeLength_7cf53 49 = .ok (.iload_n 2, 1) := by decide +kernel
theorem dJ8_hugeLength_7cf53_50 : decode cJ8_hugeLength_7cf53 50 = .ok (.ldc 200, 2) := by decide +kernel
theorem dJ8_hugeLength_7cf53_52 : decode cJ8_hugeLength_7cf53 52 = .ok (.if_icmp .gt 6, 3) := by decide +kernel
theorem dJ8_hugeLength_7cf53_55 : decode cJ8_hugeLength_7cf53 55 = .ok (.ldc 200, 2) := by decide +kernel
theorem dJ8_hugeLength_7cf53_57 : decode cJ8_hugeLength_7cf53 57 = .ok (.ireturn, 1) := by decide +kernel
theorem dJ8_hugeLength_7cf53_58 : decode cJ8_hugeLength_7cf53 58 = .ok (.iload_n 2, 1) := by decide +kernel
theorem dJ8_hugeLength_7cf53_59 : decode cJ8_hugeLength_7cf53 59 = .ok (.ireturn, 1) := by decide +kernel
theorem dJ3_checkIndex_8e157_0 : decode cJ3_checkIndex_8e157 0 = .ok (.iload_n 0, 1) := by decide +kernel
theorem dJ3_checkIndex_8e157_1 : decode cJ3_checkIndex_8e157 1 = .ok (.ifCond .lt 8, 3) := by decide +kernel
theorem dJ3_checkIndex_8e157_4 : decode cJ3_checkIndex_8e157 4 = .ok (.iload_n 0, 1) := by decide +kernel
theorem dJ3_checkIndex_8e157_5 : decode cJ3_checkIndex_8e157 5 = .ok (.iload_n 1, 1) := by decide +kernel
theorem dJ3_checkIndex_8e157_6 : decode cJ3_checkIndex_8e157 6 = .ok (.if_icmp .lt 10, 3) := by decide +kernel
theorem dJ3_checkIndex_8e157_9 : decode cJ3_checkIndex_8e157 9 = .ok (.aload_n 2, 1) := by decide +kernel
theorem dJ3_checkIndex_8e157_10 : decode cJ3_checkIndex_8e157 10 = .ok (.iload_n 0, 1) := by decide +kernel
theorem dJ3_checkIndex_8e157_11 : decode cJ3_checkIndex_8e157 11 = .ok (.iload_n 1, 1) := by decide +kernel
theorem dJ3_checkIndex_8e157_12 : decode cJ3_checkIndex_8e157 12 = .ok (.invokestatic 95, 3) := by decide +kernel
theorem dJ3_checkIndex_8e157_15 : decode cJ3_checkIndex_8e157 15 = .ok (.athrow, 1) := by decide +kernel
theorem dJ3_checkIndex_8e157_16 : decode cJ3_checkIndex_8e157 16 = .ok (.iload_n 0, 1) := by decide +kernel
theorem dJ3_checkIndex_8e157_17 : decode cJ3_checkIndex_8e157 17 = .ok (.ireturn, 1) := by decide +kernel
theorem dL_below_0 : decode cL_below 0 = .ok (.iload_n 0, 1) := by decide +kernel
theorem dL_below_1 : decode cL_below 1 = .ok (.ldc 7, 2) := by decide +kernel
theorem dL_below_3 : decode cL_below 3 = .ok (.iand, 1) := by decide +kernel
theorem dL_below_4 : decode cL_below 4 = .ok (.iload_n 1, 1) := by decide +kernel
theorem dL_below_5 : decode cL_below 5 = .ok (.irem, 1) := by decide +kernel
theorem dL_below_6 : decode cL_below 6 = .ok (.ireturn, 1) := by decide +kernel
theorem dL_cell_0 : decode cL_cell 0 = .ok (.iload_n 1, 1) := by decide +kernel
theorem dL_cell_1 : decode cL_cell 1 = .ok (.aload_n 0, 1) := by decide +kernel
theorem dL_cell_2 : decode cL_cell 2 = .ok (.arraylength, 1) := by decide +kernel
theorem dL_cell_3 : decode cL_cell 3 = .ok (.if_icmp .ge 9, 3) := by decide +kernel
theorem dL_cell_6 : decode cL_cell 6 = .ok (.aload_n 0, 1) := by decide +kernel
theorem dL_cell_7 : decode cL_cell 7 = .ok (.iload_n 1, 1) := by decide +kernel
theorem dL_cell_8 : decode cL_cell 8 = .ok (.iaload, 1) := by decide +kernel
theorem dL_cell_9 : decode cL_cell 9 = .ok (.goto 9, 3) := by decide +kernel
theorem dL_cell_12 : decode cL_cell 12 = .ok (.ldc 8, 2) := by decide +kernel
theorem dL_cell_14 : decode cL_cell 14 = .ok (.iload_n 1, 1) := by decide +kernel
theorem dL_cell_15 : decode cL_cell 15 = .ok (.iconst 3, 1) := by decide +kernel
theorem dL_cell_16 : decode cL_cell 16 = .ok (.iadd, 1) := by decide +kernel
theorem dL_cell_17 : decode cL_cell 17 = .ok (.imul, 1) := by decide +kernel
theorem dL_cell_18 : decode cL_cell 18 = .ok (.ireturn, 1) := by decide +kernel
theorem dL_letters_0 : decode cL_letters 0 = .ok (.iconst 4, 1) := by decide +kernel
theorem dL_letters_1 : decode cL_letters 1 = .ok (.newarray .int, 2) := by decide +kernel
theorem dL_letters_3 : decode cL_letters 3 = .ok (.dup, 1) := by decide +kernel
theorem dL_letters_4 : decode cL_letters 4 = .ok (.iconst 0, 1) := by decide +kernel
theorem dL_letters_5 : decode cL_letters 5 = .ok (.iload_n 0, 1) := by decide +kernel
theorem dL_letters_6 : decode cL_letters 6 = .ok (.sipush 216, 3) := by decide +kernel
theorem dL_letters_9 : decode cL_letters 9 = .ok (.idiv, 1) := by decide +kernel
theorem dL_letters_10 : decode cL_letters 10 = .ok (.iastore, 1) := by decide +kernel
theorem dL_letters_11 : decode cL_letters 11 = .ok (.dup, 1) := by decide +kernel
theorem dL_letters_12 : decode cL_letters 12 = .ok (.iconst 1, 1) := by decide +kernel
theorem dL_letters_13 : decode cL_letters 13 = .ok (.iload_n 0, 1) := by decide +kernel
theorem dL_letters_14 : decode cL_letters 14 = .ok (.bipush 36, 2) := by decide +kernel
theorem dL_letters_16 : decode cL_letters 16 = .ok (.idiv, 1) := by decide +kernel
theorem dL_letters_17 : decode cL_letters 17 = .ok (.bipush 6, 2) := by decide +kernel
theorem dL_letters_19 : decode cL_letters 19 = .ok (.irem, 1) := by decide +kernel
theorem dL_letters_20 : decode cL_letters 20 = .ok (.iastore, 1) := by decide +kernel
theorem dL_letters_21 : decode cL_letters 21 = .ok (.dup, 1) := by decide +kernel
theorem dL_letters_22 : decode cL_letters 22 = .ok (.iconst 2, 1) := by decide +kernel
theorem dL_letters_23 : decode cL_letters 23 = .ok (.iload_n 0, 1) := by decide +kernel
theorem dL_letters_24 : decode cL_letters 24 = .ok (.bipush 6, 2) := by decide +kernel
theorem dL_letters_26 : decode cL_letters 26 = .ok (.idiv, 1) := by decide +kernel
theorem dL_letters_27 : decode cL_letters 27 = .ok (.bipush 6, 2) := by decide +kernel
theorem dL_letters_29 : decode cL_letters 29 = .ok (.irem, 1) := by decide +kernel
theorem dL_letters_30 : decode cL_letters 30 = .ok (.iastore, 1) := by decide +kernel
theorem dL_letters_31 : decode cL_letters 31 = .ok (.dup, 1) := by decide +kernel
theorem dL_letters_32 : decode cL_letters 32 = .ok (.iconst 3, 1) := by decide +kernel
theorem dL_letters_33 : decode cL_letters 33 = .ok (.iload_n 0, 1) := by decide +kernel
theorem dL_letters_34 : decode cL_letters 34 = .ok (.bipush 6, 2) := by decide +kernel
theorem dL_letters_36 : decode cL_letters 36 = .ok (.irem, 1) := by decide +kernel
theorem dL_letters_37 : decode cL_letters 37 = .ok (.iastore, 1) := by decide +kernel
theorem dL_letters_38 : decode cL_letters 38 = .ok (.areturn, 1) := by decide +kernel
theorem dL_word_0 : decode cL_word 0 = .ok (.sipush 216, 3) := by decide +kernel
theorem dL_word_3 : decode cL_word 3 = .ok (.aload_n 0, 1) := by decide +kernel
theorem dL_word_4 : decode cL_word 4 = .ok (.iconst 0, 1) := by decide +kernel
theorem dL_word_5 : decode cL_word 5 = .ok (.iaload, 1) := by decide +kernel
theorem dL_word_6 : decode cL_word 6 = .ok (.imul, 1) := by decide +kernel
theorem dL_word_7 : decode cL_word 7 = .ok (.bipush 36, 2) := by decide +kernel
theorem dL_word_9 : decode cL_word 9 = .ok (.aload_n 0, 1) := by decide +kernel
theorem dL_word_10 : decode cL_word 10 = .ok (.iconst 1, 1) := by decide +kernel
theorem dL_word_11 : decode cL_word 11 = .ok (.iaload, 1) := by decide +kernel
theorem dL_word_12 : decode cL_word 12 = .ok (.imul, 1) := by decide +kernel
theorem dL_word_13 : decode cL_word 13 = .ok (.iadd, 1) := by decide +kernel
theorem dL_word_14 : decode cL_word 14 = .ok (.bipush 6, 2) := by decide +kernel
theorem dL_word_16 : decode cL_word 16 = .ok (.aload_n 0, 1) := by decide +kernel
theorem dL_word_17 : decode cL_word 17 = .ok (.iconst 2, 1) := by decide +kernel
theorem dL_word_18 : decode cL_word 18 = .ok (.iaload, 1) := by decide +kernel
theorem dL_word_19 : decode cL_word 19 = .ok (.imul, 1) := by decide +kernel
theorem dL_word_20 : decode cL_word 20 = .ok (.iadd, 1) := by decide +kernel
theorem dL_word_21 : decode cL_word 21 = .ok (.aload_n 0, 1) := by decide +kernel
theorem dL_word_22 : decode cL_word 22 = .ok (.iconst 3, 1) := by decide +kernel
theorem dL_word_23 : decode cL_word 23 = .ok (.iaload, 1) := by decide +kernel
theorem dL_word_24 : decode cL_word 24 = .ok (.iadd, 1) := by decide +kernel
theorem dL_word_25 : decode cL_word 25 = .ok (.ireturn, 1) := by decide +kernel
theorem dL_far_0 : decode cL_far 0 = .ok (.iconst 0, 1) := by decide +kernel
theorem dL_far_1 : decode cL_far 1 = .ok (.istore_n 2, 1) := by decide +kernel
theorem dL_far_2 : decode cL_far 2 = .ok (.iload_n 0, 1) := by decide +kernel
theorem dL_far_3 : decode cL_far 3 = .ok (.iload_n 2, 1) := by decide +kernel
theorem dL_far_4 : decode cL_far 4 = .ok (.iadd, 1) := by decide +kernel
theorem dL_far_5 : decode cL_far 5 = .ok (.bipush 6, 2) := by decide +kernel
theorem dL_far_7 : decode cL_far 7 = .ok (.irem, 1) := by decide +kernel
theorem dL_far_8 : decode cL_far 8 = .ok (.iload_n 1, 1) := by decide +kernel
theorem dL_far_9 : decode cL_far 9 = .ok (.if_icmp .eq 19, 3) := by decide +kernel
theorem dL_far_12 : decode cL_far 12 = .ok (.iload_n 1, 1) := by decide +kernel
theorem dL_far_13 : decode cL_far 13 = .ok (.iload_n 2, 1) := by decide +kernel
theorem dL_far_14 : decode cL_far 14 = .ok (.iadd, 1) := by decide +kernel
theorem dL_far_15 : decode cL_far 15 = .ok (.bipush 6, 2) := by decide +kernel
theorem dL_far_17 : decode cL_far 17 = .ok (.irem, 1) := by decide +kernel
theorem dL_far_18 : decode cL_far 18 = .ok (.iload_n 0, 1) := by decide +kernel
theorem dL_far_19 : decode cL_far 19 = .ok (.if_icmp .eq 9, 3) := by decide +kernel
theorem dL_far_22 : decode cL_far 22 = .ok (.iinc 2 1, 3) := by decide +kernel
theorem dL_far_25 : decode cL_far 25 = .ok (.goto (-23), 3) := by decide +kernel
theorem dL_far_28 : decode cL_far 28 = .ok (.iload_n 2, 1) := by decide +kernel
theorem dL_far_29 : decode cL_far 29 = .ok (.ireturn, 1) := by decide +kernel
theorem dL_act_0 : decode cL_act 0 = .ok (.aload_n 1, 1) := by decide +kernel
theorem dL_act_1 : decode cL_act 1 = .ok (.getfield 9, 3) := by decide +kernel
theorem dL_act_4 : decode cL_act 4 = .ok (.arraylength, 1) := by decide +kernel
theorem dL_act_5 : decode cL_act 5 = .ok (.istore_n 3, 1) := by decide +kernel
theorem dL_act_6 : decode cL_act 6 = .ok (.iload_n 3, 1) := by decide +kernel
theorem dL_act_7 : decode cL_act 7 = .ok (.ifCond .ne 7, 3) := by decide +kernel
theorem dL_act_10 : decode cL_act 10 = .ok (.iconst 0, 1) := by decide +kernel
theorem dL_act_11 : decode cL_act 11 = .ok (.goto 8, 3) := by decide +kernel
theorem dL_act_14 : decode cL_act 14 = .ok (.iload_n 2, 1) := by decide +kernel
theorem dL_act_15 : decode cL_act 15 = .ok (.iload_n 3, 1) := by decide +kernel
theorem dL_act_16 : decode cL_act 16 = .ok (.invokestatic 15, 3) := by decide +kernel
theorem dL_act_19 : decode cL_act 19 = .ok (.istore 4, 2) := by decide +kernel
theorem dL_act_21 : decode cL_act 21 = .ok (.iload_n 3, 1) := by decide +kernel
theorem dL_act_22 : decode cL_act 22 = .ok (.ifCond .ne 7, 3) := by decide +kernel
theorem dL_act_25 : decode cL_act 25 = .ok (.aconst_null, 1) := by decide +kernel
theorem dL_act_26 : decode cL_act 26 = .ok (.goto 10, 3) := by decide +kernel
theorem dL_act_29 : decode cL_act 29 = .ok (.aload_n 1, 1) := by decide +kernel
theorem dL_act_30 : decode cL_act 30 = .ok (.getfield 9, 3) := by decide +kernel
theorem dL_act_33 : decode cL_act 33 = .ok (.iload 4, 2) := by decide +kernel
theorem dL_act_35 : decode cL_act 35 = .ok (.aaload, 1) := by decide +kernel
theorem dL_act_36 : decode cL_act 36 = .ok (.astore 5, 2) := by decide +kernel
theorem dL_act_38 : decode cL_act 38 = .ok (.iload_n 2, 1) := by decide +kernel
theorem dL_act_39 : decode cL_act 39 = .ok (.iconst 2, 1) := by decide +kernel
theorem dL_act_40 : decode cL_act 40 = .ok (.ishr, 1) := by decide +kernel
theorem dL_act_41 : decode cL_act 41 = .ok (.iconst 3, 1) := by decide +kernel
theorem dL_act_42 : decode cL_act 42 = .ok (.invokestatic 15, 3) := by decide +kernel
theorem dL_act_45 : decode cL_act 45 = .ok (.istore 6, 2) := by decide +kernel
theorem dL_act_47 : decode cL_act 47 = .ok (.iload_n 2, 1) := by decide +kernel
theorem dL_act_48 : decode cL_act 48 = .ok (.bipush 9, 2) := by decide +kernel
theorem dL_act_50 : decode cL_act 50 = .ok (.ishr, 1) := by decide +kernel
theorem dL_act_51 : decode cL_act 51 = .ok (.bipush 20, 2) := by decide +kernel
theorem dL_act_53 : decode cL_act 53 = .ok (.invokestatic 15, 3) := by decide +kernel
theorem dL_act_56 : decode cL_act 56 = .ok (.tableswitch 803 0 13 #[72, 72, 175, 175, 175, 278, 278, 437, 437, 479, 551, 606, 700, 700], 72) := by decide +kernel
theorem dL_act_128 : decode cL_act 128 = .ok (.iload_n 3, 1) := by decide +kernel
theorem dL_act_129 : decode cL_act 129 = .ok (.bipush 8, 2) := by decide +kernel
theorem dL_act_131 : decode cL_act 131 = .ok (.if_icmp .ne 5, 3) := by decide +kernel
theorem dL_act_134 : decode cL_act 134 = .ok (.iconst 1, 1) := by decide +kernel
theorem dL_act_135 : decode cL_act 135 = .ok (.ireturn, 1) := by decide +kernel
theorem dL_act_136 : decode cL_act 136 = .ok (.iload_n 3, 1) := by decide +kernel
theorem dL_act_137 : decode cL_act 137 = .ok (.iconst 1, 1) := by decide +kernel
theorem dL_act_138 : decode cL_act 138 = .ok (.iadd, 1) := by decide +kernel
theorem dL_act_139 : decode cL_act 139 = .ok (.anewarray 21, 3) := by decide +kernel
theorem dL_act_142 : decode cL_act 142 = .ok (.astore 7, 2) := by decide +kernel
theorem dL_act_144 : decode cL_act 144 = .ok (.iconst 0, 1) := by decide +kernel
theorem dL_act_145 : decode cL_act 145 = .ok (.istore 8, 2) := by decide +kernel
theorem dL_act_147 : decode cL_act 147 = .ok (.iload 8, 2) := by decide +kernel
theorem dL_act_149 : decode cL_act 149 = .ok (.iload_n 3, 1) := by decide +kernel
theorem dL_act_150 : decode cL_act 150 = .ok (.if_icmp .ge 21, 3) := by decide +kernel
theorem dL_act_153 : decode cL_act 153 = .ok (.aload 7, 2) := by decide +kernel
theorem dL_act_155 : decode cL_act 155 = .ok (.iload 8, 2) := by decide +kernel
theorem dL_act_157 : decode cL_act 157 = .ok (.aload_n 1, 1) := by decide +kernel
theorem dL_act_158 : decode cL_act 158 = .ok (.getfield 9, 3) := by decide +kernel
theorem dL_act_161 : decode cL_act 161 = .ok (.iload 8, 2) := by decide +kernel
theorem dL_act_163 : decode cL_act 163 = .ok (.aaload, 1) := by decide +kernel
theorem dL_act_164 : decode cL_act 164 = .ok (.aastore, 1) := by decide +kernel
theorem dL_act_165 : decode cL_act 165 = .ok (.iinc 8 1, 3) := by decide +kernel
theorem dL_act_168 : decode cL_act 168 = .ok (.goto (-21), 3) := by decide +kernel
theorem dL_act_171 : decode cL_act 171 = .ok (.aload 7, 2) := by decide +kernel
theorem dL_act_173 : decode cL_act 173 = .ok (.iload_n 3, 1) := by decide +kernel
theorem dL_act_174 : decode cL_act 174 = .ok (.new 21, 3) := by decide +kernel
theorem dL_act_177 : decode cL_act 177 = .ok (.dup, 1) := by decide +kernel
theorem dL_act_178 : decode cL_act 178 = .ok (.invokespecial 23, 3) := by decide +kernel
theorem dL_act_181 : decode cL_act 181 = .ok (.aastore, 1) := by decide +kernel
theorem dL_act_182 : decode cL_act 182 = .ok (.aload 7, 2) := by decide +kernel
theorem dL_act_184 : decode cL_act 184 = .ok (.iload_n 3, 1) := by decide +kernel
theorem dL_act_185 : decode cL_act 185 = .ok (.aaload, 1) := by decide +kernel
theorem dL_act_186 : decode cL_act 186 = .ok (.iload_n 2, 1) := by decide +kernel
theorem dL_act_187 : decode cL_act 187 = .ok (.iconst 1, 1) := by decide +kernel
theorem dL_act_188 : decode cL_act 188 = .ok (.ishr, 1) := by decide +kernel
