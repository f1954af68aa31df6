theorem dX0_init_0 : decode cX0_init 0 = .ok (.aload_n 0, 1) := by decide +kernel
theorem dX0_init_1 : decode cX0_init 1 = .ok (.invokespecial 3, 3) := by decide +kernel
theorem dX0_init_4 : decode cX0_init 4 = .ok (.aload_n 0, 1) := by decide +kernel
theorem dX0_init_5 : decode cX0_init 5 = .ok (.iconst 4, 1) := by decide +kernel
theorem dX0_init_6 : decode cX0_init 6 = .ok (.newarray .int, 2) := by decide +kernel
theorem dX0_init_8 : decode cX0_init 8 = .ok (.putfield 9, 3) := by decide +kernel
theorem dX0_init_11 : decode cX0_init 11 = .ok (.aload_n 0, 1) := by decide +kernel
theorem dX0_init_12 : decode cX0_init 12 = .ok (.bipush 24, 2) := by decide +kernel
theorem dX0_init_14 : decode cX0_init 14 = .ok (.newarray .int, 2) := by decide +kernel
theorem dX0_init_16 : decode cX0_init 16 = .ok (.putfield 15, 3) := by decide +kernel
theorem dX0_init_19 : decode cX0_init 19 = .ok (.aload_n 0, 1) := by decide +kernel
theorem dX0_init_20 : decode cX0_init 20 = .ok (.iconst (-1), 1) := by decide +kernel
theorem dX0_init_21 : decode cX0_init 21 = .ok (.putfield 18, 3) := by decide +kernel
theorem dX0_init_24 : decode cX0_init 24 = .ok (.aload_n 0, 1) := by decide +kernel
theorem dX0_init_25 : decode cX0_init 25 = .ok (.iconst 1, 1) := by decide +kernel
theorem dX0_init_26 : decode cX0_init 26 = .ok (.putfield 22, 3) := by decide +kernel
theorem dX0_init_29 : decode cX0_init 29 = .ok (.aload_n 0, 1) := by decide +kernel
theorem dX0_init_30 : decode cX0_init 30 = .ok (.iconst 0, 1) := by decide +kernel
theorem dX0_init_31 : decode cX0_init 31 = .ok (.putfield 26, 3) := by decide +kernel
theorem dX0_init_34 : decode cX0_init 34 = .ok (.aload_n 0, 1) := by decide +kernel
theorem dX0_init_35 : decode cX0_init 35 = .ok (.iload_n 1, 1) := by decide +kernel
theorem dX0_init_36 : decode cX0_init 36 = .ok (.putfield 29, 3) := by decide +kernel
theorem dX0_init_39 : decode cX0_init 39 = .ok (.return_, 1) := by decide +kernel
theorem dX0_become_0 : decode cX0_become 0 = .ok (.aload_n 1, 1) := by decide +kernel
theorem dX0_become_1 : decode cX0_become 1 = .ok (.getfield 9, 3) := by decide +kernel
theorem dX0_become_4 : decode cX0_become 4 = .ok (.iconst 0, 1) := by decide +kernel
theorem dX0_become_5 : decode cX0_become 5 = .ok (.aload_n 0, 1) := by decide +kernel
theorem dX0_become_6 : decode cX0_become 6 = .ok (.getfield 9, 3) := by decide +kernel
theorem dX0_become_9 : decode cX0_become 9 = .ok (.iconst 0, 1) := by decide +kernel
theorem dX0_become_10 : decode cX0_become 10 = .ok (.iconst 4, 1) := by decide +kernel
theorem dX0_become_11 : decode cX0_become 11 = .ok (.invokestatic 32, 3) := by decide +kernel
theorem dX0_become_14 : decode cX0_become 14 = .ok (.aload_n 1, 1) := by decide +kernel
theorem dX0_become_15 : decode cX0_become 15 = .ok (.getfield 15, 3) := by decide +kernel
theorem dX0_become_18 : decode cX0_become 18 = .ok (.iconst 0, 1) := by decide +kernel
theorem dX0_become_19 : decode cX0_become 19 = .ok (.aload_n 0, 1) := by decide +kernel
theorem dX0_become_20 : decode cX0_become 20 = .ok (.getfield 15, 3) := by decide +kernel
theorem dX0_become_23 : decode cX0_become 23 = .ok (.iconst 0, 1) := by decide +kernel
theorem dX0_become_24 : decode cX0_become 24 = .ok (.bipush 24, 2) := by decide +kernel
theorem dX0_become_26 : decode cX0_become 26 = .ok (.invokestatic 32, 3) := by decide +kernel
theorem dX0_become_29 : decode cX0_become 29 = .ok (.aload_n 0, 1) := by decide +kernel
theorem dX0_become_30 : decode cX0_become 30 = .ok (.aload_n 1, 1) := by decide +kernel
theorem dX0_become_31 : decode cX0_become 31 = .ok (.getfield 29, 3) := by decide +kernel
theorem dX0_become_34 : decode cX0_become 34 = .ok (.putfield 29, 3) := by decide +kernel
theorem dX0_become_37 : decode cX0_become 37 = .ok (.aload_n 0, 1) := by decide +kernel
theorem dX0_become_38 : decode cX0_become 38 = .ok (.aload_n 1, 1) := by decide +kernel
theorem dX0_become_39 : decode cX0_become 39 = .ok (.getfield 18, 3) := by decide +kernel
theorem dX0_become_42 : decode cX0_become 42 = .ok (.putfield 18, 3) := by decide +kernel
theorem dX0_become_45 : decode cX0_become 45 = .ok (.aload_n 0, 1) := by decide +kernel
theorem dX0_become_46 : decode cX0_become 46 = .ok (.aload_n 1, 1) := by decide +kernel
theorem dX0_become_47 : decode cX0_become 47 = .ok (.getfield 22, 3) := by decide +kernel
theorem dX0_become_50 : decode cX0_become 50 = .ok (.putfield 22, 3) := by decide +kernel
theorem dX0_become_53 : decode cX0_become 53 = .ok (.aload_n 0, 1) := by decide +kernel
theorem dX0_become_54 : decode cX0_become 54 = .ok (.aload_n 1, 1) := by decide +kernel
theorem dX0_become_55 : decode cX0_become 55 = .ok (.getfield 26, 3) := by decide +kernel
theorem dX0_become_58 : decode cX0_become 58 = .ok (.putfield 26, 3) := by decide +kernel
theorem dX0_become_61 : decode cX0_become 61 = .ok (.return_, 1) := by decide +kernel
theorem dX0_letterAt_0 : decode cX0_letterAt 0 = .ok (.iload_n 1, 1) := by decide +kernel
theorem dX0_letterAt_1 : decode cX0_letterAt 1 = .ok (.invokestatic 38, 3) := by decide +kernel
theorem dX0_letterAt_4 : decode cX0_letterAt 4 = .ok (.ifCond .eq 12, 3) := by decide +kernel
theorem dX0_letterAt_7 : decode cX0_letterAt 7 = .ok (.aload_n 0, 1) := by decide +kernel
theorem dX0_letterAt_8 : decode cX0_letterAt 8 = .ok (.getfield 9, 3) := by decide +kernel
theorem dX0_letterAt_11 : decode cX0_letterAt 11 = .ok (.iload_n 1, 1) := by decide +kernel
theorem dX0_letterAt_12 : decode cX0_letterAt 12 = .ok (.iaload, 1) := by decide +kernel
theorem dX0_letterAt_13 : decode cX0_letterAt 13 = .ok (.goto 4, 3) := by decide +kernel
theorem dX0_letterAt_16 : decode cX0_letterAt 16 = .ok (.iconst 0, 1) := by decide +kernel
theorem dX0_letterAt_17 : decode cX0_letterAt 17 = .ok (.ireturn, 1) := by decide +kernel
theorem dX0_turnTo_0 : decode cX0_turnTo 0 = .ok (.iload_n 1, 1) := by decide +kernel
theorem dX0_turnTo_1 : decode cX0_turnTo 1 = .ok (.invokestatic 38, 3) := by decide +kernel
theorem dX0_turnTo_4 : decode cX0_turnTo 4 = .ok (.ifCond .eq 10, 3) := by decide +kernel
theorem dX0_turnTo_7 : decode cX0_turnTo 7 = .ok (.aload_n 0, 1) := by decide +kernel
theorem dX0_turnTo_8 : decode cX0_turnTo 8 = .ok (.getfield 9, 3) := by decide +kernel
theorem dX0_turnTo_11 : decode cX0_turnTo 11 = .ok (.iload_n 1, 1) := by decide +kernel
theorem dX0_turnTo_12 : decode cX0_turnTo 12 = .ok (.iload_n 2, 1) := by decide +kernel
theorem dX0_turnTo_13 : decode cX0_turnTo 13 = .ok (.iastore, 1) := by decide +kernel
theorem dX0_turnTo_14 : decode cX0_turnTo 14 = .ok (.return_, 1) := by decide +kernel
theorem dX0_standing_0 : decode cX0_standing 0 = .ok (.iconst 0, 1) := by decide +kernel
theorem dX0_standing_1 : decode cX0_standing 1 = .ok (.istore_n 1, 1) := by decide +kernel
theorem dX0_standing_2 : decode cX0_standing 2 = .ok (.iconst 0, 1) := by decide +kernel
theorem dX0_standing_3 : decode cX0_standing 3 = .ok (.istore_n 2, 1) := by decide +kernel
theorem dX0_standing_4 : decode cX0_standing 4 = .ok (.iload_n 2, 1) := by decide +kernel
theorem dX0_standing_5 : decode cX0_standing 5 = .ok (.iconst 4, 1) := by decide +kernel
theorem dX0_standing_6 : decode cX0_standing 6 = .ok (.if_icmp .ge 21, 3) := by decide +kernel
theorem dX0_standing_9 : decode cX0_standing 9 = .ok (.iload_n 1, 1) := by decide +kernel
theorem dX0_standing_10 : decode cX0_standing 10 = .ok (.bipush 6, 2) := by decide +kernel
theorem dX0_standing_12 : decode cX0_standing 12 = .ok (.imul, 1) := by decide +kernel
theorem dX0_standing_13 : decode cX0_standing 13 = .ok (.aload_n 0, 1) := by decide +kernel
theorem dX0_standing_14 : decode cX0_standing 14 = .ok (.getfield 9, 3) := by decide +kernel
theorem dX0_standing_17 : decode cX0_standing 17 = .ok (.iload_n 2, 1) := by decide +kernel
theorem dX0_standing_18 : decode cX0_standing 18 = .ok (.iaload, 1) := by decide +kernel
theorem dX0_standing_19 : decode cX0_standing 19 = .ok (.iadd, 1) := by decide +kernel
theorem dX0_standing_20 : decode cX0_standing 20 = .ok (.istore_n 1, 1) := by decide +kernel
theorem dX0_standing_21 : decode cX0_standing 21 = .ok (.iinc 2 1, 3) := by decide +kernel
theorem dX0_standing_24 : decode cX0_standing 24 = .ok (.goto (-20), 3) := by decide +kernel
theorem dX0_standing_27 : decode cX0_standing 27 = .ok (.iload_n 1, 1) := by decide +kernel
theorem dX0_standing_28 : decode cX0_standing 28 = .ok (.ireturn, 1) := by decide +kernel
theorem dX0_close_0 : decode cX0_close 0 = .ok (.iconst 0, 1) := by decide +kernel
theorem dX0_close_1 : decode cX0_close 1 = .ok (.istore_n 1, 1) := by decide +kernel
theorem dX0_close_2 : decode cX0_close 2 = .ok (.iload_n 1, 1) := by decide +kernel
theorem dX0_close_3 : decode cX0_close 3 = .ok (.iconst 4, 1) := by decide +kernel
theorem dX0_close_4 : decode cX0_close 4 = .ok (.if_icmp .ge 28, 3) := by decide +kernel
theorem dX0_close_7 : decode cX0_close 7 = .ok (.aload_n 0, 1) := by decide +kernel
theorem dX0_close_8 : decode cX0_close 8 = .ok (.getfield 9, 3) := by decide +kernel
theorem dX0_close_11 : decode cX0_close 11 = .ok (.iload_n 1, 1) := by decide +kernel
theorem dX0_close_12 : decode cX0_close 12 = .ok (.aload_n 0, 1) := by decide +kernel
theorem dX0_close_13 : decode cX0_close 13 = .ok (.getfield 9, 3) := by decide +kernel
theorem dX0_close_16 : decode cX0_close 16 = .ok (.iload_n 1, 1) := by decide +kernel
theorem dX0_close_17 : decode cX0_close 17 = .ok (.iaload, 1) := by decide +kernel
theorem dX0_close_18 : decode cX0_close 18 = .ok (.iload_n 1, 1) := by decide +kernel
theorem dX0_close_19 : decode cX0_close 19 = .ok (.iadd, 1) := by decide +kernel
theorem dX0_close_20 : decode cX0_close 20 = .ok (.iconst 1, 1) := by decide +kernel
theorem dX0_close_21 : decode cX0_close 21 = .ok (.iadd, 1) := by decide +kernel
theorem dX0_close_22 : decode cX0_close 22 = .ok (.bipush 6, 2) := by decide +kernel
theorem dX0_close_24 : decode cX0_close 24 = .ok (.irem, 1) := by decide +kernel
theorem dX0_close_25 : decode cX0_close 25 = .ok (.iastore, 1) := by decide +kernel
theorem dX0_close_26 : decode cX0_close 26 = .ok (.iinc 1 1, 3) := by decide +kernel
theorem dX0_close_29 : decode cX0_close 29 = .ok (.goto (-27), 3) := by decide +kernel
theorem dX0_close_32 : decode cX0_close 32 = .ok (.aload_n 0, 1) := by decide +kernel
theorem dX0_close_33 : decode cX0_close 33 = .ok (.iconst 0, 1) := by decide +kernel
theorem dX0_close_34 : decode cX0_close 34 = .ok (.putfield 22, 3) := by decide +kernel
theorem dX0_close_37 : decode cX0_close 37 = .ok (.return_, 1) := by decide +kernel
theorem dX0_wearAt_0 : decode cX0_wearAt 0 = .ok (.iload_n 1, 1) := by decide +kernel
theorem dX0_wearAt_1 : decode cX0_wearAt 1 = .ok (.invokestatic 38, 3) := by decide +kernel
theorem dX0_wearAt_4 : decode cX0_wearAt 4 = .ok (.ifCond .eq 24, 3) := by decide +kernel
theorem dX0_wearAt_7 : decode cX0_wearAt 7 = .ok (.iload_n 2, 1) := by decide +kernel
theorem dX0_wearAt_8 : decode cX0_wearAt 8 = .ok (.invokestatic 42, 3) := by decide +kernel
theorem dX0_wearAt_11 : decode cX0_wearAt 11 = .ok (.ifCond .eq 17, 3) := by decide +kernel
theorem dX0_wearAt_14 : decode cX0_wearAt 14 = .ok (.aload_n 0, 1) := by decide +kernel
theorem dX0_wearAt_15 : decode cX0_wearAt 15 = .ok (.getfield 15, 3) := by decide +kernel
theorem dX0_wearAt_18 : decode cX0_wearAt 18 = .ok (.iload_n 1, 1) := by decide +kernel
theorem dX0_wearAt_19 : decode cX0_wearAt 19 = .ok (.bipush 6, 2) := by decide +kernel
theorem dX0_wearAt_21 : decode cX0_wearAt 21 = .ok (.imul, 1) := by decide +kernel
theorem dX0_wearAt_22 : decode cX0_wearAt 22 = .ok (.iload_n 2, 1) := by decide +kernel
theorem dX0_wearAt_23 : decode cX0_wearAt 23 = .ok (.iadd, 1) := by decide +kernel
theorem dX0_wearAt_24 : decode cX0_wearAt 24 = .ok (.iaload, 1) := by decide +kernel
theorem dX0_wearAt_25 : decode cX0_wearAt 25 = .ok (.goto 4, 3) := by decide +kernel
theorem dX0_wearAt_28 : decode cX0_wearAt 28 = .ok (.iconst 0, 1) := by decide +kernel
theorem dX0_wearAt_29 : decode cX0_wearAt 29 = .ok (.ireturn, 1) := by decide +kernel
theorem dX0_wearByAnHour_0 : decode cX0_wearByAnHour 0 = .ok (.iconst 0, 1) := by decide +kernel
theorem dX0_wearByAnHour_1 : decode cX0_wearByAnHour 1 = .ok (.istore_n 1, 1) := by decide +kernel
theorem dX0_wearByAnHour_2 : decode cX0_wearByAnHour 2 = .ok (.iload_n 1, 1) := by decide +kernel
theorem dX0_wearByAnHour_3 : decode cX0_wearByAnHour 3 = .ok (.iconst 4, 1) := by decide +kernel
theorem dX0_wearByAnHour_4 : decode cX0_wearByAnHour 4 = .ok (.if_icmp .ge 53, 3) := by decide +kernel
theorem dX0_wearByAnHour_7 : decode cX0_wearByAnHour 7 = .ok (.aload_n 0, 1) := by decide +kernel
theorem dX0_wearByAnHour_8 : decode cX0_wearByAnHour 8 = .ok (.getfield 22, 3) := by decide +kernel
theorem dX0_wearByAnHour_11 : decode cX0_wearByAnHour 11 = .ok (.ifCond .ne 18, 3) := by decide +kernel
theorem dX0_wearByAnHour_14 : decode cX0_wearByAnHour 14 = .ok (.aload_n 0, 1) := by decide +kernel
theorem dX0_wearByAnHour_15 : decode cX0_wearByAnHour 15 = .ok (.iload_n 1, 1) := by decide +kernel
theorem dX0_wearByAnHour_16 : decode cX0_wearByAnHour 16 = .ok (.aload_n 0, 1) := by decide +kernel
theorem dX0_wearByAnHour_17 : decode cX0_wearByAnHour 17 = .ok (.getfield 9, 3) := by decide +kernel
theorem dX0_wearByAnHour_20 : decode cX0_wearByAnHour 20 = .ok (.iload_n 1, 1) := by decide +kernel
theorem dX0_wearByAnHour_21 : decode cX0_wearByAnHour 21 = .ok (.iaload, 1) := by decide +kernel
theorem dX0_wearByAnHour_22 : decode cX0_wearByAnHour 22 = .ok (.iconst 1, 1) := by decide +kernel
theorem dX0_wearByAnHour_23 : decode cX0_wearByAnHour 23 = .ok (.invokevirtual 45, 3) := by decide +kernel
theorem dX0_wearByAnHour_26 : decode cX0_wearByAnHour 26 = .ok (.goto 25, 3) := by decide +kernel
theorem dX0_wearByAnHour_29 : decode cX0_wearByAnHour 29 = .ok (.aload_n 0, 1) := by decide +kernel
theorem dX0_wearByAnHour_30 : decode cX0_wearByAnHour 30 = .ok (.getfield 18, 3) := by decide +kernel
theorem dX0_wearByAnHour_33 : decode cX0_wearByAnHour 33 = .ok (.iconst (-1), 1) := by decide +kernel
theorem dX0_wearByAnHour_34 : decode cX0_wearByAnHour 34 = .ok (.if_icmp .eq 17, 3) := by decide +kernel
theorem dX0_wearByAnHour_37 : decode cX0_wearByAnHour 37 = .ok (.aload_n 0, 1) := by decide +kernel
theorem dX0_wearByAnHour_38 : decode cX0_wearByAnHour 38 = .ok (.iload_n 1, 1) := by decide +kernel
theorem dX0_wearByAnHour_39 : decode cX0_wearByAnHour 39 = .ok (.aload_n 0, 1) := by decide +kernel
theorem dX0_wearByAnHour_40 : decode cX0_wearByAnHour 40 = .ok (.getfield 29, 3) := by decide +kernel
theorem dX0_wearByAnHour_43 : decode cX0_wearByAnHour 43 = .ok (.iload_n 1, 1) := by decide +kernel
theorem dX0_wearByAnHour_44 : decode cX0_wearByAnHour 44 = .ok (.invokestatic 49, 3) := by decide +kernel
theorem dX0_wearByAnHour_47 : decode cX0_wearByAnHour 47 = .ok (.iconst 2, 1) := by decide +kernel
theorem dX0_wearByAnHour_48 : decode cX0_wearByAnHour 48 = .ok (.invokevirtual 45, 3) := by decide +kernel
theorem dX0_wearByAnHour_51 : decode cX0_wearByAnHour 51 = .ok (.iinc 1 1, 3) := by decide +kernel
theorem dX0_wearByAnHour_54 : decode cX0_wearByAnHour 54 = .ok (.goto (-52), 3) := by decide +kernel
theorem dX0_wearByAnHour_57 : decode cX0_wearByAnHour 57 = .ok (.return_, 1) := by decide +kernel
theorem dX0_wearMore_0 : decode cX0_wearMore 0 = .ok (.iload_n 1, 1) := by decide +kernel
theorem dX0_wearMore_1 : decode cX0_wearMore 1 = .ok (.invokestatic 38, 3) := by decide +kernel
theorem dX0_wearMore_4 : decode cX0_wearMore 4 = .ok (.ifCond .eq 39, 3) := by decide +kernel
theorem dX0_wearMore_7 : decode cX0_wearMore 7 = .ok (.iload_n 2, 1) := by decide +kernel
theorem dX0_wearMore_8 : decode cX0_wearMore 8 = .ok (.invokestatic 42, 3) := by decide +kernel
theorem dX0_wearMore_11 : decode cX0_wearMore 11 = .ok (.ifCond .eq 32, 3) := by decide +kernel
theorem dX0_wearMore_14 : decode cX0_wearMore 14 = .ok (.iload_n 1, 1) := by decide +kernel
theorem dX0_wearMore_15 : decode cX0_wearMore 15 = .ok (.bipush 6, 2) := by decide +kernel
theorem dX0_wearMore_17 : decode cX0_wearMore 17 = .ok (.imul, 1) := by decide +kernel
theorem dX0_wearMore_18 : decode cX0_wearMore 18 = .ok (.iload_n 2, 1) := by decide +kernel
theorem dX0_wearMore_19 : decode cX0_wearMore 19 = .ok (.iadd, 1) := by decide +kernel
theorem dX0_wearMore_20 : decode cX0_wearMore 20 = .ok (.istore 4, 2) := by decide +kernel
theorem dX0_wearMore_22 : decode cX0_wearMore 22 = .ok (.aload_n 0, 1) := by decide +kernel
theorem dX0_wearMore_23 : decode cX0_wearMore 23 = .ok (.getfield 15, 3) := by decide +kernel
theorem dX0_wearMore_26 : decode cX0_wearMore 26 = .ok (.iload 4, 2) := by decide +kernel
theorem dX0_wearMore_28 : decode cX0_wearMore 28 = .ok (.bipush 99, 2) := by decide +kernel
theorem dX0_wearMore_30 : decode cX0_wearMore 30 = .ok (.aload_n 0, 1) := by decide +kernel
theorem dX0_wearMore_31 : decode cX0_wearMore 31 = .ok (.getfield 15, 3) := by decide +kernel
theorem dX0_wearMore_34 : decode cX0_wearMore 34 = .ok (.iload 4, 2) := by decide +kernel
theorem dX0_wearMore_36 : decode cX0_wearMore 36 = .ok (.iaload, 1) := by decide +kernel
theorem dX0_wearMore_37 : decode cX0_wearMore 37 = .ok (.iload_n 3, 1) := by decide +kernel
theorem dX0_wearMore_38 : decode cX0_wearMore 38 = .ok (.iadd, 1) := by decide +kernel
theorem dX0_wearMore_39 : decode cX0_wearMore 39 = .ok (.invokestatic 53, 3) := by decide +kernel
theorem dX0_wearMore_42 : decode cX0_wearMore 42 = .ok (.iastore, 1) := by decide +kernel
theorem dX0_wearMore_43 : decode cX0_wearMore 43 = .ok (.return_, 1) := by decide +kernel
theorem dX0_allWears_0 : decode cX0_allWears 0 = .ok (.iconst 0, 1) := by decide +kernel
theorem dX0_allWears_1 : decode cX0_allWears 1 = .ok (.istore_n 1, 1) := by decide +kernel
theorem dX0_allWears_2 : decode cX0_allWears 2 = .ok (.iconst 0, 1) := by decide +kernel
theorem dX0_allWears_3 : decode cX0_allWears 3 = .ok (.istore_n 2, 1) := by decide +kernel
theorem dX0_allWears_4 : decode cX0_allWears 4 = .ok (.iload_n 2, 1) := by decide +kernel
theorem dX0_allWears_5 : decode cX0_allWears 5 = .ok (.aload_n 0, 1) := by decide +kernel
theorem dX0_allWears_6 : decode cX0_allWears 6 = .ok (.getfield 15, 3) := by decide +kernel
theorem dX0_allWears_9 : decode cX0_allWears 9 = .ok (.arraylength, 1) := by decide +kernel
theorem dX0_allWears_10 : decode cX0_allWears 10 = .ok (.if_icmp .ge 18, 3) := by decide +kernel
theorem dX0_allWears_13 : decode cX0_allWears 13 = .ok (.iload_n 1, 1) := by decide +kernel
theorem dX0_allWears_14 : decode cX0_allWears 14 = .ok (.aload_n 0, 1) := by decide +kernel
theorem dX0_allWears_15 : decode cX0_allWears 15 = .ok (.getfield 15, 3) := by decide +kernel
theorem dX0_allWears_18 : decode cX0_allWears 18 = .ok (.iload_n 2, 1) := by decide +kernel
theorem dX0_allWears_19 : decode cX0_allWears 19 = .ok (.iaload, 1) := by decide +kernel
theorem dX0_allWears_20 : decode cX0_allWears 20 = .ok (.iadd, 1) := by decide +kernel
theorem dX0_allWears_21 : decode cX0_allWears 21 = .ok (.istore_n 1, 1) := by decide +kernel
theorem dX0_allWears_22 : decode cX0_allWears 22 = .ok (.iinc 2 1, 3) := by decide +kernel
theorem dX0_allWears_25 : decode cX0_allWears 25 = .ok (.goto (-21), 3) := by decide +kernel
theorem dX0_allWears_28 : decode cX0_allWears 28 = .ok (.iload_n 1, 1) := by decide +kernel
theorem dX0_allWears_29 : decode cX0_allWears 29 = .ok (.ireturn, 1) := by decide +kernel
theorem dX0_showing_0 : decode cX0_showing 0 = .ok (.iconst 0, 1) := by decide +kernel
theorem dX0_showing_1 : decode cX0_showing 1 = .ok (.istore_n 1, 1) := by decide +kernel
theorem dX0_showing_2 : decode cX0_showing 2 = .ok (.iconst 0, 1) := by decide +kernel
theorem dX0_showing_3 : decode cX0_showing 3 = .ok (.istore_n 2, 1) := by decide +kernel
theorem dX0_showing_4 : decode cX0_showing 4 = .ok (.iload_n 2, 1) := by decide +kernel
theorem dX0_showing_5 : decode cX0_showing 5 = .ok (.iconst 4, 1) := by decide +kernel
theorem dX0_showing_6 : decode cX0_showing 6 = .ok (.if_icmp .ge 20, 3) := by decide +kernel
theorem dX0_showing_9 : decode cX0_showing 9 = .ok (.iload_n 1, 1) := by decide +kernel
theorem dX0_showing_10 : decode cX0_showing 10 = .ok (.bipush 6, 2) := by decide +kernel
theorem dX0_showing_12 : decode cX0_showing 12 = .ok (.imul, 1) := by decide +kernel
theorem dX0_showing_13 : decode cX0_showing 13 = .ok (.aload_n 0, 1) := by decide +kernel
theorem dX0_showing_14 : decode cX0_showing 14 = .ok (.iload_n 2, 1) := by decide +kernel
theorem dX0_showing_15 : decode cX0_showing 15 = .ok (.invokevirtual 58, 3) := by decide +kernel
theorem dX0_showing_18 : decode cX0_showing 18 = .ok (.iadd, 1) := by decide +kernel
theorem dX0_showing_19 : decode cX0_showing 19 = .ok (.istore_n 1, 1) := by decide +kernel
theorem dX0_showing_20 : decode cX0_showing 20 = .ok (.iinc 2 1, 3) := by decide +kernel
theorem dX0_showing_23 : decode cX0_showing 23 = .ok (.goto (-19), 3) := by decide +kernel
theorem dX0_showing_26 : decode cX0_showing 26 = .ok (.iload_n 1, 1) := by decide +kernel
theorem dX0_showing_27 : decode cX0_showing 27 = .ok (.ireturn, 1) := by decide +kernel
theorem dX0_mostWorn_0 : decode cX0_mostWorn 0 = .ok (.iconst 0, 1) := by decide +kernel
theorem dX0_mostWorn_1 : decode cX0_mostWorn 1 = .ok (.istore_n 2, 1) := by decide +kernel
theorem dX0_mostWorn_2 : decode cX0_mostWorn 2 = .ok (.iconst 1, 1) := by decide +kernel
theorem dX0_mostWorn_3 : decode cX0_mostWorn 3 = .ok (.istore_n 3, 1) := by decide +kernel
theorem dX0_mostWorn_4 : decode cX0_mostWorn 4 = .ok (.iload_n 3, 1) := by decide +kernel
theorem dX0_mostWorn_5 : decode cX0_mostWorn 5 = .ok (.bipush 6, 2) := by decide +kernel
theorem dX0_mostWorn_7 : decode cX0_mostWorn 7 = .ok (.if_icmp .ge 26, 3) := by decide +kernel
theorem dX0_mostWorn_10 : decode cX0_mostWorn 10 = .ok (.aload_n 0, 1) := by decide +kernel
theorem dX0_mostWorn_11 : decode cX0_mostWorn 11 = .ok (.iload_n 1, 1) := by decide +kernel
theorem dX0_mostWorn_12 : decode cX0_mostWorn 12 = .ok (.iload_n 3, 1) := by decide +kernel
theorem dX0_mostWorn_13 : decode cX0_mostWorn 13 = .ok (.invokevirtual 62, 3) := by decide +kernel
theorem dX0_mostWorn_16 : decode cX0_mostWorn 16 = .ok (.aload_n 0, 1) := by decide +kernel
theorem dX0_mostWorn_17 : decode cX0_mostWorn 17 = .ok (.iload_n 1, 1) := by decide +kernel
theorem dX0_mostWorn_18 : decode cX0_mostWorn 18 = .ok (.iload_n 2, 1) := by decide +kernel
theorem dX0_mostWorn_19 : decode cX0_mostWorn 19 = .ok (.invokevirtual 62, 3) := by decide +kernel
theorem dX0_mostWorn_22 : decode cX0_mostWorn 22 = .ok (.if_icmp .le 5, 3) := by decide +kernel
theorem dX0_mostWorn_25 : decode cX0_mostWorn 25 = .ok (.iload_n 3, 1) := by decide +kernel
theorem dX0_mostWorn_26 : decode cX0_mostWorn 26 = .ok (.istore_n 2, 1) := by decide +kernel
theorem dX0_mostWorn_27 : decode cX0_mostWorn 27 = .ok (.iinc 3 1, 3) := by decide +kernel
theorem dX0_mostWorn_30 : decode cX0_mostWorn 30 = .ok (.goto (-26), 3) := by decide +kernel
theorem dX0_mostWorn_33 : decode cX0_mostWorn 33 = .ok (.iload_n 2, 1) := by decide +kernel
theorem dX0_mostWorn_34 : decode cX0_mostWorn 34 = .ok (.ireturn, 1) := by decide +kernel
theorem dX0_placeInOrder_0 : decode cX0_placeInOrder 0 = .ok (.iconst 0, 1) := by decide +kernel
theorem dX0_placeInOrder_1 : decode cX0_placeInOrder 1 = .ok (.istore_n 3, 1) := by decide +kernel
theorem dX0_placeInOrder_2 : decode cX0_placeInOrder 2 = .ok (.aload_n 0, 1) := by decide +kernel
theorem dX0_placeInOrder_3 : decode cX0_placeInOrder 3 = .ok (.iload_n 1, 1) := by decide +kernel
theorem dX0_placeInOrder_4 : decode cX0_placeInOrder 4 = .ok (.iload_n 2, 1) := by decide +kernel
theorem dX0_placeInOrder_5 : decode cX0_placeInOrder 5 = .ok (.invokevirtual 62, 3) := by decide +kernel
theorem dX0_placeInOrder_8 : decode cX0_placeInOrder 8 = .ok (.istore 4, 2) := by decide +kernel
theorem dX0_placeInOrder_10 : decode cX0_placeInOrder 10 = .ok (.iconst 0, 1) := by decide +kernel
theorem dX0_placeInOrder_11 : decode cX0_placeInOrder 11 = .ok (.istore 5, 2) := by decide +kernel
theorem dX0_placeInOrder_13 : decode cX0_placeInOrder 13 = .ok (.iload 5, 2) := by decide +kernel
theorem dX0_placeInOrder_15 : decode cX0_placeInOrder 15 = .ok (.bipush 6, 2) := by decide +kernel
theorem dX0_placeInOrder_17 : decode cX0_placeInOrder 17 = .ok (.if_icmp .ge 41, 3) := by decide +kernel
theorem dX0_placeInOrder_20 : decode cX0_placeInOrder 20 = .ok (.aload_n 0, 1) := by decide +kernel
theorem dX0_placeInOrder_21 : decode cX0_placeInOrder 21 = .ok (.iload_n 1, 1) := by decide +kernel
theorem dX0_placeInOrder_22 : decode cX0_placeInOrder 22 = .ok (.iload 5, 2) := by decide +kernel
theorem dX0_placeInOrder_24 : decode cX0_placeInOrder 24 = .ok (.invokevirtual 62, 3) := by decide +kernel
theorem dX0_placeInOrder_27 : decode cX0_placeInOrder 27 = .ok (.istore 6, 2) := by decide +kernel
theorem dX0_placeInOrder_29 : decode cX0_placeInOrder 29 = .ok (.iload 6, 2) := by decide +kernel
theorem dX0_placeInOrder_31 : decode cX0_placeInOrder 31 = .ok (.iload 4, 2) := by decide +kernel
theorem dX0_placeInOrder_33 : decode cX0_placeInOrder 33 = .ok (.if_icmp .gt 16, 3) := by decide +kernel
theorem dX0_placeInOrder_36 : decode cX0_placeInOrder 36 = .ok (.iload 6, 2) := by decide +kernel
theorem dX0_placeInOrder_38 : decode cX0_placeInOrder 38 = .ok (.iload 4, 2) := by decide +kernel
theorem dX0_placeInOrder_40 : decode cX0_placeInOrder 40 = .ok (.if_icmp .ne 12, 3) := by decide +kernel
theorem dX0_placeInOrder_43 : decode cX0_placeInOrder 43 = .ok (.iload 5, 2) := by decide +kernel
theorem dX0_placeInOrder_45 : decode cX0_placeInOrder 45 = .ok (.iload_n 2, 1) := by decide +kernel
theorem dX0_placeInOrder_46 : decode cX0_placeInOrder 46 = .ok (.if_icmp .ge 6, 3) := by decide +kernel
theorem dX0_placeInOrder_49 : decode cX0_placeInOrder 49 = .ok (.iinc 3 1, 3) := by decide +kernel
theorem dX0_placeInOrder_52 : decode cX0_placeInOrder 52 = .ok (.iinc 5 1, 3) := by decide +kernel
theorem dX0_placeInOrder_55 : decode cX0_placeInOrder 55 = .ok (.goto (-42), 3) := by decide +kernel
theorem dX0_placeInOrder_58 : decode cX0_placeInOrder 58 = .ok (.iload_n 3, 1) := by decide +kernel
theorem dX0_placeInOrder_59 : decode cX0_placeInOrder 59 = .ok (.ireturn, 1) := by decide +kernel
theorem dX1_init_0 : decode cX1_init 0 = .ok (.aload_n 0, 1) := by decide +kernel
theorem dX1_init_1 : decode cX1_init 1 = .ok (.invokespecial 3, 3) := by decide +kernel
theorem dX1_init_4 : decode cX1_init 4 = .ok (.aload_n 0, 1) := by decide +kernel
theorem dX1_init_5 : decode cX1_init 5 = .ok (.iconst 4, 1) := by decide +kernel
theorem dX1_init_6 : decode cX1_init 6 = .ok (.putfield 9, 3) := by decide +kernel
theorem dX1_init_9 : decode cX1_init 9 = .ok (.aload_n 0, 1) := by decide +kernel
theorem dX1_init_10 : decode cX1_init 10 = .ok (.iconst 0, 1) := by decide +kernel
theorem dX1_init_11 : decode cX1_init 11 = .ok (.putfield 15, 3) := by decide +kernel
theorem dX1_init_14 : decode cX1_init 14 = .ok (.aload_n 0, 1) := by decide +kernel
theorem dX1_init_15 : decode cX1_init 15 = .ok (.bipush 24, 2) := by decide +kernel
theorem dX1_init_17 : decode cX1_init 17 = .ok (.putfield 18, 3) := by decide +kernel
theorem dX1_init_20 : decode cX1_init 20 = .ok (.return_, 1) := by decide +kernel
theorem dX1_isOpenIn_0 : decode cX1_isOpenIn 0 = .ok (.iload_n 1, 1) := by decide +kernel
theorem dX1_isOpenIn_1 : decode cX1_isOpenIn 1 = .ok (.bipush 24, 2) := by decide +kernel
theorem dX1_isOpenIn_3 : decode cX1_isOpenIn 3 = .ok (.irem, 1) := by decide +kernel
theorem dX1_isOpenIn_4 : decode cX1_isOpenIn 4 = .ok (.istore_n 2, 1) := by decide +kernel
theorem dX1_isOpenIn_5 : decode cX1_isOpenIn 5 = .ok (.aload_n 0, 1) := by decide +kernel
theorem dX1_isOpenIn_6 : decode cX1_isOpenIn 6 = .ok (.getfield 15, 3) := by decide +kernel
theorem dX1_isOpenIn_9 : decode cX1_isOpenIn 9 = .ok (.aload_n 0, 1) := by decide +kernel
theorem dX1_isOpenIn_10 : decode cX1_isOpenIn 10 = .ok (.getfield 18, 3) := by decide +kernel
theorem dX1_isOpenIn_13 : decode cX1_isOpenIn 13 = .ok (.if_icmp .gt 25, 3) := by decide +kernel
theorem dX1_isOpenIn_16 : decode cX1_isOpenIn 16 = .ok (.iload_n 2, 1) := by decide +kernel
theorem dX1_isOpenIn_17 : decode cX1_isOpenIn 17 = .ok (.aload_n 0, 1) := by decide +kernel
theorem dX1_isOpenIn_18 : decode cX1_isOpenIn 18 = .ok (.getfield 15, 3) := by decide +kernel
theorem dX1_isOpenIn_21 : decode cX1_isOpenIn 21 = .ok (.if_icmp .lt 15, 3) := by decide +kernel
theorem dX1_isOpenIn_24 : decode cX1_isOpenIn 24 = .ok (.iload_n 2, 1) := by decide +kernel
theorem dX1_isOpenIn_25 : decode cX1_isOpenIn 25 = .ok (.aload_n 0, 1) := by decide +kernel
theorem dX1_isOpenIn_26 : decode cX1_isOpenIn 26 = .ok (.getfield 18, 3) := by decide +kernel
theorem dX1_isOpenIn_29 : decode cX1_isOpenIn 29 = .ok (.if_icmp .ge 7, 3) := by decide +kernel
theorem dX1_isOpenIn_32 : decode cX1_isOpenIn 32 = .ok (.iconst 1, 1) := by decide +kernel
theorem dX1_isOpenIn_33 : decode cX1_isOpenIn 33 = .ok (.goto 4, 3) := by decide +kernel
theorem dX1_isOpenIn_36 : decode cX1_isOpenIn 36 = .ok (.iconst 0, 1) := by decide +kernel
theorem dX1_isOpenIn_37 : decode cX1_isOpenIn 37 = .ok (.ireturn, 1) := by decide +kernel
theorem dX1_isOpenIn_38 : decode cX1_isOpenIn 38 = .ok (.iload_n 2, 1) := by decide +kernel
theorem dX1_isOpenIn_39 : decode cX1_isOpenIn 39 = .ok (.aload_n 0, 1) := by decide +kernel
theorem dX1_isOpenIn_40 : decode cX1_isOpenIn 40 = .ok (.getfield 15, 3) := by decide +kernel
theorem dX1_isOpenIn_43 : decode cX1_isOpenIn 43 = .ok (.if_icmp .ge 11, 3) := by decide +kernel
theorem dX1_isOpenIn_46 : decode cX1_isOpenIn 46 = .ok (.iload_n 2, 1) := by decide +kernel
theorem dX1_isOpenIn_47 : decode cX1_isOpenIn 47 = .ok (.aload_n 0, 1) := by decide +kernel
theorem dX1_isOpenIn_48 : decode cX1_isOpenIn 48 = .ok (.getfield 18, 3) := by decide +kernel
theorem dX1_isOpenIn_51 : decode cX1_isOpenIn 51 = .ok (.if_icmp .ge 7, 3) := by decide +kernel
theorem dX1_isOpenIn_54 : decode cX1_isOpenIn 54 = .ok (.iconst 1, 1) := by decide +kernel
theorem dX1_isOpenIn_55 : decode cX1_isOpenIn 55 = .ok (.goto 4, 3) := by decide +kernel
theorem dX1_isOpenIn_58 : decode cX1_isOpenIn 58 = .ok (.iconst 0, 1) := by decide +kernel
theorem dX1_isOpenIn_59 : decode cX1_isOpenIn 59 = .ok (.ireturn, 1) := by decide +kernel
theorem dX2_init_0 : decode cX2_init 0 = .ok (.aload_n 0, 1) := by decide +kernel
theorem dX2_init_1 : decode cX2_init 1 = .ok (.invokespecial 3, 3) := by decide +kernel
theorem dX2_init_4 : decode cX2_init 4 = .ok (.aload_n 0, 1) := by decide +kernel
theorem dX2_init_5 : decode cX2_init 5 = .ok (.iconst 5, 1) := by decide +kernel
theorem dX2_init_6 : decode cX2_init 6 = .ok (.bipush 21, 2) := by decide +kernel
theorem dX2_init_8 : decode cX2_init 8 = .ok (.multianewarray 11 2, 4) := by decide +kernel
theorem dX2_init_12 : decode cX2_init 12 = .ok (.putfield 13, 3) := by decide +kernel
theorem dX2_init_15 : decode cX2_init 15 = .ok (.aload_n 0, 1) := by decide +kernel
theorem dX2_init_16 : decode cX2_init 16 = .ok (.getfield 13, 3) := by decide +kernel
theorem dX2_init_19 : decode cX2_init 19 = .ok (.iconst 0, 1) := by decide +kernel
theorem dX2_init_20 : decode cX2_init 20 = .ok (.aaload, 1) := by decide +kernel
theorem dX2_init_21 : decode cX2_init 21 = .ok (.iconst 0, 1) := by decide +kernel
theorem dX2_init_22 : decode cX2_init 22 = .ok (.iconst 1, 1) := by decide +kernel
theorem dX2_init_23 : decode cX2_init 23 = .ok (.iastore, 1) := by decide +kernel
theorem dX2_init_24 : decode cX2_init 24 = .ok (.iconst 1, 1) := by decide +kernel
theorem dX2_init_25 : decode cX2_init 25 = .ok (.istore_n 1, 1) := by decide +kernel
theorem dX2_init_26 : decode cX2_init 26 = .ok (.iload_n 1, 1) := by decide +kernel
theorem dX2_init_27 : decode cX2_init 27 = .ok (.iconst 4, 1) := by decide +kernel
theorem dX2_init_28 : decode cX2_init 28 = .ok (.if_icmp .gt 65, 3) := by decide +kernel
theorem dX2_init_31 : decode cX2_init 31 = .ok (.iconst 0, 1) := by decide +kernel
theorem dX2_init_32 : decode cX2_init 32 = .ok (.istore_n 2, 1) := by decide +kernel
theorem dX2_init_33 : decode cX2_init 33 = .ok (.iload_n 2, 1) := by decide +kernel
theorem dX2_init_34 : decode cX2_init 34 = .ok (.bipush 20, 2) := by decide +kernel
theorem dX2_init_36 : decode cX2_init 36 = .ok (.if_icmp .gt 51, 3) := by decide +kernel
theorem dX2_init_39 : decode cX2_init 39 = .ok (.iconst 0, 1) := by decide +kernel
theorem dX2_init_40 : decode cX2_init 40 = .ok (.istore_n 3, 1) := by decide +kernel
theorem dX2_init_41 : decode cX2_init 41 = .ok (.iload_n 3, 1) := by decide +kernel
theorem dX2_init_42 : decode cX2_init 42 = .ok (.bipush 6, 2) := by decide +kernel
theorem dX2_init_44 : decode cX2_init 44 = .ok (.if_icmp .ge 37, 3) := by decide +kernel
theorem dX2_init_47 : decode cX2_init 47 = .ok (.iload_n 3, 1) := by decide +kernel
theorem dX2_init_48 : decode cX2_init 48 = .ok (.iload_n 2, 1) := by decide +kernel
theorem dX2_init_49 : decode cX2_init 49 = .ok (.if_icmp .gt 32, 3) := by decide +kernel
theorem dX2_init_52 : decode cX2_init 52 = .ok (.aload_n 0, 1) := by decide +kernel
theorem dX2_init_53 : decode cX2_init 53 = .ok (.getfield 13, 3) := by decide +kernel
theorem dX2_init_56 : decode cX2_init 56 = .ok (.iload_n 1, 1) := by decide +kernel
theorem dX2_init_57 : decode cX2_init 57 = .ok (.aaload, 1) := by decide +kernel
theorem dX2_init_58 : decode cX2_init 58 = .ok (.iload_n 2, 1) := by decide +kernel
theorem dX2_init_59 : decode cX2_init 59 = .ok (.dup2, 1) := by decide +kernel
theorem dX2_init_60 : decode cX2_init 60 = .ok (.iaload, 1) := by decide +kernel
theorem dX2_init_61 : decode cX2_init 61 = .ok (.aload_n 0, 1) := by decide +kernel
theorem dX2_init_62 : decode cX2_init 62 = .ok (.getfield 13, 3) := by decide +kernel
theorem dX2_init_65 : decode cX2_init 65 = .ok (.iload_n 1, 1) := by decide +kernel
theorem dX2_init_66 : decode cX2_init 66 = .ok (.iconst 1, 1) := by decide +kernel
theorem dX2_init_67 : decode cX2_init 67 = .ok (.isub, 1) := by decide +kernel
theorem dX2_init_68 : decode cX2_init 68 = .ok (.aaload, 1) := by decide +kernel
theorem dX2_init_69 : decode cX2_init 69 = .ok (.iload_n 2, 1) := by decide +kernel
theorem dX2_init_70 : decode cX2_init 70 = .ok (.iload_n 3, 1) := by decide +kernel
theorem dX2_init_71 : decode cX2_init 71 = .ok (.isub, 1) := by decide +kernel
theorem dX2_init_72 : decode cX2_init 72 = .ok (.iaload, 1) := by decide +kernel
theorem dX2_init_73 : decode cX2_init 73 = .ok (.iadd, 1) := by decide +kernel
theorem dX2_init_74 : decode cX2_init 74 = .ok (.iastore, 1) := by decide +kernel
theorem dX2_init_75 : decode cX2_init 75 = .ok (.iinc 3 1, 3) := by decide +kernel
theorem dX2_init_78 : decode cX2_init 78 = .ok (.goto (-37), 3) := by decide +kernel
theorem dX2_init_81 : decode cX2_init 81 = .ok (.iinc 2 1, 3) := by decide +kernel
theorem dX2_init_84 : decode cX2_init 84 = .ok (.goto (-51), 3) := by decide +kernel
theorem dX2_init_87 : decode cX2_init 87 = .ok (.iinc 1 1, 3) := by decide +kernel
theorem dX2_init_90 : decode cX2_init 90 = .ok (.goto (-64), 3) := by decide +kernel
theorem dX2_init_93 : decode cX2_init 93 = .ok (.return_, 1) := by decide +kernel
theorem dX2_trialOf_0 : decode cX2_trialOf 0 = .ok (.aload_n 1, 1) := by decide +kernel
theorem dX2_trialOf_1 : decode cX2_trialOf 1 = .ok (.iload_n 2, 1) := by decide +kernel
theorem dX2_trialOf_2 : decode cX2_trialOf 2 = .ok (.invokestatic 16, 3) := by decide +kernel
theorem dX2_trialOf_5 : decode cX2_trialOf 5 = .ok (.istore_n 3, 1) := by decide +kernel
theorem dX2_trialOf_6 : decode cX2_trialOf 6 = .ok (.iconst 0, 1) := by decide +kernel
theorem dX2_trialOf_7 : decode cX2_trialOf 7 = .ok (.istore 4, 2) := by decide +kernel
theorem dX2_trialOf_9 : decode cX2_trialOf 9 = .ok (.iconst 0, 1) := by decide +kernel
theorem dX2_trialOf_10 : decode cX2_trialOf 10 = .ok (.istore 5, 2) := by decide +kernel
theorem dX2_trialOf_12 : decode cX2_trialOf 12 = .ok (.iload 5, 2) := by decide +kernel
theorem dX2_trialOf_14 : decode cX2_trialOf 14 = .ok (.iload_n 3, 1) := by decide +kernel
theorem dX2_trialOf_15 : decode cX2_trialOf 15 = .ok (.if_icmp .ge 21, 3) := by decide +kernel
theorem dX2_trialOf_18 : decode cX2_trialOf 18 = .ok (.iload 4, 2) := by decide +kernel
theorem dX2_trialOf_20 : decode cX2_trialOf 20 = .ok (.aload_n 0, 1) := by decide +kernel
theorem dX2_trialOf_21 : decode cX2_trialOf 21 = .ok (.iconst 4, 1) := by decide +kernel
theorem dX2_trialOf_22 : decode cX2_trialOf 22 = .ok (.iload 5, 2) := by decide +kernel
theorem dX2_trialOf_24 : decode cX2_trialOf 24 = .ok (.invokevirtual 20, 3) := by decide +kernel
theorem dX2_trialOf_27 : decode cX2_trialOf 27 = .ok (.iadd, 1) := by decide +kernel
theorem dX2_trialOf_28 : decode cX2_trialOf 28 = .ok (.istore 4, 2) := by decide +kernel
theorem dX2_trialOf_30 : decode cX2_trialOf 30 = .ok (.iinc 5 1, 3) := by decide +kernel
theorem dX2_trialOf_33 : decode cX2_trialOf 33 = .ok (.goto (-21), 3) := by decide +kernel
theorem dX2_trialOf_36 : decode cX2_trialOf 36 = .ok (.iload 4, 2) := by decide +kernel
theorem dX2_trialOf_38 : decode cX2_trialOf 38 = .ok (.aload_n 0, 1) := by decide +kernel
theorem dX2_trialOf_39 : decode cX2_trialOf 39 = .ok (.aload_n 1, 1) := by decide +kernel
theorem dX2_trialOf_40 : decode cX2_trialOf 40 = .ok (.iload_n 2, 1) := by decide +kernel
theorem dX2_trialOf_41 : decode cX2_trialOf 41 = .ok (.iload_n 3, 1) := by decide +kernel
theorem dX2_trialOf_42 : decode cX2_trialOf 42 = .ok (.invokevirtual 24, 3) := by decide +kernel
theorem dX2_trialOf_45 : decode cX2_trialOf 45 = .ok (.iadd, 1) := by decide +kernel
theorem dX2_trialOf_46 : decode cX2_trialOf 46 = .ok (.iconst 1, 1) := by decide +kernel
theorem dX2_trialOf_47 : decode cX2_trialOf 47 = .ok (.iadd, 1) := by decide +kernel
theorem dX2_trialOf_48 : decode cX2_trialOf 48 = .ok (.ireturn, 1) := by decide +kernel
theorem dX2_sumOfPlaces_0 : decode cX2_sumOfPlaces 0 = .ok (.iconst 0, 1) := by decide +kernel
theorem dX2_sumOfPlaces_1 : decode cX2_sumOfPlaces 1 = .ok (.istore_n 2, 1) := by decide +kernel
theorem dX2_sumOfPlaces_2 : decode cX2_sumOfPlaces 2 = .ok (.iconst 0, 1) := by decide +kernel
theorem dX2_sumOfPlaces_3 : decode cX2_sumOfPlaces 3 = .ok (.istore_n 3, 1) := by decide +kernel
theorem dX2_sumOfPlaces_4 : decode cX2_sumOfPlaces 4 = .ok (.iload_n 3, 1) := by decide +kernel
theorem dX2_sumOfPlaces_5 : decode cX2_sumOfPlaces 5 = .ok (.iconst 4, 1) := by decide +kernel
theorem dX2_sumOfPlaces_6 : decode cX2_sumOfPlaces 6 = .ok (.if_icmp .ge 22, 3) := by decide +kernel
theorem dX2_sumOfPlaces_9 : decode cX2_sumOfPlaces 9 = .ok (.iload_n 2, 1) := by decide +kernel
theorem dX2_sumOfPlaces_10 : decode cX2_sumOfPlaces 10 = .ok (.aload_n 0, 1) := by decide +kernel
theorem dX2_sumOfPlaces_11 : decode cX2_sumOfPlaces 11 = .ok (.iload_n 3, 1) := by decide +kernel
theorem dX2_sumOfPlaces_12 : decode cX2_sumOfPlaces 12 = .ok (.iload_n 1, 1) := by decide +kernel
theorem dX2_sumOfPlaces_13 : decode cX2_sumOfPlaces 13 = .ok (.iload_n 3, 1) := by decide +kernel
theorem dX2_sumOfPlaces_14 : decode cX2_sumOfPlaces 14 = .ok (.invokestatic 28, 3) := by decide +kernel
theorem dX2_sumOfPlaces_17 : decode cX2_sumOfPlaces 17 = .ok (.invokevirtual 31, 3) := by decide +kernel
theorem dX2_sumOfPlaces_20 : decode cX2_sumOfPlaces 20 = .ok (.iadd, 1) := by decide +kernel
theorem dX2_sumOfPlaces_21 : decode cX2_sumOfPlaces 21 = .ok (.istore_n 2, 1) := by decide +kernel
theorem dX2_sumOfPlaces_22 : decode cX2_sumOfPlaces 22 = .ok (.iinc 3 1, 3) := by decide +kernel
theorem dX2_sumOfPlaces_25 : decode cX2_sumOfPlaces 25 = .ok (.goto (-21), 3) := by decide +kernel
theorem dX2_sumOfPlaces_28 : decode cX2_sumOfPlaces 28 = .ok (.iload_n 2, 1) := by decide +kernel
theorem dX2_sumOfPlaces_29 : decode cX2_sumOfPlaces 29 = .ok (.ireturn, 1) := by decide +kernel
theorem dX2_lesserWordsOfSum_0 : decode cX2_lesserWordsOfSum 0 = .ok (.iconst 0, 1) := by decide +kernel
theorem dX2_lesserWordsOfSum_1 : decode cX2_lesserWordsOfSum 1 = .ok (.istore 4, 2) := by decide +kernel
theorem dX2_lesserWordsOfSum_3 : decode cX2_lesserWordsOfSum 3 = .ok (.iload_n 3, 1) := by decide +kernel
theorem dX2_lesserWordsOfSum_4 : decode cX2_lesserWordsOfSum 4 = .ok (.istore 5, 2) := by decide +kernel
theorem dX2_lesserWordsOfSum_6 : decode cX2_lesserWordsOfSum 6 = .ok (.iconst 0, 1) := by decide +kernel
theorem dX2_lesserWordsOfSum_7 : decode cX2_lesserWordsOfSum 7 = .ok (.istore 6, 2) := by decide +kernel
theorem dX2_lesserWordsOfSum_9 : decode cX2_lesserWordsOfSum 9 = .ok (.iload 6, 2) := by decide +kernel
theorem dX2_lesserWordsOfSum_11 : decode cX2_lesserWordsOfSum 11 = .ok (.iconst 4, 1) := by decide +kernel
theorem dX2_lesserWordsOfSum_12 : decode cX2_lesserWordsOfSum 12 = .ok (.if_icmp .ge 74, 3) := by decide +kernel
theorem dX2_lesserWordsOfSum_15 : decode cX2_lesserWordsOfSum 15 = .ok (.iload_n 2, 1) := by decide +kernel
theorem dX2_lesserWordsOfSum_16 : decode cX2_lesserWordsOfSum 16 = .ok (.iload 6, 2) := by decide +kernel
theorem dX2_lesserWordsOfSum_18 : decode cX2_lesserWordsOfSum 18 = .ok (.invokestatic 28, 3) := by decide +kernel
theorem dX2_lesserWordsOfSum_21 : decode cX2_lesserWordsOfSum 21 = .ok (.istore 7, 2) := by decide +kernel
theorem dX2_lesserWordsOfSum_23 : decode cX2_lesserWordsOfSum 23 = .ok (.iconst 3, 1) := by decide +kernel
theorem dX2_lesserWordsOfSum_24 : decode cX2_lesserWordsOfSum 24 = .ok (.iload 6, 2) := by decide +kernel
theorem dX2_lesserWordsOfSum_26 : decode cX2_lesserWordsOfSum 26 = .ok (.isub, 1) := by decide +kernel
theorem dX2_lesserWordsOfSum_27 : decode cX2_lesserWordsOfSum 27 = .ok (.istore 8, 2) := by decide +kernel
theorem dX2_lesserWordsOfSum_29 : decode cX2_lesserWordsOfSum 29 = .ok (.iconst 0, 1) := by decide +kernel
theorem dX2_lesserWordsOfSum_30 : decode cX2_lesserWordsOfSum 30 = .ok (.istore 9, 2) := by decide +kernel
theorem dX2_lesserWordsOfSum_32 : decode cX2_lesserWordsOfSum 32 = .ok (.iload 9, 2) := by decide +kernel
theorem dX2_lesserWordsOfSum_34 : decode cX2_lesserWordsOfSum 34 = .ok (.iload 7, 2) := by decide +kernel
theorem dX2_lesserWordsOfSum_36 : decode cX2_lesserWordsOfSum 36 = .ok (.if_icmp .ge 31, 3) := by decide +kernel
theorem dX2_lesserWordsOfSum_39 : decode cX2_lesserWordsOfSum 39 = .ok (.iload 4, 2) := by decide +kernel
theorem dX2_lesserWordsOfSum_41 : decode cX2_lesserWordsOfSum 41 = .ok (.aload_n 0, 1) := by decide +kernel
theorem dX2_lesserWordsOfSum_42 : decode cX2_lesserWordsOfSum 42 = .ok (.iload 8, 2) := by decide +kernel
theorem dX2_lesserWordsOfSum_44 : decode cX2_lesserWordsOfSum 44 = .ok (.iload 5, 2) := by decide +kernel
theorem dX2_lesserWordsOfSum_46 : decode cX2_lesserWordsOfSum 46 = .ok (.aload_n 1, 1) := by decide +kernel
theorem dX2_lesserWordsOfSum_47 : decode cX2_lesserWordsOfSum 47 = .ok (.iload 6, 2) := by decide +kernel
theorem dX2_lesserWordsOfSum_49 : decode cX2_lesserWordsOfSum 49 = .ok (.iload 9, 2) := by decide +kernel
theorem dX2_lesserWordsOfSum_51 : decode cX2_lesserWordsOfSum 51 = .ok (.invokevirtual 31, 3) := by decide +kernel
theorem dX2_lesserWordsOfSum_54 : decode cX2_lesserWordsOfSum 54 = .ok (.isub, 1) := by decide +kernel
theorem dX2_lesserWordsOfSum_55 : decode cX2_lesserWordsOfSum 55 = .ok (.invokevirtual 20, 3) := by decide +kernel
theorem dX2_lesserWordsOfSum_58 : decode cX2_lesserWordsOfSum 58 = .ok (.iadd, 1) := by decide +kernel
theorem dX2_lesserWordsOfSum_59 : decode cX2_lesserWordsOfSum 59 = .ok (.istore 4, 2) := by decide +kernel
theorem dX2_lesserWordsOfSum_61 : decode cX2_lesserWordsOfSum 61 = .ok (.iinc 9 1, 3) := by decide +kernel
theorem dX2_lesserWordsOfSum_64 : decode cX2_lesserWordsOfSum 64 = .ok (.goto (-32), 3) := by decide +kernel
theorem dX2_lesserWordsOfSum_67 : decode cX2_lesserWordsOfSum 67 = .ok (.iload 5, 2) := by decide +kernel
theorem dX2_lesserWordsOfSum_69 : decode cX2_lesserWordsOfSum 69 = .ok (.aload_n 1, 1) := by decide +kernel
theorem dX2_lesserWordsOfSum_70 : decode cX2_lesserWordsOfSum 70 = .ok (.iload 6, 2) := by decide +kernel
theorem dX2_lesserWordsOfSum_72 : decode cX2_lesserWordsOfSum 72 = .ok (.iload 7, 2) := by decide +kernel
theorem dX2_lesserWordsOfSum_74 : decode cX2_lesserWordsOfSum 74 = .ok (.invokevirtual 31, 3) := by decide +kernel
theorem dX2_lesserWordsOfSum_77 : decode cX2_lesserWordsOfSum 77 = .ok (.isub, 1) := by decide +kernel
theorem dX2_lesserWordsOfSum_78 : decode cX2_lesserWordsOfSum 78 = .ok (.istore 5, 2) := by decide +kernel
theorem dX2_lesserWordsOfSum_80 : decode cX2_lesserWordsOfSum 80 = .ok (.iinc 6 1, 3) := by decide +kernel
theorem dX2_lesserWordsOfSum_83 : decode cX2_lesserWordsOfSum 83 = .ok (.goto (-74), 3) := by decide +kernel
theorem dX2_lesserWordsOfSum_86 : decode cX2_lesserWordsOfSum 86 = .ok (.iload 4, 2) := by decide +kernel
theorem dX2_lesserWordsOfSum_88 : decode cX2_lesserWordsOfSum 88 = .ok (.ireturn, 1) := by decide +kernel
theorem dX2_wordsWith_0 : decode cX2_wordsWith 0 = .ok (.iload_n 1, 1) := by decide +kernel
theorem dX2_wordsWith_1 : decode cX2_wordsWith 1 = .ok (.ifCond .lt 18, 3) := by decide +kernel
theorem dX2_wordsWith_4 : decode cX2_wordsWith 4 = .ok (.iload_n 1, 1) := by decide +kernel
theorem dX2_wordsWith_5 : decode cX2_wordsWith 5 = .ok (.iconst 4, 1) := by decide +kernel
theorem dX2_wordsWith_6 : decode cX2_wordsWith 6 = .ok (.if_icmp .gt 13, 3) := by decide +kernel
theorem dX2_wordsWith_9 : decode cX2_wordsWith 9 = .ok (.iload_n 2, 1) := by decide +kernel
theorem dX2_wordsWith_10 : decode cX2_wordsWith 10 = .ok (.ifCond .lt 9, 3) := by decide +kernel
theorem dX2_wordsWith_13 : decode cX2_wordsWith 13 = .ok (.iload_n 2, 1) := by decide +kernel
theorem dX2_wordsWith_14 : decode cX2_wordsWith 14 = .ok (.bipush 20, 2) := by decide +kernel
theorem dX2_wordsWith_16 : decode cX2_wordsWith 16 = .ok (.if_icmp .le 5, 3) := by decide +kernel
theorem dX2_wordsWith_19 : decode cX2_wordsWith 19 = .ok (.iconst 0, 1) := by decide +kernel
theorem dX2_wordsWith_20 : decode cX2_wordsWith 20 = .ok (.ireturn, 1) := by decide +kernel
theorem dX2_wordsWith_21 : decode cX2_wordsWith 21 = .ok (.aload_n 0, 1) := by decide +kernel
theorem dX2_wordsWith_22 : decode cX2_wordsWith 22 = .ok (.getfield 13, 3) := by decide +kernel
theorem dX2_wordsWith_25 : decode cX2_wordsWith 25 = .ok (.iload_n 1, 1) := by decide +kernel
theorem dX2_wordsWith_26 : decode cX2_wordsWith 26 = .ok (.aaload, 1) := by decide +kernel
theorem dX2_wordsWith_27 : decode cX2_wordsWith 27 = .ok (.iload_n 2, 1) := by decide +kernel
theorem dX2_wordsWith_28 : decode cX2_wordsWith 28 = .ok (.iaload, 1) := by decide +kernel
theorem dX2_wordsWith_29 : decode cX2_wordsWith 29 = .ok (.ireturn, 1) := by decide +kernel
theorem dX3_init_0 : decode cX3_init 0 = .ok (.aload_n 0, 1) := by decide +kernel
theorem dX3_init_1 : decode cX3_init 1 = .ok (.invokespecial 1, 3) := by decide +kernel
theorem dX3_init_4 : decode cX3_init 4 = .ok (.aload_n 0, 1) := by decide +kernel
theorem dX3_init_5 : decode cX3_init 5 = .ok (.new 7, 3) := by decide +kernel
theorem dX3_init_8 : decode cX3_init 8 = .ok (.dup, 1) := by decide +kernel
theorem dX3_init_9 : decode cX3_init 9 = .ok (.invokespecial 9, 3) := by decide +kernel
theorem dX3_init_12 : decode cX3_init 12 = .ok (.putfield 10, 3) := by decide +kernel
theorem dX3_init_15 : decode cX3_init 15 = .ok (.aload_n 0, 1) := by decide +kernel
theorem dX3_init_16 : decode cX3_init 16 = .ok (.iconst 3, 1) := by decide +kernel
theorem dX3_init_17 : decode cX3_init 17 = .ok (.anewarray 16, 3) := by decide +kernel
theorem dX3_init_20 : decode cX3_init 20 = .ok (.putfield 18, 3) := by decide +kernel
theorem dX3_init_23 : decode cX3_init 23 = .ok (.iconst 0, 1) := by decide +kernel
theorem dX3_init_24 : decode cX3_init 24 = .ok (.istore_n 1, 1) := by decide +kernel
theorem dX3_init_25 : decode cX3_init 25 = .ok (.iload_n 1, 1) := by decide +kernel
theorem dX3_init_26 : decode cX3_init 26 = .ok (.aload_n 0, 1) := by decide +kernel
theorem dX3_init_27 : decode cX3_init 27 = .ok (.getfield 18, 3) := by decide +kernel
theorem dX3_init_30 : decode cX3_init 30 = .ok (.arraylength, 1) := by decide +kernel
theorem dX3_init_31 : decode cX3_init 31 = .ok (.if_icmp .ge 22, 3) := by decide +kernel
theorem dX3_init_34 : decode cX3_init 34 = .ok (.aload_n 0, 1) := by decide +kernel
theorem dX3_init_35 : decode cX3_init 35 = .ok (.getfield 18, 3) := by decide +kernel
theorem dX3_init_38 : decode cX3_init 38 = .ok (.iload_n 1, 1) := by decide +kernel
theorem dX3_init_39 : decode cX3_init 39 = .ok (.new 16, 3) := by decide +kernel
theorem dX3_init_42 : decode cX3_init 42 = .ok (.dup, 1) := by decide +kernel
theorem dX3_init_43 : decode cX3_init 43 = .ok (.invokespecial 22, 3) := by decide +kernel
theorem dX3_init_46 : decode cX3_init 46 = .ok (.aastore, 1) := by decide +kernel
theorem dX3_init_47 : decode cX3_init 47 = .ok (.iinc 1 1, 3) := by decide +kernel
theorem dX3_init_50 : decode cX3_init 50 = .ok (.goto (-25), 3) := by decide +kernel
theorem dX3_init_53 : decode cX3_init 53 = .ok (.aload_n 0, 1) := by decide +kernel
theorem dX3_init_54 : decode cX3_init 54 = .ok (.new 23, 3) := by decide +kernel
theorem dX3_init_57 : decode cX3_init 57 = .ok (.dup, 1) := by decide +kernel
theorem dX3_init_58 : decode cX3_init 58 = .ok (.invokespecial 25, 3) := by decide +kernel
theorem dX3_init_61 : decode cX3_init 61 = .ok (.putfield 26, 3) := by decide +kernel
theorem dX3_init_64 : decode cX3_init 64 = .ok (.aload_n 0, 1) := by decide +kernel
theorem dX3_init_65 : decode cX3_init 65 = .ok (.new 30, 3) := by decide +kernel
theorem dX3_init_68 : decode cX3_init 68 = .ok (.dup, 1) := by decide +kernel
theorem dX3_init_69 : decode cX3_init 69 = .ok (.iconst 0, 1) := by decide +kernel
theorem dX3_init_70 : decode cX3_init 70 = .ok (.invokespecial 32, 3) := by decide +kernel
theorem dX3_init_73 : decode cX3_init 73 = .ok (.putfield 35, 3) := by decide +kernel
theorem dX3_init_76 : decode cX3_init 76 = .ok (.aload_n 0, 1) := by decide +kernel
theorem dX3_init_77 : decode cX3_init 77 = .ok (.iconst 0, 1) := by decide +kernel
theorem dX3_init_78 : decode cX3_init 78 = .ok (.putfield 39, 3) := by decide +kernel
theorem dX3_init_81 : decode cX3_init 81 = .ok (.aload_n 0, 1) := by decide +kernel
theorem dX3_init_82 : decode cX3_init 82 = .ok (.iconst 0, 1) := by decide +kernel
theorem dX3_init_83 : decode cX3_init 83 = .ok (.putfield 43, 3) := by decide +kernel
theorem dX3_init_86 : decode cX3_init 86 = .ok (.return_, 1) := by decide +kernel
theorem dX3_lock_0 : decode cX3_lock 0 = .ok (.iload_n 1, 1) := by decide +kernel
theorem dX3_lock_1 : decode cX3_lock 1 = .ok (.invokestatic 46, 3) := by decide +kernel
theorem dX3_lock_4 : decode cX3_lock 4 = .ok (.aload_n 0, 1) := by decide +kernel
theorem dX3_lock_5 : decode cX3_lock 5 = .ok (.getfield 10, 3) := by decide +kernel
theorem dX3_lock_8 : decode cX3_lock 8 = .ok (.invokevirtual 49, 3) := by decide +kernel
theorem dX3_lock_11 : decode cX3_lock 11 = .ok (.bipush 8, 2) := by decide +kernel
theorem dX3_lock_13 : decode cX3_lock 13 = .ok (.if_icmp .lt 13, 3) := by decide +kernel
theorem dX3_lock_16 : decode cX3_lock 16 = .ok (.new 53, 3) := by decide +kernel
theorem dX3_lock_19 : decode cX3_lock 19 = .ok (.dup, 1) := by decide +kernel
theorem dX3_lock_20 : decode cX3_lock 20 = .ok (.ldc 55, 2) := by decide +kernel
theorem dX3_lock_22 : decode cX3_lock 22 = .ok (.invokespecial 57, 3) := by decide +kernel
theorem dX3_lock_25 : decode cX3_lock 25 = .ok (.athrow, 1) := by decide +kernel
theorem dX3_lock_26 : decode cX3_lock 26 = .ok (.aload_n 0, 1) := by decide +kernel
theorem dX3_lock_27 : decode cX3_lock 27 = .ok (.getfield 10, 3) := by decide +kernel
theorem dX3_lock_30 : decode cX3_lock 30 = .ok (.new 30, 3) := by decide +kernel
theorem dX3_lock_33 : decode cX3_lock 33 = .ok (.dup, 1) := by decide +kernel
theorem dX3_lock_34 : decode cX3_lock 34 = .ok (.iload_n 1, 1) := by decide +kernel
theorem dX3_lock_35 : decode cX3_lock 35 = .ok (.invokespecial 32, 3) := by decide +kernel
theorem dX3_lock_38 : decode cX3_lock 38 = .ok (.invokevirtual 60, 3) := by decide +kernel
theorem dX3_lock_41 : decode cX3_lock 41 = .ok (.pop, 1) := by decide +kernel
theorem dX3_lock_42 : decode cX3_lock 42 = .ok (.aload_n 0, 1) := by decide +kernel
theorem dX3_lock_43 : decode cX3_lock 43 = .ok (.getfield 10, 3) := by decide +kernel
theorem dX3_lock_46 : decode cX3_lock 46 = .ok (.invokevirtual 49, 3) := by decide +kernel
theorem dX3_lock_49 : decode cX3_lock 49 = .ok (.iconst 1, 1) := by decide +kernel
theorem dX3_lock_50 : decode cX3_lock 50 = .ok (.isub, 1) := by decide +kernel
theorem dX3_lock_51 : decode cX3_lock 51 = .ok (.ireturn, 1) := by decide +kernel
theorem dX3_turn_0 : decode cX3_turn 0 = .ok (.aload_n 0, 1) := by decide +kernel
theorem dX3_turn_1 : decode cX3_turn 1 = .ok (.iload_n 1, 1) := by decide +kernel
theorem dX3_turn_2 : decode cX3_turn 2 = .ok (.invokevirtual 64, 3) := by decide +kernel
theorem dX3_turn_5 : decode cX3_turn 5 = .ok (.astore 4, 2) := by decide +kernel
theorem dX3_turn_7 : decode cX3_turn 7 = .ok (.iload_n 2, 1) := by decide +kernel
theorem dX3_turn_8 : decode cX3_turn 8 = .ok (.invokestatic 68, 3) := by decide +kernel
theorem dX3_turn_11 : decode cX3_turn 11 = .ok (.iload_n 3, 1) := by decide +kernel
theorem dX3_turn_12 : decode cX3_turn 12 = .ok (.invokestatic 71, 3) := by decide +kernel
theorem dX3_turn_15 : decode cX3_turn 15 = .ok (.ifCond .ne 13, 3) := by decide +kernel
theorem dX3_turn_18 : decode cX3_turn 18 = .ok (.new 75, 3) := by decide +kernel
theorem dX3_turn_21 : decode cX3_turn 21 = .ok (.dup, 1) := by decide +kernel
theorem dX3_turn_22 : decode cX3_turn 22 = .ok (.ldc 77, 2) := by decide +kernel
theorem dX3_turn_24 : decode cX3_turn 24 = .ok (.invokespecial 79, 3) := by decide +kernel
theorem dX3_turn_27 : decode cX3_turn 27 = .ok (.athrow, 1) := by decide +kernel
theorem dX3_turn_28 : decode cX3_turn 28 = .ok (.aload 4, 2) := by decide +kernel
theorem dX3_turn_30 : decode cX3_turn 30 = .ok (.iload_n 2, 1) := by decide +kernel
theorem dX3_turn_31 : decode cX3_turn 31 = .ok (.invokevirtual 80, 3) := by decide +kernel
theorem dX3_turn_34 : decode cX3_turn 34 = .ok (.iload_n 3, 1) := by decide +kernel
theorem dX3_turn_35 : decode cX3_turn 35 = .ok (.invokestatic 84, 3) := by decide +kernel
theorem dX3_turn_38 : decode cX3_turn 38 = .ok (.istore 5, 2) := by decide +kernel
theorem dX3_turn_40 : decode cX3_turn 40 = .ok (.aload 4, 2) := by decide +kernel
theorem dX3_turn_42 : decode cX3_turn 42 = .ok (.iload_n 2, 1) := by decide +kernel
theorem dX3_turn_43 : decode cX3_turn 43 = .ok (.iload_n 3, 1) := by decide +kernel
theorem dX3_turn_44 : decode cX3_turn 44 = .ok (.invokevirtual 88, 3) := by decide +kernel
theorem dX3_turn_47 : decode cX3_turn 47 = .ok (.aload_n 0, 1) := by decide +kernel
theorem dX3_turn_48 : decode cX3_turn 48 = .ok (.dup, 1) := by decide +kernel
theorem dX3_turn_49 : decode cX3_turn 49 = .ok (.getfield 43, 3) := by decide +kernel
theorem dX3_turn_52 : decode cX3_turn 52 = .ok (.iload 5, 2) := by decide +kernel
theorem dX3_turn_54 : decode cX3_turn 54 = .ok (.iadd, 1) := by decide +kernel
theorem dX3_turn_55 : decode cX3_turn 55 = .ok (.putfield 43, 3) := by decide +kernel
theorem dX3_turn_58 : decode cX3_turn 58 = .ok (.iload 5, 2) := by decide +kernel
theorem dX3_turn_60 : decode cX3_turn 60 = .ok (.ireturn, 1) := by decide +kernel
theorem dX3_open_0 : decode cX3_open 0 = .ok (.aload_n 0, 1) := by decide +kernel
theorem dX3_open_1 : decode cX3_open 1 = .ok (.iload_n 1, 1) := by decide +kernel
theorem dX3_open_2 : decode cX3_open 2 = .ok (.invokevirtual 64, 3) := by decide +kernel
theorem dX3_open_5 : decode cX3_open 5 = .ok (.astore_n 2, 1) := by decide +kernel
theorem dX3_open_6 : decode cX3_open 6 = .ok (.aload_n 2, 1) := by decide +kernel
theorem dX3_open_7 : decode cX3_open 7 = .ok (.invokevirtual 92, 3) := by decide +kernel
theorem dX3_open_10 : decode cX3_open 10 = .ok (.aload_n 2, 1) := by decide +kernel
theorem dX3_open_11 : decode cX3_open 11 = .ok (.getfield 95, 3) := by decide +kernel
theorem dX3_open_14 : decode cX3_open 14 = .ok (.if_icmp .ne 8, 3) := by decide +kernel
theorem dX3_open_17 : decode cX3_open 17 = .ok (.aload_n 2, 1) := by decide +kernel
theorem dX3_open_18 : decode cX3_open 18 = .ok (.iconst 1, 1) := by decide +kernel
theorem dX3_open_19 : decode cX3_open 19 = .ok (.putfield 98, 3) := by decide +kernel
theorem dX3_open_22 : decode cX3_open 22 = .ok (.aload_n 2, 1) := by decide +kernel
theorem dX3_open_23 : decode cX3_open 23 = .ok (.getfield 98, 3) := by decide +kernel
theorem dX3_open_26 : decode cX3_open 26 = .ok (.ireturn, 1) := by decide +kernel
theorem dX3_shut_0 : decode cX3_shut 0 = .ok (.aload_n 0, 1) := by decide +kernel
theorem dX3_shut_1 : decode cX3_shut 1 = .ok (.iload_n 1, 1) := by decide +kernel
theorem dX3_shut_2 : decode cX3_shut 2 = .ok (.invokevirtual 64, 3) := by decide +kernel
theorem dX3_shut_5 : decode cX3_shut 5 = .ok (.astore_n 2, 1) := by decide +kernel
theorem dX3_shut_6 : decode cX3_shut 6 = .ok (.aload_n 2, 1) := by decide +kernel
theorem dX3_shut_7 : decode cX3_shut 7 = .ok (.invokestatic 102, 3) := by decide +kernel
theorem dX3_shut_10 : decode cX3_shut 10 = .ok (.aload_n 2, 1) := by decide +kernel
theorem dX3_shut_11 : decode cX3_shut 11 = .ok (.invokevirtual 106, 3) := by decide +kernel
theorem dX3_shut_14 : decode cX3_shut 14 = .ok (.aload_n 2, 1) := by decide +kernel
theorem dX3_shut_15 : decode cX3_shut 15 = .ok (.invokevirtual 92, 3) := by decide +kernel
theorem dX3_shut_18 : decode cX3_shut 18 = .ok (.ireturn, 1) := by decide +kernel
theorem dX3_rename_0 : decode cX3_rename 0 = .ok (.aload_n 0, 1) := by decide +kernel
theorem dX3_rename_1 : decode cX3_rename 1 = .ok (.iload_n 1, 1) := by decide +kernel
theorem dX3_rename_2 : decode cX3_rename 2 = .ok (.invokevirtual 64, 3) := by decide +kernel
theorem dX3_rename_5 : decode cX3_rename 5 = .ok (.astore_n 3, 1) := by decide +kernel
theorem dX3_rename_6 : decode cX3_rename 6 = .ok (.iload_n 2, 1) := by decide +kernel
theorem dX3_rename_7 : decode cX3_rename 7 = .ok (.invokestatic 46, 3) := by decide +kernel
theorem dX3_rename_10 : decode cX3_rename 10 = .ok (.aload_n 3, 1) := by decide +kernel
theorem dX3_rename_11 : decode cX3_rename 11 = .ok (.invokestatic 102, 3) := by decide +kernel
theorem dX3_rename_14 : decode cX3_rename 14 = .ok (.aload_n 3, 1) := by decide +kernel
theorem dX3_rename_15 : decode cX3_rename 15 = .ok (.getfield 95, 3) := by decide +kernel
theorem dX3_rename_18 : decode cX3_rename 18 = .ok (.istore 4, 2) := by decide +kernel
theorem dX3_rename_20 : decode cX3_rename 20 = .ok (.aload_n 3, 1) := by decide +kernel
theorem dX3_rename_21 : decode cX3_rename 21 = .ok (.iload_n 2, 1) := by decide +kernel
theorem dX3_rename_22 : decode cX3_rename 22 = .ok (.putfield 95, 3) := by decide +kernel
theorem dX3_rename_25 : decode cX3_rename 25 = .ok (.aload_n 3, 1) := by decide +kernel
theorem dX3_rename_26 : decode cX3_rename 26 = .ok (.iconst 0, 1) := by decide +kernel
theorem dX3_rename_27 : decode cX3_rename 27 = .ok (.putfield 109, 3) := by decide +kernel
theorem dX3_rename_30 : decode cX3_rename 30 = .ok (.iload 4, 2) := by decide +kernel
theorem dX3_rename_32 : decode cX3_rename 32 = .ok (.ireturn, 1) := by decide +kernel
theorem dX3_lose_0 : decode cX3_lose 0 = .ok (.aload_n 0, 1) := by decide +kernel
theorem dX3_lose_1 : decode cX3_lose 1 = .ok (.iload_n 1, 1) := by decide +kernel
theorem dX3_lose_2 : decode cX3_lose 2 = .ok (.invokevirtual 64, 3) := by decide +kernel
theorem dX3_lose_5 : decode cX3_lose 5 = .ok (.astore_n 3, 1) := by decide +kernel
theorem dX3_lose_6 : decode cX3_lose 6 = .ok (.aload_n 3, 1) := by decide +kernel
theorem dX3_lose_7 : decode cX3_lose 7 = .ok (.getfield 109, 3) := by decide +kernel
theorem dX3_lose_10 : decode cX3_lose 10 = .ok (.istore 4, 2) := by decide +kernel
theorem dX3_lose_12 : decode cX3_lose 12 = .ok (.aload_n 3, 1) := by decide +kernel
theorem dX3_lose_13 : decode cX3_lose 13 = .ok (.iload_n 2, 1) := by decide +kernel
theorem dX3_lose_14 : decode cX3_lose 14 = .ok (.putfield 109, 3) := by decide +kernel
theorem dX3_lose_17 : decode cX3_lose 17 = .ok (.iload 4, 2) := by decide +kernel
theorem dX3_lose_19 : decode cX3_lose 19 = .ok (.ireturn, 1) := by decide +kernel
theorem dX3_setPlaces_0 : decode cX3_setPlaces 0 = .ok (.aload_n 0, 1) := by decide +kernel
theorem dX3_setPlaces_1 : decode cX3_setPlaces 1 = .ok (.iload_n 1, 1) := by decide +kernel
theorem dX3_setPlaces_2 : decode cX3_setPlaces 2 = .ok (.invokevirtual 112, 3) := by decide +kernel
theorem dX3_setPlaces_5 : decode cX3_setPlaces 5 = .ok (.astore_n 3, 1) := by decide +kernel
theorem dX3_setPlaces_6 : decode cX3_setPlaces 6 = .ok (.iload_n 2, 1) := by decide +kernel
theorem dX3_setPlaces_7 : decode cX3_setPlaces 7 = .ok (.iconst 1, 1) := by decide +kernel
theorem dX3_setPlaces_8 : decode cX3_setPlaces 8 = .ok (.if_icmp .lt 9, 3) := by decide +kernel
theorem dX3_setPlaces_11 : decode cX3_setPlaces 11 = .ok (.iload_n 2, 1) := by decide +kernel
theorem dX3_setPlaces_12 : decode cX3_setPlaces 12 = .ok (.bipush 6, 2) := by decide +kernel
theorem dX3_setPlaces_14 : decode cX3_setPlaces 14 = .ok (.if_icmp .le 13, 3) := by decide +kernel
theorem dX3_setPlaces_17 : decode cX3_setPlaces 17 = .ok (.new 75, 3) := by decide +kernel
theorem dX3_setPlaces_20 : decode cX3_setPlaces 20 = .ok (.dup, 1) := by decide +kernel
theorem dX3_setPlaces_21 : decode cX3_setPlaces 21 = .ok (.ldc 116, 2) := by decide +kernel
theorem dX3_setPlaces_23 : decode cX3_setPlaces 23 = .ok (.invokespecial 79, 3) := by decide +kernel
theorem dX3_setPlaces_26 : decode cX3_setPlaces 26 = .ok (.athrow, 1) := by decide +kernel
theorem dX3_setPlaces_27 : decode cX3_setPlaces 27 = .ok (.aload_n 0, 1) := by decide +kernel
theorem dX3_setPlaces_28 : decode cX3_setPlaces 28 = .ok (.iload_n 1, 1) := by decide +kernel
theorem dX3_setPlaces_29 : decode cX3_setPlaces 29 = .ok (.invokevirtual 118, 3) := by decide +kernel
theorem dX3_setPlaces_32 : decode cX3_setPlaces 32 = .ok (.iload_n 2, 1) := by decide +kernel
theorem dX3_setPlaces_33 : decode cX3_setPlaces 33 = .ok (.if_icmp .le 13, 3) := by decide +kernel
theorem dX3_setPlaces_36 : decode cX3_setPlaces 36 = .ok (.new 53, 3) := by decide +kernel
theorem dX3_setPlaces_39 : decode cX3_setPlaces 39 = .ok (.dup, 1) := by decide +kernel
theorem dX3_setPlaces_40 : decode cX3_setPlaces 40 = .ok (.ldc 121, 2) := by decide +kernel
theorem dX3_setPlaces_42 : decode cX3_setPlaces 42 = .ok (.invokespecial 57, 3) := by decide +kernel
theorem dX3_setPlaces_45 : decode cX3_setPlaces 45 = .ok (.athrow, 1) := by decide +kernel
theorem dX3_setPlaces_46 : decode cX3_setPlaces 46 = .ok (.aload_n 3, 1) := by decide +kernel
theorem dX3_setPlaces_47 : decode cX3_setPlaces 47 = .ok (.getfield 123, 3) := by decide +kernel
theorem dX3_setPlaces_50 : decode cX3_setPlaces 50 = .ok (.istore 4, 2) := by decide +kernel
theorem dX3_setPlaces_52 : decode cX3_setPlaces 52 = .ok (.aload_n 3, 1) := by decide +kernel
theorem dX3_setPlaces_53 : decode cX3_setPlaces 53 = .ok (.iload_n 2, 1) := by decide +kernel
theorem dX3_setPlaces_54 : decode cX3_setPlaces 54 = .ok (.putfield 123, 3) := by decide +kernel
theorem dX3_setPlaces_57 : decode cX3_setPlaces 57 = .ok (.iload 4, 2) := by decide +kernel
theorem dX3_setPlaces_59 : decode cX3_setPlaces 59 = .ok (.ireturn, 1) := by decide +kernel
theorem dX3_setHours_0 : decode cX3_setHours 0 = .ok (.aload_n 0, 1) := by decide +kernel
theorem dX3_setHours_1 : decode cX3_setHours 1 = .ok (.iload_n 1, 1) := by decide +kernel
theorem dX3_setHours_2 : decode cX3_setHours 2 = .ok (.invokevirtual 112, 3) := by decide +kernel
theorem dX3_setHours_5 : decode cX3_setHours 5 = .ok (.astore 4, 2) := by decide +kernel
theorem dX3_setHours_7 : decode cX3_setHours 7 = .ok (.iload_n 2, 1) := by decide +kernel
theorem dX3_setHours_8 : decode cX3_setHours 8 = .ok (.ifCond .lt 19, 3) := by decide +kernel
theorem dX3_setHours_11 : decode cX3_setHours 11 = .ok (.iload_n 2, 1) := by decide +kernel
theorem dX3_setHours_12 : decode cX3_setHours 12 = .ok (.bipush 24, 2) := by decide +kernel
theorem dX3_setHours_14 : decode cX3_setHours 14 = .ok (.if_icmp .ge 13, 3) := by decide +kernel
theorem dX3_setHours_17 : decode cX3_setHours 17 = .ok (.iload_n 3, 1) := by decide +kernel
theorem dX3_setHours_18 : decode cX3_setHours 18 = .ok (.ifCond .lt 9, 3) := by decide +kernel
theorem dX3_setHours_21 : decode cX3_setHours 21 = .ok (.iload_n 3, 1) := by decide +kernel
theorem dX3_setHours_22 : decode cX3_setHours 22 = .ok (.bipush 24, 2) := by decide +kernel
theorem dX3_setHours_24 : decode cX3_setHours 24 = .ok (.if_icmp .le 13, 3) := by decide +kernel
theorem dX3_setHours_27 : decode cX3_setHours 27 = .ok (.new 75, 3) := by decide +kernel
theorem dX3_setHours_30 : decode cX3_setHours 30 = .ok (.dup, 1) := by decide +kernel
theorem dX3_setHours_31 : decode cX3_setHours 31 = .ok (.ldc 126, 2) := by decide +kernel
theorem dX3_setHours_33 : decode cX3_setHours 33 = .ok (.invokespecial 79, 3) := by decide +kernel
theorem dX3_setHours_36 : decode cX3_setHours 36 = .ok (.athrow, 1) := by decide +kernel
theorem dX3_setHours_37 : decode cX3_setHours 37 = .ok (.bipush 25, 2) := by decide +kernel
theorem dX3_setHours_39 : decode cX3_setHours 39 = .ok (.aload 4, 2) := by decide +kernel
theorem dX3_setHours_41 : decode cX3_setHours 41 = .ok (.getfield 128, 3) := by decide +kernel
theorem dX3_setHours_44 : decode cX3_setHours 44 = .ok (.imul, 1) := by decide +kernel
theorem dX3_setHours_45 : decode cX3_setHours 45 = .ok (.aload 4, 2) := by decide +kernel
theorem dX3_setHours_47 : decode cX3_setHours 47 = .ok (.getfield 131, 3) := by decide +kernel
theorem dX3_setHours_50 : decode cX3_setHours 50 = .ok (.iadd, 1) := by decide +kernel
theorem dX3_setHours_51 : decode cX3_setHours 51 = .ok (.istore 5, 2) := by decide +kernel
theorem dX3_setHours_53 : decode cX3_setHours 53 = .ok (.aload 4, 2) := by decide +kernel
theorem dX3_setHours_55 : decode cX3_setHours 55 = .ok (.iload_n 2, 1) := by decide +kernel
theorem dX3_setHours_56 : decode cX3_setHours 56 = .ok (.putfield 128, 3) := by decide +kernel
theorem dX3_setHours_59 : decode cX3_setHours 59 = .ok (.aload 4, 2) := by decide +kernel
theorem dX3_setHours_61 : decode cX3_setHours 61 = .ok (.iload_n 3, 1) := by decide +kernel
theorem dX3_setHours_62 : decode cX3_setHours 62 = .ok (.putfield 131, 3) := by decide +kernel
theorem dX3_setHours_65 : decode cX3_setHours 65 = .ok (.iload 5, 2) := by decide +kernel
theorem dX3_setHours_67 : decode cX3_setHours 67 = .ok (.ireturn, 1) := by decide +kernel
theorem dX3_put_0 : decode cX3_put 0 = .ok (.aload_n 0, 1) := by decide +kernel
theorem dX3_put_1 : decode cX3_put 1 = .ok (.iload_n 1, 1) := by decide +kernel
theorem dX3_put_2 : decode cX3_put 2 = .ok (.invokevirtual 64, 3) := by decide +kernel
theorem dX3_put_5 : decode cX3_put 5 = .ok (.astore_n 3, 1) := by decide +kernel
theorem dX3_put_6 : decode cX3_put 6 = .ok (.iload_n 2, 1) := by decide +kernel
theorem dX3_put_7 : decode cX3_put 7 = .ok (.iconst (-1), 1) := by decide +kernel
theorem dX3_put_8 : decode cX3_put 8 = .ok (.if_icmp .eq 21, 3) := by decide +kernel
theorem dX3_put_11 : decode cX3_put 11 = .ok (.aload_n 0, 1) := by decide +kernel
theorem dX3_put_12 : decode cX3_put 12 = .ok (.iload_n 2, 1) := by decide +kernel
theorem dX3_put_13 : decode cX3_put 13 = .ok (.invokevirtual 134, 3) := by decide +kernel
theorem dX3_put_16 : decode cX3_put 16 = .ok (.ifCond .ne 13, 3) := by decide +kernel
theorem dX3_put_19 : decode cX3_put 19 = .ok (.new 137, 3) := by decide +kernel
theorem dX3_put_22 : decode cX3_put 22 = .ok (.dup, 1) := by decide +kernel
theorem dX3_put_23 : decode cX3_put 23 = .ok (.ldc 139, 2) := by decide +kernel
theorem dX3_put_25 : decode cX3_put 25 = .ok (.invokespecial 141, 3) := by decide +kernel
theorem dX3_put_28 : decode cX3_put 28 = .ok (.athrow, 1) := by decide +kernel
theorem dX3_put_29 : decode cX3_put 29 = .ok (.aload_n 3, 1) := by decide +kernel
theorem dX3_put_30 : decode cX3_put 30 = .ok (.getfield 142, 3) := by decide +kernel
theorem dX3_put_33 : decode cX3_put 33 = .ok (.istore 4, 2) := by decide +kernel
theorem dX3_put_35 : decode cX3_put 35 = .ok (.iload_n 2, 1) := by decide +kernel
theorem dX3_put_36 : decode cX3_put 36 = .ok (.iload 4, 2) := by decide +kernel
theorem dX3_put_38 : decode cX3_put 38 = .ok (.if_icmp .ne 6, 3) := by decide +kernel
theorem dX3_put_41 : decode cX3_put 41 = .ok (.iload 4, 2) := by decide +kernel
theorem dX3_put_43 : decode cX3_put 43 = .ok (.ireturn, 1) := by decide +kernel
theorem dX3_put_44 : decode cX3_put 44 = .ok (.aload_n 3, 1) := by decide +kernel
theorem dX3_put_45 : decode cX3_put 45 = .ok (.invokestatic 102, 3) := by decide +kernel
theorem dX3_put_48 : decode cX3_put 48 = .ok (.iload_n 2, 1) := by decide +kernel
theorem dX3_put_49 : decode cX3_put 49 = .ok (.iconst (-1), 1) := by decide +kernel
theorem dX3_put_50 : decode cX3_put 50 = .ok (.if_icmp .eq 21, 3) := by decide +kernel
theorem dX3_put_53 : decode cX3_put 53 = .ok (.aload_n 0, 1) := by decide +kernel
theorem dX3_put_54 : decode cX3_put 54 = .ok (.iload_n 2, 1) := by decide +kernel
theorem dX3_put_55 : decode cX3_put 55 = .ok (.invokevirtual 145, 3) := by decide +kernel
theorem dX3_put_58 : decode cX3_put 58 = .ok (.ifCond .ne 13, 3) := by decide +kernel
theorem dX3_put_61 : decode cX3_put 61 = .ok (.new 53, 3) := by decide +kernel
theorem dX3_put_64 : decode cX3_put 64 = .ok (.dup, 1) := by decide +kernel
theorem dX3_put_65 : decode cX3_put 65 = .ok (.ldc 148, 2) := by decide +kernel
theorem dX3_put_67 : decode cX3_put 67 = .ok (.invokespecial 57, 3) := by decide +kernel
theorem dX3_put_70 : decode cX3_put 70 = .ok (.athrow, 1) := by decide +kernel
theorem dX3_put_71 : decode cX3_put 71 = .ok (.aload_n 3, 1) := by decide +kernel
theorem dX3_put_72 : decode cX3_put 72 = .ok (.iload_n 2, 1) := by decide +kernel
theorem dX3_put_73 : decode cX3_put 73 = .ok (.putfield 142, 3) := by decide +kernel
theorem dX3_put_76 : decode cX3_put 76 = .ok (.iload 4, 2) := by decide +kernel
theorem dX3_put_78 : decode cX3_put 78 = .ok (.ireturn, 1) := by decide +kernel
theorem dX3_told_0 : decode cX3_told 0 = .ok (.aload_n 0, 1) := by decide +kernel
theorem dX3_told_1 : decode cX3_told 1 = .ok (.iload_n 1, 1) := by decide +kernel
theorem dX3_told_2 : decode cX3_told 2 = .ok (.invokevirtual 64, 3) := by decide +kernel
theorem dX3_told_5 : decode cX3_told 5 = .ok (.astore_n 3, 1) := by decide +kernel
theorem dX3_told_6 : decode cX3_told 6 = .ok (.iload_n 2, 1) := by decide +kernel
theorem dX3_told_7 : decode cX3_told 7 = .ok (.tableswitch 94 0 5 #[37, 42, 55, 60, 73, 78], 37) := by decide +kernel
theorem dX3_told_44 : decode cX3_told 44 = .ok (.aload_n 3, 1) := by decide +kernel
theorem dX3_told_45 : decode cX3_told 45 = .ok (.invokevirtual 92, 3) := by decide +kernel
theorem dX3_told_48 : decode cX3_told 48 = .ok (.ireturn, 1) := by decide +kernel
theorem dX3_told_49 : decode cX3_told 49 = .ok (.aload_n 3, 1) := by decide +kernel
theorem dX3_told_50 : decode cX3_told 50 = .ok (.getfield 98, 3) := by decide +kernel
theorem dX3_told_53 : decode cX3_told 53 = .ok (.ifCond .eq 7, 3) := by decide +kernel
theorem dX3_told_56 : decode cX3_told 56 = .ok (.iconst 1, 1) := by decide +kernel
theorem dX3_told_57 : decode cX3_told 57 = .ok (.goto 4, 3) := by decide +kernel
theorem dX3_told_60 : decode cX3_told 60 = .ok (.iconst 0, 1) := by decide +kernel
theorem dX3_told_61 : decode cX3_told 61 = .ok (.ireturn, 1) := by decide +kernel
theorem dX3_told_62 : decode cX3_told 62 = .ok (.aload_n 3, 1) := by decide +kernel
theorem dX3_told_63 : decode cX3_told 63 = .ok (.getfield 142, 3) := by decide +kernel
theorem dX3_told_66 : decode cX3_told 66 = .ok (.ireturn, 1) := by decide +kernel
theorem dX3_told_67 : decode cX3_told 67 = .ok (.aload_n 3, 1) := by decide +kernel
theorem dX3_told_68 : decode cX3_told 68 = .ok (.getfield 109, 3) := by decide +kernel
theorem dX3_told_71 : decode cX3_told 71 = .ok (.ifCond .eq 7, 3) := by decide +kernel
theorem dX3_told_74 : decode cX3_told 74 = .ok (.iconst 1, 1) := by decide +kernel
theorem dX3_told_75 : decode cX3_told 75 = .ok (.goto 4, 3) := by decide +kernel
theorem dX3_told_78 : decode cX3_told 78 = .ok (.iconst 0, 1) := by decide +kernel
theorem dX3_told_79 : decode cX3_told 79 = .ok (.ireturn, 1) := by decide +kernel
theorem dX3_told_80 : decode cX3_told 80 = .ok (.aload_n 3, 1) := by decide +kernel
theorem dX3_told_81 : decode cX3_told 81 = .ok (.invokevirtual 150, 3) := by decide +kernel
theorem dX3_told_84 : decode cX3_told 84 = .ok (.ireturn, 1) := by decide +kernel
theorem dX3_told_85 : decode cX3_told 85 = .ok (.aload_n 3, 1) := by decide +kernel
theorem dX3_told_86 : decode cX3_told 86 = .ok (.getfield 109, 3) := by decide +kernel
theorem dX3_told_89 : decode cX3_told 89 = .ok (.ifCond .eq 7, 3) := by decide +kernel
theorem dX3_told_92 : decode cX3_told 92 = .ok (.iconst (-1), 1) := by decide +kernel
theorem dX3_told_93 : decode cX3_told 93 = .ok (.goto 7, 3) := by decide +kernel
theorem dX3_told_96 : decode cX3_told 96 = .ok (.aload_n 3, 1) := by decide +kernel
theorem dX3_told_97 : decode cX3_told 97 = .ok (.getfield 95, 3) := by decide +kernel
theorem dX3_told_100 : decode cX3_told 100 = .ok (.ireturn, 1) := by decide +kernel
theorem dX3_told_101 : decode cX3_told 101 = .ok (.new 137, 3) := by decide +kernel
theorem dX3_told_104 : decode cX3_told 104 = .ok (.dup, 1) := by decide +kernel
theorem dX3_told_105 : decode cX3_told 105 = .ok (.ldc 153, 2) := by decide +kernel
theorem dX3_told_107 : decode cX3_told 107 = .ok (.invokespecial 141, 3) := by decide +kernel
theorem dX3_told_110 : decode cX3_told 110 = .ok (.athrow, 1) := by decide +kernel
theorem dX3_wear_0 : decode cX3_wear 0 = .ok (.aload_n 0, 1) := by decide +kernel
theorem dX3_wear_1 : decode cX3_wear 1 = .ok (.iload_n 1, 1) := by decide +kernel
theorem dX3_wear_2 : decode cX3_wear 2 = .ok (.invokevirtual 64, 3) := by decide +kernel
theorem dX3_wear_5 : decode cX3_wear 5 = .ok (.astore 4, 2) := by decide +kernel
theorem dX3_wear_7 : decode cX3_wear 7 = .ok (.iload_n 2, 1) := by decide +kernel
theorem dX3_wear_8 : decode cX3_wear 8 = .ok (.invokestatic 68, 3) := by decide +kernel
theorem dX3_wear_11 : decode cX3_wear 11 = .ok (.iload_n 3, 1) := by decide +kernel
theorem dX3_wear_12 : decode cX3_wear 12 = .ok (.invokestatic 71, 3) := by decide +kernel
theorem dX3_wear_15 : decode cX3_wear 15 = .ok (.ifCond .ne 13, 3) := by decide +kernel
theorem dX3_wear_18 : decode cX3_wear 18 = .ok (.new 137, 3) := by decide +kernel
theorem dX3_wear_21 : decode cX3_wear 21 = .ok (.dup, 1) := by decide +kernel
theorem dX3_wear_22 : decode cX3_wear 22 = .ok (.ldc 77, 2) := by decide +kernel
theorem dX3_wear_24 : decode cX3_wear 24 = .ok (.invokespecial 141, 3) := by decide +kernel
theorem dX3_wear_27 : decode cX3_wear 27 = .ok (.athrow, 1) := by decide +kernel
theorem dX3_wear_28 : decode cX3_wear 28 = .ok (.aload 4, 2) := by decide +kernel
theorem dX3_wear_30 : decode cX3_wear 30 = .ok (.iload_n 2, 1) := by decide +kernel
theorem dX3_wear_31 : decode cX3_wear 31 = .ok (.iload_n 3, 1) := by decide +kernel
theorem dX3_wear_32 : decode cX3_wear 32 = .ok (.invokevirtual 155, 3) := by decide +kernel
theorem dX3_wear_35 : decode cX3_wear 35 = .ok (.ireturn, 1) := by decide +kernel
theorem dX3_rack_0 : decode cX3_rack 0 = .ok (.aload_n 0, 1) := by decide +kernel
theorem dX3_rack_1 : decode cX3_rack 1 = .ok (.iload_n 1, 1) := by decide +kernel
theorem dX3_rack_2 : decode cX3_rack 2 = .ok (.invokevirtual 112, 3) := by decide +kernel
theorem dX3_rack_5 : decode cX3_rack 5 = .ok (.astore_n 3, 1) := by decide +kernel
theorem dX3_rack_6 : decode cX3_rack 6 = .ok (.iload_n 2, 1) := by decide +kernel
theorem dX3_rack_7 : decode cX3_rack 7 = .ok (.tableswitch 81 0 5 #[37, 42, 48, 65, 71, 76], 37) := by decide +kernel
theorem dX3_rack_44 : decode cX3_rack 44 = .ok (.aload_n 3, 1) := by decide +kernel
theorem dX3_rack_45 : decode cX3_rack 45 = .ok (.getfield 123, 3) := by decide +kernel
theorem dX3_rack_48 : decode cX3_rack 48 = .ok (.ireturn, 1) := by decide +kernel
theorem dX3_rack_49 : decode cX3_rack 49 = .ok (.aload_n 0, 1) := by decide +kernel
theorem dX3_rack_50 : decode cX3_rack 50 = .ok (.iload_n 1, 1) := by decide +kernel
theorem dX3_rack_51 : decode cX3_rack 51 = .ok (.invokevirtual 118, 3) := by decide +kernel
theorem dX3_rack_54 : decode cX3_rack 54 = .ok (.ireturn, 1) := by decide +kernel
theorem dX3_rack_55 : decode cX3_rack 55 = .ok (.aload_n 3, 1) := by decide +kernel
theorem dX3_rack_56 : decode cX3_rack 56 = .ok (.aload_n 0, 1) := by decide +kernel
theorem dX3_rack_57 : decode cX3_rack 57 = .ok (.getfield 39, 3) := by decide +kernel
theorem dX3_rack_60 : decode cX3_rack 60 = .ok (.invokevirtual 158, 3) := by decide +kernel
theorem dX3_rack_63 : decode cX3_rack 63 = .ok (.ifCond .eq 7, 3) := by decide +kernel
theorem dX3_rack_66 : decode cX3_rack 66 = .ok (.iconst 1, 1) := by decide +kernel
theorem dX3_rack_67 : decode cX3_rack 67 = .ok (.goto 4, 3) := by decide +kernel
theorem dX3_rack_70 : decode cX3_rack 70 = .ok (.iconst 0, 1) := by decide +kernel
theorem dX3_rack_71 : decode cX3_rack 71 = .ok (.ireturn, 1) := by decide +kernel
theorem dX3_rack_72 : decode cX3_rack 72 = .ok (.aload_n 0, 1) := by decide +kernel
theorem dX3_rack_73 : decode cX3_rack 73 = .ok (.iload_n 1, 1) := by decide +kernel
theorem dX3_rack_74 : decode cX3_rack 74 = .ok (.invokevirtual 161, 3) := by decide +kernel
theorem dX3_rack_77 : decode cX3_rack 77 = .ok (.ireturn, 1) := by decide +kernel
theorem dX3_rack_78 : decode cX3_rack 78 = .ok (.aload_n 3, 1) := by decide +kernel
theorem dX3_rack_79 : decode cX3_rack 79 = .ok (.getfield 128, 3) := by decide +kernel
theorem dX3_rack_82 : decode cX3_rack 82 = .ok (.ireturn, 1) := by decide +kernel
theorem dX3_rack_83 : decode cX3_rack 83 = .ok (.aload_n 3, 1) := by decide +kernel
theorem dX3_rack_84 : decode cX3_rack 84 = .ok (.getfield 131, 3) := by decide +kernel
theorem dX3_rack_87 : decode cX3_rack 87 = .ok (.ireturn, 1) := by decide +kernel
theorem dX3_rack_88 : decode cX3_rack 88 = .ok (.new 137, 3) := by decide +kernel
theorem dX3_rack_91 : decode cX3_rack 91 = .ok (.dup, 1) := by decide +kernel
theorem dX3_rack_92 : decode cX3_rack 92 = .ok (.ldc 153, 2) := by decide +kernel
theorem dX3_rack_94 : decode cX3_rack 94 = .ok (.invokespecial 141, 3) := by decide +kernel
theorem dX3_rack_97 : decode cX3_rack 97 = .ok (.athrow, 1) := by decide +kernel
theorem dX3_count_0 : decode cX3_count 0 = .ok (.iload_n 1, 1) := by decide +kernel
theorem dX3_count_1 : decode cX3_count 1 = .ok (.tableswitch 81 0 6 #[43, 48, 56, 61, 66, 71, 76], 43) := by decide +kernel
theorem dX3_count_44 : decode cX3_count 44 = .ok (.aload_n 0, 1) := by decide +kernel
theorem dX3_count_45 : decode cX3_count 45 = .ok (.getfield 39, 3) := by decide +kernel
theorem dX3_count_48 : decode cX3_count 48 = .ok (.ireturn, 1) := by decide +kernel
theorem dX3_count_49 : decode cX3_count 49 = .ok (.aload_n 0, 1) := by decide +kernel
theorem dX3_count_50 : decode cX3_count 50 = .ok (.getfield 10, 3) := by decide +kernel
theorem dX3_count_53 : decode cX3_count 53 = .ok (.invokevirtual 49, 3) := by decide +kernel
theorem dX3_count_56 : decode cX3_count 56 = .ok (.ireturn, 1) := by decide +kernel
theorem dX3_count_57 : decode cX3_count 57 = .ok (.aload_n 0, 1) := by decide +kernel
theorem dX3_count_58 : decode cX3_count 58 = .ok (.invokevirtual 164, 3) := by decide +kernel
theorem dX3_count_61 : decode cX3_count 61 = .ok (.ireturn, 1) := by decide +kernel
theorem dX3_count_62 : decode cX3_count 62 = .ok (.aload_n 0, 1) := by decide +kernel
theorem dX3_count_63 : decode cX3_count 63 = .ok (.invokevirtual 167, 3) := by decide +kernel
theorem dX3_count_66 : decode cX3_count 66 = .ok (.ireturn, 1) := by decide +kernel
theorem dX3_count_67 : decode cX3_count 67 = .ok (.aload_n 0, 1) := by decide +kernel
theorem dX3_count_68 : decode cX3_count 68 = .ok (.invokevirtual 170, 3) := by decide +kernel
theorem dX3_count_71 : decode cX3_count 71 = .ok (.ireturn, 1) := by decide +kernel
theorem dX3_count_72 : decode cX3_count 72 = .ok (.aload_n 0, 1) := by decide +kernel
theorem dX3_count_73 : decode cX3_count 73 = .ok (.getfield 43, 3) := by decide +kernel
theorem dX3_count_76 : decode cX3_count 76 = .ok (.ireturn, 1) := by decide +kernel
theorem dX3_count_77 : decode cX3_count 77 = .ok (.aload_n 0, 1) := by decide +kernel
theorem dX3_count_78 : decode cX3_count 78 = .ok (.invokevirtual 173, 3) := by decide +kernel
theorem dX3_count_81 : decode cX3_count 81 = .ok (.ireturn, 1) := by decide +kernel
theorem dX3_count_82 : decode cX3_count 82 = .ok (.new 137, 3) := by decide +kernel
theorem dX3_count_85 : decode cX3_count 85 = .ok (.dup, 1) := by decide +kernel
theorem dX3_count_86 : decode cX3_count 86 = .ok (.ldc 176, 2) := by decide +kernel
theorem dX3_count_88 : decode cX3_count 88 = .ok (.invokespecial 141, 3) := by decide +kernel
theorem dX3_count_91 : decode cX3_count 91 = .ok (.athrow, 1) := by decide +kernel
theorem dX3_apart_0 : decode cX3_apart 0 = .ok (.iload_n 1, 1) := by decide +kernel
theorem dX3_apart_1 : decode cX3_apart 1 = .ok (.invokestatic 46, 3) := by decide +kernel
theorem dX3_apart_4 : decode cX3_apart 4 = .ok (.iload_n 2, 1) := by decide +kernel
theorem dX3_apart_5 : decode cX3_apart 5 = .ok (.invokestatic 46, 3) := by decide +kernel
theorem dX3_apart_8 : decode cX3_apart 8 = .ok (.iconst 0, 1) := by decide +kernel
theorem dX3_apart_9 : decode cX3_apart 9 = .ok (.istore_n 3, 1) := by decide +kernel
theorem dX3_apart_10 : decode cX3_apart 10 = .ok (.iconst 0, 1) := by decide +kernel
theorem dX3_apart_11 : decode cX3_apart 11 = .ok (.istore 4, 2) := by decide +kernel
theorem dX3_apart_13 : decode cX3_apart 13 = .ok (.iload 4, 2) := by decide +kernel
theorem dX3_apart_15 : decode cX3_apart 15 = .ok (.iconst 4, 1) := by decide +kernel
theorem dX3_apart_16 : decode cX3_apart 16 = .ok (.if_icmp .ge 27, 3) := by decide +kernel
theorem dX3_apart_19 : decode cX3_apart 19 = .ok (.iload_n 3, 1) := by decide +kernel
theorem dX3_apart_20 : decode cX3_apart 20 = .ok (.iload_n 1, 1) := by decide +kernel
theorem dX3_apart_21 : decode cX3_apart 21 = .ok (.iload 4, 2) := by decide +kernel
theorem dX3_apart_23 : decode cX3_apart 23 = .ok (.invokestatic 178, 3) := by decide +kernel
theorem dX3_apart_26 : decode cX3_apart 26 = .ok (.iload_n 2, 1) := by decide +kernel
theorem dX3_apart_27 : decode cX3_apart 27 = .ok (.iload 4, 2) := by decide +kernel
theorem dX3_apart_29 : decode cX3_apart 29 = .ok (.invokestatic 178, 3) := by decide +kernel
theorem dX3_apart_32 : decode cX3_apart 32 = .ok (.invokestatic 84, 3) := by decide +kernel
theorem dX3_apart_35 : decode cX3_apart 35 = .ok (.iadd, 1) := by decide +kernel
theorem dX3_apart_36 : decode cX3_apart 36 = .ok (.istore_n 3, 1) := by decide +kernel
theorem dX3_apart_37 : decode cX3_apart 37 = .ok (.iinc 4 1, 3) := by decide +kernel
theorem dX3_apart_40 : decode cX3_apart 40 = .ok (.goto (-27), 3) := by decide +kernel
theorem dX3_apart_43 : decode cX3_apart 43 = .ok (.iload_n 3, 1) := by decide +kernel
theorem dX3_apart_44 : decode cX3_apart 44 = .ok (.ireturn, 1) := by decide +kernel
theorem dX3_trial_0 : decode cX3_trial 0 = .ok (.aload_n 0, 1) := by decide +kernel
theorem dX3_trial_1 : decode cX3_trial 1 = .ok (.iload_n 1, 1) := by decide +kernel
theorem dX3_trial_2 : decode cX3_trial 2 = .ok (.invokevirtual 64, 3) := by decide +kernel
theorem dX3_trial_5 : decode cX3_trial 5 = .ok (.astore_n 3, 1) := by decide +kernel
theorem dX3_trial_6 : decode cX3_trial 6 = .ok (.iload_n 2, 1) := by decide +kernel
theorem dX3_trial_7 : decode cX3_trial 7 = .ok (.invokestatic 46, 3) := by decide +kernel
theorem dX3_trial_10 : decode cX3_trial 10 = .ok (.aload_n 0, 1) := by decide +kernel
theorem dX3_trial_11 : decode cX3_trial 11 = .ok (.getfield 26, 3) := by decide +kernel
theorem dX3_trial_14 : decode cX3_trial 14 = .ok (.aload_n 3, 1) := by decide +kernel
theorem dX3_trial_15 : decode cX3_trial 15 = .ok (.iload_n 2, 1) := by decide +kernel
theorem dX3_trial_16 : decode cX3_trial 16 = .ok (.invokevirtual 181, 3) := by decide +kernel
theorem dX3_trial_19 : decode cX3_trial 19 = .ok (.ireturn, 1) := by decide +kernel
theorem dX3_safe_0 : decode cX3_safe 0 = .ok (.aload_n 0, 1) := by decide +kernel
theorem dX3_safe_1 : decode cX3_safe 1 = .ok (.iload_n 1, 1) := by decide +kernel
theorem dX3_safe_2 : decode cX3_safe 2 = .ok (.invokevirtual 64, 3) := by decide +kernel
theorem dX3_safe_5 : decode cX3_safe 5 = .ok (.astore_n 2, 1) := by decide +kernel
theorem dX3_safe_6 : decode cX3_safe 6 = .ok (.aload_n 0, 1) := by decide +kernel
theorem dX3_safe_7 : decode cX3_safe 7 = .ok (.getfield 26, 3) := by decide +kernel
theorem dX3_safe_10 : decode cX3_safe 10 = .ok (.aload_n 2, 1) := by decide +kernel
theorem dX3_safe_11 : decode cX3_safe 11 = .ok (.aload_n 2, 1) := by decide +kernel
theorem dX3_safe_12 : decode cX3_safe 12 = .ok (.getfield 95, 3) := by decide +kernel
theorem dX3_safe_15 : decode cX3_safe 15 = .ok (.invokevirtual 181, 3) := by decide +kernel
theorem dX3_safe_18 : decode cX3_safe 18 = .ok (.ireturn, 1) := by decide +kernel
theorem dX3_pass_0 : decode cX3_pass 0 = .ok (.iload_n 1, 1) := by decide +kernel
theorem dX3_pass_1 : decode cX3_pass 1 = .ok (.invokestatic 185, 3) := by decide +kernel
theorem dX3_pass_4 : decode cX3_pass 4 = .ok (.iconst 0, 1) := by decide +kernel
theorem dX3_pass_5 : decode cX3_pass 5 = .ok (.istore_n 2, 1) := by decide +kernel
theorem dX3_pass_6 : decode cX3_pass 6 = .ok (.iconst 0, 1) := by decide +kernel
theorem dX3_pass_7 : decode cX3_pass 7 = .ok (.istore_n 3, 1) := by decide +kernel
theorem dX3_pass_8 : decode cX3_pass 8 = .ok (.iload_n 3, 1) := by decide +kernel
theorem dX3_pass_9 : decode cX3_pass 9 = .ok (.iload_n 1, 1) := by decide +kernel
theorem dX3_pass_10 : decode cX3_pass 10 = .ok (.if_icmp .ge 66, 3) := by decide +kernel
theorem dX3_pass_13 : decode cX3_pass 13 = .ok (.iconst 0, 1) := by decide +kernel
theorem dX3_pass_14 : decode cX3_pass 14 = .ok (.istore 4, 2) := by decide +kernel
theorem dX3_pass_16 : decode cX3_pass 16 = .ok (.iload 4, 2) := by decide +kernel
theorem dX3_pass_18 : decode cX3_pass 18 = .ok (.aload_n 0, 1) := by decide +kernel
theorem dX3_pass_19 : decode cX3_pass 19 = .ok (.getfield 10, 3) := by decide +kernel
theorem dX3_pass_22 : decode cX3_pass 22 = .ok (.invokevirtual 49, 3) := by decide +kernel
theorem dX3_pass_25 : decode cX3_pass 25 = .ok (.if_icmp .ge 35, 3) := by decide +kernel
theorem dX3_pass_28 : decode cX3_pass 28 = .ok (.aload_n 0, 1) := by decide +kernel
theorem dX3_pass_29 : decode cX3_pass 29 = .ok (.aload_n 0, 1) := by decide +kernel
theorem dX3_pass_30 : decode cX3_pass 30 = .ok (.getfield 10, 3) := by decide +kernel
theorem dX3_pass_33 : decode cX3_pass 33 = .ok (.iload 4, 2) := by decide +kernel
theorem dX3_pass_35 : decode cX3_pass 35 = .ok (.invokevirtual 188, 3) := by decide +kernel
theorem dX3_pass_38 : decode cX3_pass 38 = .ok (.checkcast 30, 3) := by decide +kernel
theorem dX3_pass_41 : decode cX3_pass 41 = .ok (.aload_n 0, 1) := by decide +kernel
theorem dX3_pass_42 : decode cX3_pass 42 = .ok (.getfield 39, 3) := by decide +kernel
theorem dX3_pass_45 : decode cX3_pass 45 = .ok (.invokevirtual 192, 3) := by decide +kernel
theorem dX3_pass_48 : decode cX3_pass 48 = .ok (.ifCond .eq 6, 3) := by decide +kernel
theorem dX3_pass_51 : decode cX3_pass 51 = .ok (.iinc 2 1, 3) := by decide +kernel
theorem dX3_pass_54 : decode cX3_pass 54 = .ok (.iinc 4 1, 3) := by decide +kernel
theorem dX3_pass_57 : decode cX3_pass 57 = .ok (.goto (-41), 3) := by decide +kernel
theorem dX3_pass_60 : decode cX3_pass 60 = .ok (.aload_n 0, 1) := by decide +kernel
theorem dX3_pass_61 : decode cX3_pass 61 = .ok (.dup, 1) := by decide +kernel
theorem dX3_pass_62 : decode cX3_pass 62 = .ok (.getfield 39, 3) := by decide +kernel
theorem dX3_pass_65 : decode cX3_pass 65 = .ok (.iconst 1, 1) := by decide +kernel
theorem dX3_pass_66 : decode cX3_pass 66 = .ok (.iadd, 1) := by decide +kernel
theorem dX3_pass_67 : decode cX3_pass 67 = .ok (.putfield 39, 3) := by decide +kernel
theorem dX3_pass_70 : decode cX3_pass 70 = .ok (.iinc 3 1, 3) := by decide +kernel
theorem dX3_pass_73 : decode cX3_pass 73 = .ok (.goto (-65), 3) := by decide +kernel
theorem dX3_pass_76 : decode cX3_pass 76 = .ok (.iload_n 2, 1) := by decide +kernel
theorem dX3_pass_77 : decode cX3_pass 77 = .ok (.ireturn, 1) := by decide +kernel
theorem dX3_foresee_0 : decode cX3_foresee 0 = .ok (.iload_n 1, 1) := by decide +kernel
theorem dX3_foresee_1 : decode cX3_foresee 1 = .ok (.invokestatic 185, 3) := by decide +kernel
theorem dX3_foresee_4 : decode cX3_foresee 4 = .ok (.aload_n 0, 1) := by decide +kernel
theorem dX3_foresee_5 : decode cX3_foresee 5 = .ok (.getfield 35, 3) := by decide +kernel
theorem dX3_foresee_8 : decode cX3_foresee 8 = .ok (.aload_n 0, 1) := by decide +kernel
theorem dX3_foresee_9 : decode cX3_foresee 9 = .ok (.iload_n 2, 1) := by decide +kernel
theorem dX3_foresee_10 : decode cX3_foresee 10 = .ok (.invokevirtual 64, 3) := by decide +kernel
theorem dX3_foresee_13 : decode cX3_foresee 13 = .ok (.invokevirtual 196, 3) := by decide +kernel
theorem dX3_foresee_16 : decode cX3_foresee 16 = .ok (.iconst 0, 1) := by decide +kernel
theorem dX3_foresee_17 : decode cX3_foresee 17 = .ok (.istore_n 3, 1) := by decide +kernel
theorem dX3_foresee_18 : decode cX3_foresee 18 = .ok (.iload_n 3, 1) := by decide +kernel
theorem dX3_foresee_19 : decode cX3_foresee 19 = .ok (.iload_n 1, 1) := by decide +kernel
theorem dX3_foresee_20 : decode cX3_foresee 20 = .ok (.if_icmp .ge 24, 3) := by decide +kernel
theorem dX3_foresee_23 : decode cX3_foresee 23 = .ok (.aload_n 0, 1) := by decide +kernel
theorem dX3_foresee_24 : decode cX3_foresee 24 = .ok (.aload_n 0, 1) := by decide +kernel
theorem dX3_foresee_25 : decode cX3_foresee 25 = .ok (.getfield 35, 3) := by decide +kernel
theorem dX3_foresee_28 : decode cX3_foresee 28 = .ok (.aload_n 0, 1) := by decide +kernel
theorem dX3_foresee_29 : decode cX3_foresee 29 = .ok (.getfield 39, 3) := by decide +kernel
theorem dX3_foresee_32 : decode cX3_foresee 32 = .ok (.iload_n 3, 1) := by decide +kernel
theorem dX3_foresee_33 : decode cX3_foresee 33 = .ok (.iadd, 1) := by decide +kernel
theorem dX3_foresee_34 : decode cX3_foresee 34 = .ok (.invokevirtual 192, 3) := by decide +kernel
theorem dX3_foresee_37 : decode cX3_foresee 37 = .ok (.pop, 1) := by decide +kernel
theorem dX3_foresee_38 : decode cX3_foresee 38 = .ok (.iinc 3 1, 3) := by decide +kernel
theorem dX3_foresee_41 : decode cX3_foresee 41 = .ok (.goto (-23), 3) := by decide +kernel
theorem dX3_foresee_44 : decode cX3_foresee 44 = .ok (.aload_n 0, 1) := by decide +kernel
theorem dX3_foresee_45 : decode cX3_foresee 45 = .ok (.getfield 26, 3) := by decide +kernel
theorem dX3_foresee_48 : decode cX3_foresee 48 = .ok (.aload_n 0, 1) := by decide +kernel
theorem dX3_foresee_49 : decode cX3_foresee 49 = .ok (.getfield 35, 3) := by decide +kernel
theorem dX3_foresee_52 : decode cX3_foresee 52 = .ok (.aload_n 0, 1) := by decide +kernel
theorem dX3_foresee_53 : decode cX3_foresee 53 = .ok (.getfield 35, 3) := by decide +kernel
theorem dX3_foresee_56 : decode cX3_foresee 56 = .ok (.getfield 95, 3) := by decide +kernel
theorem dX3_foresee_59 : decode cX3_foresee 59 = .ok (.invokevirtual 181, 3) := by decide +kernel
theorem dX3_foresee_62 : decode cX3_foresee 62 = .ok (.ireturn, 1) := by decide +kernel
theorem dX3_until_0 : decode cX3_until 0 = .ok (.aload_n 0, 1) := by decide +kernel
theorem dX3_until_1 : decode cX3_until 1 = .ok (.iload_n 1, 1) := by decide +kernel
theorem dX3_until_2 : decode cX3_until 2 = .ok (.invokevirtual 64, 3) := by decide +kernel
theorem dX3_until_5 : decode cX3_until 5 = .ok (.astore_n 2, 1) := by decide +kernel
theorem dX3_until_6 : decode cX3_until 6 = .ok (.aload_n 2, 1) := by decide +kernel
theorem dX3_until_7 : decode cX3_until 7 = .ok (.getfield 98, 3) := by decide +kernel
theorem dX3_until_10 : decode cX3_until 10 = .ok (.ifCond .ne 5, 3) := by decide +kernel
theorem dX3_until_13 : decode cX3_until 13 = .ok (.iconst 0, 1) := by decide +kernel
theorem dX3_until_14 : decode cX3_until 14 = .ok (.ireturn, 1) := by decide +kernel
theorem dX3_until_15 : decode cX3_until 15 = .ok (.iconst 1, 1) := by decide +kernel
theorem dX3_until_16 : decode cX3_until 16 = .ok (.istore_n 3, 1) := by decide +kernel
theorem dX3_until_17 : decode cX3_until 17 = .ok (.iload_n 3, 1) := by decide +kernel
theorem dX3_until_18 : decode cX3_until 18 = .ok (.bipush 48, 2) := by decide +kernel
theorem dX3_until_20 : decode cX3_until 20 = .ok (.if_icmp .gt 27, 3) := by decide +kernel
theorem dX3_until_23 : decode cX3_until 23 = .ok (.aload_n 0, 1) := by decide +kernel
theorem dX3_until_24 : decode cX3_until 24 = .ok (.aload_n 2, 1) := by decide +kernel
theorem dX3_until_25 : decode cX3_until 25 = .ok (.aload_n 0, 1) := by decide +kernel
theorem dX3_until_26 : decode cX3_until 26 = .ok (.getfield 39, 3) := by decide +kernel
theorem dX3_until_29 : decode cX3_until 29 = .ok (.iload_n 3, 1) := by decide +kernel
theorem dX3_until_30 : decode cX3_until 30 = .ok (.iadd, 1) := by decide +kernel
theorem dX3_until_31 : decode cX3_until 31 = .ok (.iconst 1, 1) := by decide +kernel
theorem dX3_until_32 : decode cX3_until 32 = .ok (.isub, 1) := by decide +kernel
theorem dX3_until_33 : decode cX3_until 33 = .ok (.invokevirtual 199, 3) := by decide +kernel
theorem dX3_until_36 : decode cX3_until 36 = .ok (.ifCond .eq 5, 3) := by decide +kernel
theorem dX3_until_39 : decode cX3_until 39 = .ok (.iload_n 3, 1) := by decide +kernel
theorem dX3_until_40 : decode cX3_until 40 = .ok (.ireturn, 1) := by decide +kernel
theorem dX3_until_41 : decode cX3_until 41 = .ok (.iinc 3 1, 3) := by decide +kernel
theorem dX3_until_44 : decode cX3_until 44 = .ok (.goto (-27), 3) := by decide +kernel
theorem dX3_until_47 : decode cX3_until 47 = .ok (.iconst (-1), 1) := by decide +kernel
theorem dX3_until_48 : decode cX3_until 48 = .ok (.ireturn, 1) := by decide +kernel
theorem dX3_weakest_0 : decode cX3_weakest 0 = .ok (.iconst (-1), 1) := by decide +kernel
theorem dX3_weakest_1 : decode cX3_weakest 1 = .ok (.istore_n 1, 1) := by decide +kernel
theorem dX3_weakest_2 : decode cX3_weakest 2 = .ok (.sipush 1297, 3) := by decide +kernel
theorem dX3_weakest_5 : decode cX3_weakest 5 = .ok (.istore_n 2, 1) := by decide +kernel
theorem dX3_weakest_6 : decode cX3_weakest 6 = .ok (.iconst 0, 1) := by decide +kernel
theorem dX3_weakest_7 : decode cX3_weakest 7 = .ok (.istore_n 3, 1) := by decide +kernel
theorem dX3_weakest_8 : decode cX3_weakest 8 = .ok (.iload_n 3, 1) := by decide +kernel
theorem dX3_weakest_9 : decode cX3_weakest 9 = .ok (.aload_n 0, 1) := by decide +kernel
theorem dX3_weakest_10 : decode cX3_weakest 10 = .ok (.getfield 10, 3) := by decide +kernel
theorem dX3_weakest_13 : decode cX3_weakest 13 = .ok (.invokevirtual 49, 3) := by decide +kernel
theorem dX3_weakest_16 : decode cX3_weakest 16 = .ok (.if_icmp .ge 27, 3) := by decide +kernel
theorem dX3_weakest_19 : decode cX3_weakest 19 = .ok (.aload_n 0, 1) := by decide +kernel
theorem dX3_weakest_20 : decode cX3_weakest 20 = .ok (.iload_n 3, 1) := by decide +kernel
theorem dX3_weakest_21 : decode cX3_weakest 21 = .ok (.invokevirtual 202, 3) := by decide +kernel
theorem dX3_weakest_24 : decode cX3_weakest 24 = .ok (.istore 4, 2) := by decide +kernel
theorem dX3_weakest_26 : decode cX3_weakest 26 = .ok (.iload 4, 2) := by decide +kernel
theorem dX3_weakest_28 : decode cX3_weakest 28 = .ok (.iload_n 2, 1) := by decide +kernel
theorem dX3_weakest_29 : decode cX3_weakest 29 = .ok (.if_icmp .ge 8, 3) := by decide +kernel
theorem dX3_weakest_32 : decode cX3_weakest 32 = .ok (.iload 4, 2) := by decide +kernel
theorem dX3_weakest_34 : decode cX3_weakest 34 = .ok (.istore_n 2, 1) := by decide +kernel
theorem dX3_weakest_35 : decode cX3_weakest 35 = .ok (.iload_n 3, 1) := by decide +kernel
theorem dX3_weakest_36 : decode cX3_weakest 36 = .ok (.istore_n 1, 1) := by decide +kernel
theorem dX3_weakest_37 : decode cX3_weakest 37 = .ok (.iinc 3 1, 3) := by decide +kernel
theorem dX3_weakest_40 : decode cX3_weakest 40 = .ok (.goto (-32), 3) := by decide +kernel
theorem dX3_weakest_43 : decode cX3_weakest 43 = .ok (.iload_n 1, 1) := by decide +kernel
theorem dX3_weakest_44 : decode cX3_weakest 44 = .ok (.ireturn, 1) := by decide +kernel
theorem dX3_mean_0 : decode cX3_mean 0 = .ok (.aload_n 0, 1) := by decide +kernel
theorem dX3_mean_1 : decode cX3_mean 1 = .ok (.getfield 10, 3) := by decide +kernel
theorem dX3_mean_4 : decode cX3_mean 4 = .ok (.invokevirtual 49, 3) := by decide +kernel
theorem dX3_mean_7 : decode cX3_mean 7 = .ok (.iconst 4, 1) := by decide +kernel
theorem dX3_mean_8 : decode cX3_mean 8 = .ok (.imul, 1) := by decide +kernel
theorem dX3_mean_9 : decode cX3_mean 9 = .ok (.bipush 6, 2) := by decide +kernel
theorem dX3_mean_11 : decode cX3_mean 11 = .ok (.imul, 1) := by decide +kernel
theorem dX3_mean_12 : decode cX3_mean 12 = .ok (.istore_n 1, 1) := by decide +kernel
theorem dX3_mean_13 : decode cX3_mean 13 = .ok (.iload_n 1, 1) := by decide +kernel
theorem dX3_mean_14 : decode cX3_mean 14 = .ok (.ifCond .ne 5, 3) := by decide +kernel
theorem dX3_mean_17 : decode cX3_mean 17 = .ok (.dconst 0, 1) := by decide +kernel
theorem dX3_mean_18 : decode cX3_mean 18 = .ok (.dreturn, 1) := by decide +kernel
theorem dX3_mean_19 : decode cX3_mean 19 = .ok (.aload_n 0, 1) := by decide +kernel
theorem dX3_mean_20 : decode cX3_mean 20 = .ok (.invokevirtual 170, 3) := by decide +kernel
theorem dX3_mean_23 : decode cX3_mean 23 = .ok (.i2d, 1) := by decide +kernel
theorem dX3_mean_24 : decode cX3_mean 24 = .ok (.iload_n 1, 1) := by decide +kernel
theorem dX3_mean_25 : decode cX3_mean 25 = .ok (.i2d, 1) := by decide +kernel
theorem dX3_mean_26 : decode cX3_mean 26 = .ok (.ddiv, 1) := by decide +kernel
theorem dX3_mean_27 : decode cX3_mean 27 = .ok (.dreturn, 1) := by decide +kernel
theorem dX3_digest_0 : decode cX3_digest 0 = .ok (.ldc2_w 205, 3) := by decide +kernel
theorem dX3_digest_3 : decode cX3_digest 3 = .ok (.lstore_n 1, 1) := by decide +kernel
theorem dX3_digest_4 : decode cX3_digest 4 = .ok (.iconst 0, 1) := by decide +kernel
theorem dX3_digest_5 : decode cX3_digest 5 = .ok (.istore_n 3, 1) := by decide +kernel
theorem dX3_digest_6 : decode cX3_digest 6 = .ok (.iload_n 3, 1) := by decide +kernel
theorem dX3_digest_7 : decode cX3_digest 7 = .ok (.bipush 7, 2) := by decide +kernel
theorem dX3_digest_9 : decode cX3_digest 9 = .ok (.if_icmp .ge 22, 3) := by decide +kernel
theorem dX3_digest_12 : decode cX3_digest 12 = .ok (.lload_n 1, 1) := by decide +kernel
theorem dX3_digest_13 : decode cX3_digest 13 = .ok (.ldc2_w 207, 3) := by decide +kernel
theorem dX3_digest_16 : decode cX3_digest 16 = .ok (.lmul, 1) := by decide +kernel
theorem dX3_digest_17 : decode cX3_digest 17 = .ok (.aload_n 0, 1) := by decide +kernel
theorem dX3_digest_18 : decode cX3_digest 18 = .ok (.iload_n 3, 1) := by decide +kernel
theorem dX3_digest_19 : decode cX3_digest 19 = .ok (.invokevirtual 209, 3) := by decide +kernel
theorem dX3_digest_22 : decode cX3_digest 22 = .ok (.i2l, 1) := by decide +kernel
theorem dX3_digest_23 : decode cX3_digest 23 = .ok (.ladd, 1) := by decide +kernel
theorem dX3_digest_24 : decode cX3_digest 24 = .ok (.lstore_n 1, 1) := by decide +kernel
theorem dX3_digest_25 : decode cX3_digest 25 = .ok (.iinc 3 1, 3) := by decide +kernel
theorem dX3_digest_28 : decode cX3_digest 28 = .ok (.goto (-22), 3) := by decide +kernel
theorem dX3_digest_31 : decode cX3_digest 31 = .ok (.iconst 0, 1) := by decide +kernel
theorem dX3_digest_32 : decode cX3_digest 32 = .ok (.istore_n 3, 1) := by decide +kernel
theorem dX3_digest_33 : decode cX3_digest 33 = .ok (.iload_n 3, 1) := by decide +kernel
theorem dX3_digest_34 : decode cX3_digest 34 = .ok (.iconst 3, 1) := by decide +kernel
theorem dX3_digest_35 : decode cX3_digest 35 = .ok (.if_icmp .ge 40, 3) := by decide +kernel
theorem dX3_digest_38 : decode cX3_digest 38 = .ok (.iconst 0, 1) := by decide +kernel
theorem dX3_digest_39 : decode cX3_digest 39 = .ok (.istore 4, 2) := by decide +kernel
theorem dX3_digest_41 : decode cX3_digest 41 = .ok (.iload 4, 2) := by decide +kernel
theorem dX3_digest_43 : decode cX3_digest 43 = .ok (.bipush 6, 2) := by decide +kernel
theorem dX3_digest_45 : decode cX3_digest 45 = .ok (.if_icmp .ge 24, 3) := by decide +kernel
theorem dX3_digest_48 : decode cX3_digest 48 = .ok (.lload_n 1, 1) := by decide +kernel
theorem dX3_digest_49 : decode cX3_digest 49 = .ok (.ldc2_w 207, 3) := by decide +kernel
theorem dX3_digest_52 : decode cX3_digest 52 = .ok (.lmul, 1) := by decide +kernel
theorem dX3_digest_53 : decode cX3_digest 53 = .ok (.aload_n 0, 1) := by decide +kernel
theorem dX3_digest_54 : decode cX3_digest 54 = .ok (.iload_n 3, 1) := by decide +kernel
theorem dX3_digest_55 : decode cX3_digest 55 = .ok (.iload 4, 2) := by decide +kernel
theorem dX3_digest_57 : decode cX3_digest 57 = .ok (.invokevirtual 212, 3) := by decide +kernel
theorem dX3_digest_60 : decode cX3_digest 60 = .ok (.i2l, 1) := by decide +kernel
theorem dX3_digest_61 : decode cX3_digest 61 = .ok (.ladd, 1) := by decide +kernel
theorem dX3_digest_62 : decode cX3_digest 62 = .ok (.lstore_n 1, 1) := by decide +kernel
theorem dX3_digest_63 : decode cX3_digest 63 = .ok (.iinc 4 1, 3) := by decide +kernel
theorem dX3_digest_66 : decode cX3_digest 66 = .ok (.goto (-25), 3) := by decide +kernel
theorem dX3_digest_69 : decode cX3_digest 69 = .ok (.iinc 3 1, 3) := by decide +kernel
theorem dX3_digest_72 : decode cX3_digest 72 = .ok (.goto (-39), 3) := by decide +kernel
theorem dX3_digest_75 : decode cX3_digest 75 = .ok (.iconst 0, 1) := by decide +kernel
theorem dX3_digest_76 : decode cX3_digest 76 = .ok (.istore_n 3, 1) := by decide +kernel
theorem dX3_digest_77 : decode cX3_digest 77 = .ok (.iload_n 3, 1) := by decide +kernel
theorem dX3_digest_78 : decode cX3_digest 78 = .ok (.aload_n 0, 1) := by decide +kernel
theorem dX3_digest_79 : decode cX3_digest 79 = .ok (.getfield 10, 3) := by decide +kernel
theorem dX3_digest_82 : decode cX3_digest 82 = .ok (.invokevirtual 49, 3) := by decide +kernel
theorem dX3_digest_85 : decode cX3_digest 85 = .ok (.if_icmp .ge 16, 3) := by decide +kernel
theorem dX3_digest_88 : decode cX3_digest 88 = .ok (.aload_n 0, 1) := by decide +kernel
theorem dX3_digest_89 : decode cX3_digest 89 = .ok (.lload_n 1, 1) := by decide +kernel
theorem dX3_digest_90 : decode cX3_digest 90 = .ok (.iload_n 3, 1) := by decide +kernel
theorem dX3_digest_91 : decode cX3_digest 91 = .ok (.invokevirtual 215, 3) := by decide +kernel
theorem dX3_digest_94 : decode cX3_digest 94 = .ok (.lstore_n 1, 1) := by decide +kernel
theorem dX3_digest_95 : decode cX3_digest 95 = .ok (.iinc 3 1, 3) := by decide +kernel
theorem dX3_digest_98 : decode cX3_digest 98 = .ok (.goto (-21), 3) := by decide +kernel
theorem dX3_digest_101 : decode cX3_digest 101 = .ok (.lload_n 1, 1) := by decide +kernel
theorem dX3_digest_102 : decode cX3_digest 102 = .ok (.lreturn, 1) := by decide +kernel
theorem dX3_digestOfLock_0 : decode cX3_digestOfLock 0 = .ok (.lload_n 1, 1) := by decide +kernel
theorem dX3_digestOfLock_1 : decode cX3_digestOfLock 1 = .ok (.lstore 4, 2) := by decide +kernel
theorem dX3_digestOfLock_3 : decode cX3_digestOfLock 3 = .ok (.iconst 0, 1) := by decide +kernel
theorem dX3_digestOfLock_4 : decode cX3_digestOfLock 4 = .ok (.istore 6, 2) := by decide +kernel
theorem dX3_digestOfLock_6 : decode cX3_digestOfLock 6 = .ok (.iload 6, 2) := by decide +kernel
theorem dX3_digestOfLock_8 : decode cX3_digestOfLock 8 = .ok (.bipush 6, 2) := by decide +kernel
theorem dX3_digestOfLock_10 : decode cX3_digestOfLock 10 = .ok (.if_icmp .ge 26, 3) := by decide +kernel
theorem dX3_digestOfLock_13 : decode cX3_digestOfLock 13 = .ok (.lload 4, 2) := by decide +kernel
theorem dX3_digestOfLock_15 : decode cX3_digestOfLock 15 = .ok (.ldc2_w 207, 3) := by decide +kernel
theorem dX3_digestOfLock_18 : decode cX3_digestOfLock 18 = .ok (.lmul, 1) := by decide +kernel
theorem dX3_digestOfLock_19 : decode cX3_digestOfLock 19 = .ok (.aload_n 0, 1) := by decide +kernel
theorem dX3_digestOfLock_20 : decode cX3_digestOfLock 20 = .ok (.iload_n 3, 1) := by decide +kernel
theorem dX3_digestOfLock_21 : decode cX3_digestOfLock 21 = .ok (.iload 6, 2) := by decide +kernel
theorem dX3_digestOfLock_23 : decode cX3_digestOfLock 23 = .ok (.invokevirtual 219, 3) := by decide +kernel
theorem dX3_digestOfLock_26 : decode cX3_digestOfLock 26 = .ok (.i2l, 1) := by decide +kernel
theorem dX3_digestOfLock_27 : decode cX3_digestOfLock 27 = .ok (.ladd, 1) := by decide +kernel
theorem dX3_digestOfLock_28 : decode cX3_digestOfLock 28 = .ok (.lstore 4, 2) := by decide +kernel
theorem dX3_digestOfLock_30 : decode cX3_digestOfLock 30 = .ok (.iinc 6 1, 3) := by decide +kernel
theorem dX3_digestOfLock_33 : decode cX3_digestOfLock 33 = .ok (.goto (-27), 3) := by decide +kernel
theorem dX3_digestOfLock_36 : decode cX3_digestOfLock 36 = .ok (.iconst 0, 1) := by decide +kernel
theorem dX3_digestOfLock_37 : decode cX3_digestOfLock 37 = .ok (.istore 6, 2) := by decide +kernel
theorem dX3_digestOfLock_39 : decode cX3_digestOfLock 39 = .ok (.iload 6, 2) := by decide +kernel
theorem dX3_digestOfLock_41 : decode cX3_digestOfLock 41 = .ok (.iconst 4, 1) := by decide +kernel
theorem dX3_digestOfLock_42 : decode cX3_digestOfLock 42 = .ok (.if_icmp .ge 44, 3) := by decide +kernel
theorem dX3_digestOfLock_45 : decode cX3_digestOfLock 45 = .ok (.iconst 0, 1) := by decide +kernel
theorem dX3_digestOfLock_46 : decode cX3_digestOfLock 46 = .ok (.istore 7, 2) := by decide +kernel
theorem dX3_digestOfLock_48 : decode cX3_digestOfLock 48 = .ok (.iload 7, 2) := by decide +kernel
theorem dX3_digestOfLock_50 : decode cX3_digestOfLock 50 = .ok (.bipush 6, 2) := by decide +kernel
theorem dX3_digestOfLock_52 : decode cX3_digestOfLock 52 = .ok (.if_icmp .ge 28, 3) := by decide +kernel
theorem dX3_digestOfLock_55 : decode cX3_digestOfLock 55 = .ok (.lload 4, 2) := by decide +kernel
theorem dX3_digestOfLock_57 : decode cX3_digestOfLock 57 = .ok (.ldc2_w 207, 3) := by decide +kernel
theorem dX3_digestOfLock_60 : decode cX3_digestOfLock 60 = .ok (.lmul, 1) := by decide +kernel
theorem dX3_digestOfLock_61 : decode cX3_digestOfLock 61 = .ok (.aload_n 0, 1) := by decide +kernel
theorem dX3_digestOfLock_62 : decode cX3_digestOfLock 62 = .ok (.iload_n 3, 1) := by decide +kernel
theorem dX3_digestOfLock_63 : decode cX3_digestOfLock 63 = .ok (.iload 6, 2) := by decide +kernel
theorem dX3_digestOfLock_65 : decode cX3_digestOfLock 65 = .ok (.iload 7, 2) := by decide +kernel
theorem dX3_digestOfLock_67 : decode cX3_digestOfLock 67 = .ok (.invokevirtual 222, 3) := by decide +kernel
theorem dX3_digestOfLock_70 : decode cX3_digestOfLock 70 = .ok (.i2l, 1) := by decide +kernel
theorem dX3_digestOfLock_71 : decode cX3_digestOfLock 71 = .ok (.ladd, 1) := by decide +kernel
theorem dX3_digestOfLock_72 : decode cX3_digestOfLock 72 = .ok (.lstore 4, 2) := by decide +kernel
theorem dX3_digestOfLock_74 : decode cX3_digestOfLock 74 = .ok (.iinc 7 1, 3) := by decide +kernel
theorem dX3_digestOfLock_77 : decode cX3_digestOfLock 77 = .ok (.goto (-29), 3) := by decide +kernel
theorem dX3_digestOfLock_80 : decode cX3_digestOfLock 80 = .ok (.iinc 6 1, 3) := by decide +kernel
theorem dX3_digestOfLock_83 : decode cX3_digestOfLock 83 = .ok (.goto (-44), 3) := by decide +kernel
theorem dX3_digestOfLock_86 : decode cX3_digestOfLock 86 = .ok (.lload 4, 2) := by decide +kernel
theorem dX3_digestOfLock_88 : decode cX3_digestOfLock 88 = .ok (.lreturn, 1) := by decide +kernel
theorem dX3_lockAt_0 : decode cX3_lockAt 0 = .ok (.iload_n 1, 1) := by decide +kernel
theorem dX3_lockAt_1 : decode cX3_lockAt 1 = .ok (.ifCond .lt 14, 3) := by decide +kernel
theorem dX3_lockAt_4 : decode cX3_lockAt 4 = .ok (.iload_n 1, 1) := by decide +kernel
theorem dX3_lockAt_5 : decode cX3_lockAt 5 = .ok (.aload_n 0, 1) := by decide +kernel
theorem dX3_lockAt_6 : decode cX3_lockAt 6 = .ok (.getfield 10, 3) := by decide +kernel
theorem dX3_lockAt_9 : decode cX3_lockAt 9 = .ok (.invokevirtual 49, 3) := by decide +kernel
theorem dX3_lockAt_12 : decode cX3_lockAt 12 = .ok (.if_icmp .lt 13, 3) := by decide +kernel
theorem dX3_lockAt_15 : decode cX3_lockAt 15 = .ok (.new 137, 3) := by decide +kernel
theorem dX3_lockAt_18 : decode cX3_lockAt 18 = .ok (.dup, 1) := by decide +kernel
theorem dX3_lockAt_19 : decode cX3_lockAt 19 = .ok (.ldc 226, 2) := by decide +kernel
theorem dX3_lockAt_21 : decode cX3_lockAt 21 = .ok (.invokespecial 141, 3) := by decide +kernel
theorem dX3_lockAt_24 : decode cX3_lockAt 24 = .ok (.athrow, 1) := by decide +kernel
theorem dX3_lockAt_25 : decode cX3_lockAt 25 = .ok (.aload_n 0, 1) := by decide +kernel
theorem dX3_lockAt_26 : decode cX3_lockAt 26 = .ok (.getfield 10, 3) := by decide +kernel
theorem dX3_lockAt_29 : decode cX3_lockAt 29 = .ok (.iload_n 1, 1) := by decide +kernel
theorem dX3_lockAt_30 : decode cX3_lockAt 30 = .ok (.invokevirtual 188, 3) := by decide +kernel
theorem dX3_lockAt_33 : decode cX3_lockAt 33 = .ok (.checkcast 30, 3) := by decide +kernel
theorem dX3_lockAt_36 : decode cX3_lockAt 36 = .ok (.areturn, 1) := by decide +kernel
theorem dX3_rackAt_0 : decode cX3_rackAt 0 = .ok (.aload_n 0, 1) := by decide +kernel
theorem dX3_rackAt_1 : decode cX3_rackAt 1 = .ok (.iload_n 1, 1) := by decide +kernel
theorem dX3_rackAt_2 : decode cX3_rackAt 2 = .ok (.invokevirtual 134, 3) := by decide +kernel
theorem dX3_rackAt_5 : decode cX3_rackAt 5 = .ok (.ifCond .ne 13, 3) := by decide +kernel
theorem dX3_rackAt_8 : decode cX3_rackAt 8 = .ok (.new 137, 3) := by decide +kernel
theorem dX3_rackAt_11 : decode cX3_rackAt 11 = .ok (.dup, 1) := by decide +kernel
theorem dX3_rackAt_12 : decode cX3_rackAt 12 = .ok (.ldc 139, 2) := by decide +kernel
theorem dX3_rackAt_14 : decode cX3_rackAt 14 = .ok (.invokespecial 141, 3) := by decide +kernel
theorem dX3_rackAt_17 : decode cX3_rackAt 17 = .ok (.athrow, 1) := by decide +kernel
theorem dX3_rackAt_18 : decode cX3_rackAt 18 = .ok (.aload_n 0, 1) := by decide +kernel
theorem dX3_rackAt_19 : decode cX3_rackAt 19 = .ok (.getfield 18, 3) := by decide +kernel
theorem dX3_rackAt_22 : decode cX3_rackAt 22 = .ok (.iload_n 1, 1) := by decide +kernel
theorem dX3_rackAt_23 : decode cX3_rackAt 23 = .ok (.aaload, 1) := by decide +kernel
theorem dX3_rackAt_24 : decode cX3_rackAt 24 = .ok (.areturn, 1) := by decide +kernel
theorem dX3_requireRing_0 : decode cX3_requireRing 0 = .ok (.iload_n 0, 1) := by decide +kernel
theorem dX3_requireRing_1 : decode cX3_requireRing 1 = .ok (.invokestatic 228, 3) := by decide +kernel
theorem dX3_requireRing_4 : decode cX3_requireRing 4 = .ok (.ifCond .ne 13, 3) := by decide +kernel
theorem dX3_requireRing_7 : decode cX3_requireRing 7 = .ok (.new 137, 3) := by decide +kernel
theorem dX3_requireRing_10 : decode cX3_requireRing 10 = .ok (.dup, 1) := by decide +kernel
theorem dX3_requireRing_11 : decode cX3_requireRing 11 = .ok (.ldc 231, 2) := by decide +kernel
theorem dX3_requireRing_13 : decode cX3_requireRing 13 = .ok (.invokespecial 141, 3) := by decide +kernel
theorem dX3_requireRing_16 : decode cX3_requireRing 16 = .ok (.athrow, 1) := by decide +kernel
theorem dX3_requireRing_17 : decode cX3_requireRing 17 = .ok (.return_, 1) := by decide +kernel
theorem dX3_requireWord_0 : decode cX3_requireWord 0 = .ok (.iload_n 0, 1) := by decide +kernel
theorem dX3_requireWord_1 : decode cX3_requireWord 1 = .ok (.ifCond .lt 10, 3) := by decide +kernel
theorem dX3_requireWord_4 : decode cX3_requireWord 4 = .ok (.iload_n 0, 1) := by decide +kernel
theorem dX3_requireWord_5 : decode cX3_requireWord 5 = .ok (.sipush 1296, 3) := by decide +kernel
theorem dX3_requireWord_8 : decode cX3_requireWord 8 = .ok (.if_icmp .lt 13, 3) := by decide +kernel
theorem dX3_requireWord_11 : decode cX3_requireWord 11 = .ok (.new 75, 3) := by decide +kernel
theorem dX3_requireWord_14 : decode cX3_requireWord 14 = .ok (.dup, 1) := by decide +kernel
theorem dX3_requireWord_15 : decode cX3_requireWord 15 = .ok (.ldc 233, 2) := by decide +kernel
theorem dX3_requireWord_17 : decode cX3_requireWord 17 = .ok (.invokespecial 79, 3) := by decide +kernel
theorem dX3_requireWord_20 : decode cX3_requireWord 20 = .ok (.athrow, 1) := by decide +kernel
theorem dX3_requireWord_21 : decode cX3_requireWord 21 = .ok (.return_, 1) := by decide +kernel
theorem dX3_requireHours_0 : decode cX3_requireHours 0 = .ok (.iload_n 0, 1) := by decide +kernel
theorem dX3_requireHours_1 : decode cX3_requireHours 1 = .ok (.iconst 1, 1) := by decide +kernel
theorem dX3_requireHours_2 : decode cX3_requireHours 2 = .ok (.if_icmp .lt 9, 3) := by decide +kernel
theorem dX3_requireHours_5 : decode cX3_requireHours 5 = .ok (.iload_n 0, 1) := by decide +kernel
theorem dX3_requireHours_6 : decode cX3_requireHours 6 = .ok (.bipush 99, 2) := by decide +kernel
theorem dX3_requireHours_8 : decode cX3_requireHours 8 = .ok (.if_icmp .le 13, 3) := by decide +kernel
theorem dX3_requireHours_11 : decode cX3_requireHours 11 = .ok (.new 75, 3) := by decide +kernel
theorem dX3_requireHours_14 : decode cX3_requireHours 14 = .ok (.dup, 1) := by decide +kernel
theorem dX3_requireHours_15 : decode cX3_requireHours 15 = .ok (.ldc 235, 2) := by decide +kernel
theorem dX3_requireHours_17 : decode cX3_requireHours 17 = .ok (.invokespecial 79, 3) := by decide +kernel
theorem dX3_requireHours_20 : decode cX3_requireHours 20 = .ok (.athrow, 1) := by decide +kernel
theorem dX3_requireHours_21 : decode cX3_requireHours 21 = .ok (.return_, 1) := by decide +kernel
theorem dX3_requireOpen_0 : decode cX3_requireOpen 0 = .ok (.aload_n 0, 1) := by decide +kernel
theorem dX3_requireOpen_1 : decode cX3_requireOpen 1 = .ok (.getfield 98, 3) := by decide +kernel
theorem dX3_requireOpen_4 : decode cX3_requireOpen 4 = .ok (.ifCond .ne 13, 3) := by decide +kernel
theorem dX3_requireOpen_7 : decode cX3_requireOpen 7 = .ok (.new 53, 3) := by decide +kernel
theorem dX3_requireOpen_10 : decode cX3_requireOpen 10 = .ok (.dup, 1) := by decide +kernel
theorem dX3_requireOpen_11 : decode cX3_requireOpen 11 = .ok (.ldc 237, 2) := by decide +kernel
theorem dX3_requireOpen_13 : decode cX3_requireOpen 13 = .ok (.invokespecial 57, 3) := by decide +kernel
theorem dX3_requireOpen_16 : decode cX3_requireOpen 16 = .ok (.athrow, 1) := by decide +kernel
theorem dX3_requireOpen_17 : decode cX3_requireOpen 17 = .ok (.return_, 1) := by decide +kernel
theorem dX3_isRack_0 : decode cX3_isRack 0 = .ok (.iload_n 1, 1) := by decide +kernel
theorem dX3_isRack_1 : decode cX3_isRack 1 = .ok (.ifCond .lt 16, 3) := by decide +kernel
theorem dX3_isRack_4 : decode cX3_isRack 4 = .ok (.iload_n 1, 1) := by decide +kernel
theorem dX3_isRack_5 : decode cX3_isRack 5 = .ok (.aload_n 0, 1) := by decide +kernel
theorem dX3_isRack_6 : decode cX3_isRack 6 = .ok (.getfield 18, 3) := by decide +kernel
theorem dX3_isRack_9 : decode cX3_isRack 9 = .ok (.arraylength, 1) := by decide +kernel
theorem dX3_isRack_10 : decode cX3_isRack 10 = .ok (.if_icmp .ge 7, 3) := by decide +kernel
theorem dX3_isRack_13 : decode cX3_isRack 13 = .ok (.iconst 1, 1) := by decide +kernel
theorem dX3_isRack_14 : decode cX3_isRack 14 = .ok (.goto 4, 3) := by decide +kernel
theorem dX3_isRack_17 : decode cX3_isRack 17 = .ok (.iconst 0, 1) := by decide +kernel
theorem dX3_isRack_18 : decode cX3_isRack 18 = .ok (.ireturn, 1) := by decide +kernel
theorem dX3_isRing_0 : decode cX3_isRing 0 = .ok (.iload_n 0, 1) := by decide +kernel
theorem dX3_isRing_1 : decode cX3_isRing 1 = .ok (.ifCond .lt 12, 3) := by decide +kernel
theorem dX3_isRing_4 : decode cX3_isRing 4 = .ok (.iload_n 0, 1) := by decide +kernel
theorem dX3_isRing_5 : decode cX3_isRing 5 = .ok (.iconst 4, 1) := by decide +kernel
theorem dX3_isRing_6 : decode cX3_isRing 6 = .ok (.if_icmp .ge 7, 3) := by decide +kernel
theorem dX3_isRing_9 : decode cX3_isRing 9 = .ok (.iconst 1, 1) := by decide +kernel
theorem dX3_isRing_10 : decode cX3_isRing 10 = .ok (.goto 4, 3) := by decide +kernel
theorem dX3_isRing_13 : decode cX3_isRing 13 = .ok (.iconst 0, 1) := by decide +kernel
theorem dX3_isRing_14 : decode cX3_isRing 14 = .ok (.ireturn, 1) := by decide +kernel
theorem dX3_isLetter_0 : decode cX3_isLetter 0 = .ok (.iload_n 0, 1) := by decide +kernel
theorem dX3_isLetter_1 : decode cX3_isLetter 1 = .ok (.ifCond .lt 13, 3) := by decide +kernel
theorem dX3_isLetter_4 : decode cX3_isLetter 4 = .ok (.iload_n 0, 1) := by decide +kernel
theorem dX3_isLetter_5 : decode cX3_isLetter 5 = .ok (.bipush 6, 2) := by decide +kernel
theorem dX3_isLetter_7 : decode cX3_isLetter 7 = .ok (.if_icmp .ge 7, 3) := by decide +kernel
theorem dX3_isLetter_10 : decode cX3_isLetter 10 = .ok (.iconst 1, 1) := by decide +kernel
theorem dX3_isLetter_11 : decode cX3_isLetter 11 = .ok (.goto 4, 3) := by decide +kernel
theorem dX3_isLetter_14 : decode cX3_isLetter 14 = .ok (.iconst 0, 1) := by decide +kernel
theorem dX3_isLetter_15 : decode cX3_isLetter 15 = .ok (.ireturn, 1) := by decide +kernel
theorem dX3_letterOf_0 : decode cX3_letterOf 0 = .ok (.iload_n 0, 1) := by decide +kernel
theorem dX3_letterOf_1 : decode cX3_letterOf 1 = .ok (.istore_n 2, 1) := by decide +kernel
theorem dX3_letterOf_2 : decode cX3_letterOf 2 = .ok (.iconst 3, 1) := by decide +kernel
theorem dX3_letterOf_3 : decode cX3_letterOf 3 = .ok (.istore_n 3, 1) := by decide +kernel
theorem dX3_letterOf_4 : decode cX3_letterOf 4 = .ok (.iload_n 3, 1) := by decide +kernel
theorem dX3_letterOf_5 : decode cX3_letterOf 5 = .ok (.iload_n 1, 1) := by decide +kernel
theorem dX3_letterOf_6 : decode cX3_letterOf 6 = .ok (.if_icmp .le 14, 3) := by decide +kernel
theorem dX3_letterOf_9 : decode cX3_letterOf 9 = .ok (.iload_n 2, 1) := by decide +kernel
theorem dX3_letterOf_10 : decode cX3_letterOf 10 = .ok (.bipush 6, 2) := by decide +kernel
theorem dX3_letterOf_12 : decode cX3_letterOf 12 = .ok (.idiv, 1) := by decide +kernel
theorem dX3_letterOf_13 : decode cX3_letterOf 13 = .ok (.istore_n 2, 1) := by decide +kernel
theorem dX3_letterOf_14 : decode cX3_letterOf 14 = .ok (.iinc 3 (-1), 3) := by decide +kernel
theorem dX3_letterOf_17 : decode cX3_letterOf 17 = .ok (.goto (-13), 3) := by decide +kernel
theorem dX3_letterOf_20 : decode cX3_letterOf 20 = .ok (.iload_n 2, 1) := by decide +kernel
theorem dX3_letterOf_21 : decode cX3_letterOf 21 = .ok (.bipush 6, 2) := by decide +kernel
theorem dX3_letterOf_23 : decode cX3_letterOf 23 = .ok (.irem, 1) := by decide +kernel
theorem dX3_letterOf_24 : decode cX3_letterOf 24 = .ok (.ireturn, 1) := by decide +kernel
theorem dX3_turnsBetween_0 : decode cX3_turnsBetween 0 = .ok (.iload_n 0, 1) := by decide +kernel
theorem dX3_turnsBetween_1 : decode cX3_turnsBetween 1 = .ok (.iload_n 1, 1) := by decide +kernel
theorem dX3_turnsBetween_2 : decode cX3_turnsBetween 2 = .ok (.isub, 1) := by decide +kernel
theorem dX3_turnsBetween_3 : decode cX3_turnsBetween 3 = .ok (.invokestatic 239, 3) := by decide +kernel
theorem dX3_turnsBetween_6 : decode cX3_turnsBetween 6 = .ok (.istore_n 2, 1) := by decide +kernel
theorem dX3_turnsBetween_7 : decode cX3_turnsBetween 7 = .ok (.iload_n 2, 1) := by decide +kernel
theorem dX3_turnsBetween_8 : decode cX3_turnsBetween 8 = .ok (.bipush 6, 2) := by decide +kernel
theorem dX3_turnsBetween_10 : decode cX3_turnsBetween 10 = .ok (.iload_n 2, 1) := by decide +kernel
theorem dX3_turnsBetween_11 : decode cX3_turnsBetween 11 = .ok (.isub, 1) := by decide +kernel
theorem dX3_turnsBetween_12 : decode cX3_turnsBetween 12 = .ok (.invokestatic 244, 3) := by decide +kernel
theorem dX3_turnsBetween_15 : decode cX3_turnsBetween 15 = .ok (.ireturn, 1) := by decide +kernel
theorem dX3_locksIn_0 : decode cX3_locksIn 0 = .ok (.iconst 0, 1) := by decide +kernel
theorem dX3_locksIn_1 : decode cX3_locksIn 1 = .ok (.istore_n 2, 1) := by decide +kernel
theorem dX3_locksIn_2 : decode cX3_locksIn 2 = .ok (.iconst 0, 1) := by decide +kernel
theorem dX3_locksIn_3 : decode cX3_locksIn 3 = .ok (.istore_n 3, 1) := by decide +kernel
theorem dX3_locksIn_4 : decode cX3_locksIn 4 = .ok (.iload_n 3, 1) := by decide +kernel
theorem dX3_locksIn_5 : decode cX3_locksIn 5 = .ok (.aload_n 0, 1) := by decide +kernel
theorem dX3_locksIn_6 : decode cX3_locksIn 6 = .ok (.getfield 10, 3) := by decide +kernel
theorem dX3_locksIn_9 : decode cX3_locksIn 9 = .ok (.invokevirtual 49, 3) := by decide +kernel
theorem dX3_locksIn_12 : decode cX3_locksIn 12 = .ok (.if_icmp .ge 30, 3) := by decide +kernel
theorem dX3_locksIn_15 : decode cX3_locksIn 15 = .ok (.aload_n 0, 1) := by decide +kernel
theorem dX3_locksIn_16 : decode cX3_locksIn 16 = .ok (.getfield 10, 3) := by decide +kernel
theorem dX3_locksIn_19 : decode cX3_locksIn 19 = .ok (.iload_n 3, 1) := by decide +kernel
theorem dX3_locksIn_20 : decode cX3_locksIn 20 = .ok (.invokevirtual 188, 3) := by decide +kernel
theorem dX3_locksIn_23 : decode cX3_locksIn 23 = .ok (.checkcast 30, 3) := by decide +kernel
theorem dX3_locksIn_26 : decode cX3_locksIn 26 = .ok (.getfield 142, 3) := by decide +kernel
theorem dX3_locksIn_29 : decode cX3_locksIn 29 = .ok (.iload_n 1, 1) := by decide +kernel
theorem dX3_locksIn_30 : decode cX3_locksIn 30 = .ok (.if_icmp .ne 6, 3) := by decide +kernel
theorem dX3_locksIn_33 : decode cX3_locksIn 33 = .ok (.iinc 2 1, 3) := by decide +kernel
theorem dX3_locksIn_36 : decode cX3_locksIn 36 = .ok (.iinc 3 1, 3) := by decide +kernel
theorem dX3_locksIn_39 : decode cX3_locksIn 39 = .ok (.goto (-35), 3) := by decide +kernel
theorem dX3_locksIn_42 : decode cX3_locksIn 42 = .ok (.iload_n 2, 1) := by decide +kernel
theorem dX3_locksIn_43 : decode cX3_locksIn 43 = .ok (.ireturn, 1) := by decide +kernel
theorem dX3_openLocksIn_0 : decode cX3_openLocksIn 0 = .ok (.iconst 0, 1) := by decide +kernel
theorem dX3_openLocksIn_1 : decode cX3_openLocksIn 1 = .ok (.istore_n 2, 1) := by decide +kernel
theorem dX3_openLocksIn_2 : decode cX3_openLocksIn 2 = .ok (.iconst 0, 1) := by decide +kernel
theorem dX3_openLocksIn_3 : decode cX3_openLocksIn 3 = .ok (.istore_n 3, 1) := by decide +kernel
theorem dX3_openLocksIn_4 : decode cX3_openLocksIn 4 = .ok (.iload_n 3, 1) := by decide +kernel
theorem dX3_openLocksIn_5 : decode cX3_openLocksIn 5 = .ok (.aload_n 0, 1) := by decide +kernel
theorem dX3_openLocksIn_6 : decode cX3_openLocksIn 6 = .ok (.getfield 10, 3) := by decide +kernel
theorem dX3_openLocksIn_9 : decode cX3_openLocksIn 9 = .ok (.invokevirtual 49, 3) := by decide +kernel
theorem dX3_openLocksIn_12 : decode cX3_openLocksIn 12 = .ok (.if_icmp .ge 42, 3) := by decide +kernel
theorem dX3_openLocksIn_15 : decode cX3_openLocksIn 15 = .ok (.aload_n 0, 1) := by decide +kernel
theorem dX3_openLocksIn_16 : decode cX3_openLocksIn 16 = .ok (.getfield 10, 3) := by decide +kernel
theorem dX3_openLocksIn_19 : decode cX3_openLocksIn 19 = .ok (.iload_n 3, 1) := by decide +kernel
theorem dX3_openLocksIn_20 : decode cX3_openLocksIn 20 = .ok (.invokevirtual 188, 3) := by decide +kernel
theorem dX3_openLocksIn_23 : decode cX3_openLocksIn 23 = .ok (.checkcast 30, 3) := by decide +kernel
theorem dX3_openLocksIn_26 : decode cX3_openLocksIn 26 = .ok (.astore 4, 2) := by decide +kernel
theorem dX3_openLocksIn_28 : decode cX3_openLocksIn 28 = .ok (.aload 4, 2) := by decide +kernel
theorem dX3_openLocksIn_30 : decode cX3_openLocksIn 30 = .ok (.getfield 98, 3) := by decide +kernel
theorem dX3_openLocksIn_33 : decode cX3_openLocksIn 33 = .ok (.ifCond .eq 15, 3) := by decide +kernel
theorem dX3_openLocksIn_36 : decode cX3_openLocksIn 36 = .ok (.aload 4, 2) := by decide +kernel
theorem dX3_openLocksIn_38 : decode cX3_openLocksIn 38 = .ok (.getfield 142, 3) := by decide +kernel
theorem dX3_openLocksIn_41 : decode cX3_openLocksIn 41 = .ok (.iload_n 1, 1) := by decide +kernel
theorem dX3_openLocksIn_42 : decode cX3_openLocksIn 42 = .ok (.if_icmp .ne 6, 3) := by decide +kernel
theorem dX3_openLocksIn_45 : decode cX3_openLocksIn 45 = .ok (.iinc 2 1, 3) := by decide +kernel
theorem dX3_openLocksIn_48 : decode cX3_openLocksIn 48 = .ok (.iinc 3 1, 3) := by decide +kernel
theorem dX3_openLocksIn_51 : decode cX3_openLocksIn 51 = .ok (.goto (-47), 3) := by decide +kernel
theorem dX3_openLocksIn_54 : decode cX3_openLocksIn 54 = .ok (.iload_n 2, 1) := by decide +kernel
theorem dX3_openLocksIn_55 : decode cX3_openLocksIn 55 = .ok (.ireturn, 1) := by decide +kernel
theorem dX3_takesAnother_0 : decode cX3_takesAnother 0 = .ok (.aload_n 0, 1) := by decide +kernel
theorem dX3_takesAnother_1 : decode cX3_takesAnother 1 = .ok (.iload_n 1, 1) := by decide +kernel
theorem dX3_takesAnother_2 : decode cX3_takesAnother 2 = .ok (.invokevirtual 134, 3) := by decide +kernel
theorem dX3_takesAnother_5 : decode cX3_takesAnother 5 = .ok (.ifCond .eq 40, 3) := by decide +kernel
theorem dX3_takesAnother_8 : decode cX3_takesAnother 8 = .ok (.aload_n 0, 1) := by decide +kernel
theorem dX3_takesAnother_9 : decode cX3_takesAnother 9 = .ok (.getfield 18, 3) := by decide +kernel
theorem dX3_takesAnother_12 : decode cX3_takesAnother 12 = .ok (.iload_n 1, 1) := by decide +kernel
theorem dX3_takesAnother_13 : decode cX3_takesAnother 13 = .ok (.aaload, 1) := by decide +kernel
theorem dX3_takesAnother_14 : decode cX3_takesAnother 14 = .ok (.aload_n 0, 1) := by decide +kernel
theorem dX3_takesAnother_15 : decode cX3_takesAnother 15 = .ok (.getfield 39, 3) := by decide +kernel
theorem dX3_takesAnother_18 : decode cX3_takesAnother 18 = .ok (.invokevirtual 158, 3) := by decide +kernel
theorem dX3_takesAnother_21 : decode cX3_takesAnother 21 = .ok (.ifCond .eq 24, 3) := by decide +kernel
theorem dX3_takesAnother_24 : decode cX3_takesAnother 24 = .ok (.aload_n 0, 1) := by decide +kernel
theorem dX3_takesAnother_25 : decode cX3_takesAnother 25 = .ok (.iload_n 1, 1) := by decide +kernel
theorem dX3_takesAnother_26 : decode cX3_takesAnother 26 = .ok (.invokevirtual 118, 3) := by decide +kernel
theorem dX3_takesAnother_29 : decode cX3_takesAnother 29 = .ok (.aload_n 0, 1) := by decide +kernel
theorem dX3_takesAnother_30 : decode cX3_takesAnother 30 = .ok (.getfield 18, 3) := by decide +kernel
theorem dX3_takesAnother_33 : decode cX3_takesAnother 33 = .ok (.iload_n 1, 1) := by decide +kernel
theorem dX3_takesAnother_34 : decode cX3_takesAnother 34 = .ok (.aaload, 1) := by decide +kernel
theorem dX3_takesAnother_35 : decode cX3_takesAnother 35 = .ok (.getfield 123, 3) := by decide +kernel
theorem dX3_takesAnother_38 : decode cX3_takesAnother 38 = .ok (.if_icmp .ge 7, 3) := by decide +kernel
theorem dX3_takesAnother_41 : decode cX3_takesAnother 41 = .ok (.iconst 1, 1) := by decide +kernel
theorem dX3_takesAnother_42 : decode cX3_takesAnother 42 = .ok (.goto 4, 3) := by decide +kernel
theorem dX3_takesAnother_45 : decode cX3_takesAnother 45 = .ok (.iconst 0, 1) := by decide +kernel
theorem dX3_takesAnother_46 : decode cX3_takesAnother 46 = .ok (.ireturn, 1) := by decide +kernel
theorem dX3_isInClosedRack_0 : decode cX3_isInClosedRack 0 = .ok (.aload_n 0, 1) := by decide +kernel
theorem dX3_isInClosedRack_1 : decode cX3_isInClosedRack 1 = .ok (.aload_n 1, 1) := by decide +kernel
theorem dX3_isInClosedRack_2 : decode cX3_isInClosedRack 2 = .ok (.getfield 142, 3) := by decide +kernel
theorem dX3_isInClosedRack_5 : decode cX3_isInClosedRack 5 = .ok (.invokevirtual 134, 3) := by decide +kernel
theorem dX3_isInClosedRack_8 : decode cX3_isInClosedRack 8 = .ok (.ifCond .eq 23, 3) := by decide +kernel
theorem dX3_isInClosedRack_11 : decode cX3_isInClosedRack 11 = .ok (.aload_n 0, 1) := by decide +kernel
theorem dX3_isInClosedRack_12 : decode cX3_isInClosedRack 12 = .ok (.getfield 18, 3) := by decide +kernel
theorem dX3_isInClosedRack_15 : decode cX3_isInClosedRack 15 = .ok (.aload_n 1, 1) := by decide +kernel
theorem dX3_isInClosedRack_16 : decode cX3_isInClosedRack 16 = .ok (.getfield 142, 3) := by decide +kernel
theorem dX3_isInClosedRack_19 : decode cX3_isInClosedRack 19 = .ok (.aaload, 1) := by decide +kernel
theorem dX3_isInClosedRack_20 : decode cX3_isInClosedRack 20 = .ok (.iload_n 2, 1) := by decide +kernel
theorem dX3_isInClosedRack_21 : decode cX3_isInClosedRack 21 = .ok (.invokevirtual 158, 3) := by decide +kernel
theorem dX3_isInClosedRack_24 : decode cX3_isInClosedRack 24 = .ok (.ifCond .ne 7, 3) := by decide +kernel
theorem dX3_isInClosedRack_27 : decode cX3_isInClosedRack 27 = .ok (.iconst 1, 1) := by decide +kernel
theorem dX3_isInClosedRack_28 : decode cX3_isInClosedRack 28 = .ok (.goto 4, 3) := by decide +kernel
theorem dX3_isInClosedRack_31 : decode cX3_isInClosedRack 31 = .ok (.iconst 0, 1) := by decide +kernel
theorem dX3_isInClosedRack_32 : decode cX3_isInClosedRack 32 = .ok (.ireturn, 1) := by decide +kernel
theorem dX3_letHourGoBy_0 : decode cX3_letHourGoBy 0 = .ok (.aload_n 1, 1) := by decide +kernel
theorem dX3_letHourGoBy_1 : decode cX3_letHourGoBy 1 = .ok (.invokevirtual 247, 3) := by decide +kernel
theorem dX3_letHourGoBy_4 : decode cX3_letHourGoBy 4 = .ok (.aload_n 1, 1) := by decide +kernel
theorem dX3_letHourGoBy_5 : decode cX3_letHourGoBy 5 = .ok (.getfield 98, 3) := by decide +kernel
theorem dX3_letHourGoBy_8 : decode cX3_letHourGoBy 8 = .ok (.ifCond .eq 12, 3) := by decide +kernel
theorem dX3_letHourGoBy_11 : decode cX3_letHourGoBy 11 = .ok (.aload_n 0, 1) := by decide +kernel
theorem dX3_letHourGoBy_12 : decode cX3_letHourGoBy 12 = .ok (.aload_n 1, 1) := by decide +kernel
theorem dX3_letHourGoBy_13 : decode cX3_letHourGoBy 13 = .ok (.iload_n 2, 1) := by decide +kernel
theorem dX3_letHourGoBy_14 : decode cX3_letHourGoBy 14 = .ok (.invokevirtual 199, 3) := by decide +kernel
theorem dX3_letHourGoBy_17 : decode cX3_letHourGoBy 17 = .ok (.ifCond .ne 5, 3) := by decide +kernel
theorem dX3_letHourGoBy_20 : decode cX3_letHourGoBy 20 = .ok (.iconst 0, 1) := by decide +kernel
theorem dX3_letHourGoBy_21 : decode cX3_letHourGoBy 21 = .ok (.ireturn, 1) := by decide +kernel
theorem dX3_letHourGoBy_22 : decode cX3_letHourGoBy 22 = .ok (.aload_n 1, 1) := by decide +kernel
theorem dX3_letHourGoBy_23 : decode cX3_letHourGoBy 23 = .ok (.invokevirtual 106, 3) := by decide +kernel
theorem dX3_letHourGoBy_26 : decode cX3_letHourGoBy 26 = .ok (.iconst 1, 1) := by decide +kernel
theorem dX3_letHourGoBy_27 : decode cX3_letHourGoBy 27 = .ok (.ireturn, 1) := by decide +kernel
theorem dX3_openLocks_0 : decode cX3_openLocks 0 = .ok (.iconst 0, 1) := by decide +kernel
theorem dX3_openLocks_1 : decode cX3_openLocks 1 = .ok (.istore_n 1, 1) := by decide +kernel
theorem dX3_openLocks_2 : decode cX3_openLocks 2 = .ok (.iconst 0, 1) := by decide +kernel
theorem dX3_openLocks_3 : decode cX3_openLocks 3 = .ok (.istore_n 2, 1) := by decide +kernel
theorem dX3_openLocks_4 : decode cX3_openLocks 4 = .ok (.iload_n 2, 1) := by decide +kernel
theorem dX3_openLocks_5 : decode cX3_openLocks 5 = .ok (.aload_n 0, 1) := by decide +kernel
theorem dX3_openLocks_6 : decode cX3_openLocks 6 = .ok (.getfield 10, 3) := by decide +kernel
theorem dX3_openLocks_9 : decode cX3_openLocks 9 = .ok (.invokevirtual 49, 3) := by decide +kernel
theorem dX3_openLocks_12 : decode cX3_openLocks 12 = .ok (.if_icmp .ge 29, 3) := by decide +kernel
theorem dX3_openLocks_15 : decode cX3_openLocks 15 = .ok (.aload_n 0, 1) := by decide +kernel
theorem dX3_openLocks_16 : decode cX3_openLocks 16 = .ok (.getfield 10, 3) := by decide +kernel
theorem dX3_openLocks_19 : decode cX3_openLocks 19 = .ok (.iload_n 2, 1) := by decide +kernel
theorem dX3_openLocks_20 : decode cX3_openLocks 20 = .ok (.invokevirtual 188, 3) := by decide +kernel
theorem dX3_openLocks_23 : decode cX3_openLocks 23 = .ok (.checkcast 30, 3) := by decide +kernel
theorem dX3_openLocks_26 : decode cX3_openLocks 26 = .ok (.getfield 98, 3) := by decide +kernel
theorem dX3_openLocks_29 : decode cX3_openLocks 29 = .ok (.ifCond .eq 6, 3) := by decide +kernel
theorem dX3_openLocks_32 : decode cX3_openLocks 32 = .ok (.iinc 1 1, 3) := by decide +kernel
theorem dX3_openLocks_35 : decode cX3_openLocks 35 = .ok (.iinc 2 1, 3) := by decide +kernel
theorem dX3_openLocks_38 : decode cX3_openLocks 38 = .ok (.goto (-34), 3) := by decide +kernel
theorem dX3_openLocks_41 : decode cX3_openLocks 41 = .ok (.iload_n 1, 1) := by decide +kernel
theorem dX3_openLocks_42 : decode cX3_openLocks 42 = .ok (.ireturn, 1) := by decide +kernel
theorem dX3_lostWords_0 : decode cX3_lostWords 0 = .ok (.iconst 0, 1) := by decide +kernel
theorem dX3_lostWords_1 : decode cX3_lostWords 1 = .ok (.istore_n 1, 1) := by decide +kernel
theorem dX3_lostWords_2 : decode cX3_lostWords 2 = .ok (.iconst 0, 1) := by decide +kernel
theorem dX3_lostWords_3 : decode cX3_lostWords 3 = .ok (.istore_n 2, 1) := by decide +kernel
theorem dX3_lostWords_4 : decode cX3_lostWords 4 = .ok (.iload_n 2, 1) := by decide +kernel
theorem dX3_lostWords_5 : decode cX3_lostWords 5 = .ok (.aload_n 0, 1) := by decide +kernel
theorem dX3_lostWords_6 : decode cX3_lostWords 6 = .ok (.getfield 10, 3) := by decide +kernel
theorem dX3_lostWords_9 : decode cX3_lostWords 9 = .ok (.invokevirtual 49, 3) := by decide +kernel
theorem dX3_lostWords_12 : decode cX3_lostWords 12 = .ok (.if_icmp .ge 29, 3) := by decide +kernel
theorem dX3_lostWords_15 : decode cX3_lostWords 15 = .ok (.aload_n 0, 1) := by decide +kernel
theorem dX3_lostWords_16 : decode cX3_lostWords 16 = .ok (.getfield 10, 3) := by decide +kernel
theorem dX3_lostWords_19 : decode cX3_lostWords 19 = .ok (.iload_n 2, 1) := by decide +kernel
theorem dX3_lostWords_20 : decode cX3_lostWords 20 = .ok (.invokevirtual 188, 3) := by decide +kernel
theorem dX3_lostWords_23 : decode cX3_lostWords 23 = .ok (.checkcast 30, 3) := by decide +kernel
theorem dX3_lostWords_26 : decode cX3_lostWords 26 = .ok (.getfield 109, 3) := by decide +kernel
theorem dX3_lostWords_29 : decode cX3_lostWords 29 = .ok (.ifCond .eq 6, 3) := by decide +kernel
theorem dX3_lostWords_32 : decode cX3_lostWords 32 = .ok (.iinc 1 1, 3) := by decide +kernel
theorem dX3_lostWords_35 : decode cX3_lostWords 35 = .ok (.iinc 2 1, 3) := by decide +kernel
theorem dX3_lostWords_38 : decode cX3_lostWords 38 = .ok (.goto (-34), 3) := by decide +kernel
theorem dX3_lostWords_41 : decode cX3_lostWords 41 = .ok (.iload_n 1, 1) := by decide +kernel
theorem dX3_lostWords_42 : decode cX3_lostWords 42 = .ok (.ireturn, 1) := by decide +kernel
theorem dX3_allWear_0 : decode cX3_allWear 0 = .ok (.iconst 0, 1) := by decide +kernel
theorem dX3_allWear_1 : decode cX3_allWear 1 = .ok (.istore_n 1, 1) := by decide +kernel
theorem dX3_allWear_2 : decode cX3_allWear 2 = .ok (.iconst 0, 1) := by decide +kernel
theorem dX3_allWear_3 : decode cX3_allWear 3 = .ok (.istore_n 2, 1) := by decide +kernel
theorem dX3_allWear_4 : decode cX3_allWear 4 = .ok (.iload_n 2, 1) := by decide +kernel
theorem dX3_allWear_5 : decode cX3_allWear 5 = .ok (.aload_n 0, 1) := by decide +kernel
theorem dX3_allWear_6 : decode cX3_allWear 6 = .ok (.getfield 10, 3) := by decide +kernel
theorem dX3_allWear_9 : decode cX3_allWear 9 = .ok (.invokevirtual 49, 3) := by decide +kernel
theorem dX3_allWear_12 : decode cX3_allWear 12 = .ok (.if_icmp .ge 26, 3) := by decide +kernel
theorem dX3_allWear_15 : decode cX3_allWear 15 = .ok (.iload_n 1, 1) := by decide +kernel
theorem dX3_allWear_16 : decode cX3_allWear 16 = .ok (.aload_n 0, 1) := by decide +kernel
theorem dX3_allWear_17 : decode cX3_allWear 17 = .ok (.getfield 10, 3) := by decide +kernel
theorem dX3_allWear_20 : decode cX3_allWear 20 = .ok (.iload_n 2, 1) := by decide +kernel
theorem dX3_allWear_21 : decode cX3_allWear 21 = .ok (.invokevirtual 188, 3) := by decide +kernel
theorem dX3_allWear_24 : decode cX3_allWear 24 = .ok (.checkcast 30, 3) := by decide +kernel
theorem dX3_allWear_27 : decode cX3_allWear 27 = .ok (.invokevirtual 250, 3) := by decide +kernel
theorem dX3_allWear_30 : decode cX3_allWear 30 = .ok (.iadd, 1) := by decide +kernel
theorem dX3_allWear_31 : decode cX3_allWear 31 = .ok (.istore_n 1, 1) := by decide +kernel
theorem dX3_allWear_32 : decode cX3_allWear 32 = .ok (.iinc 2 1, 3) := by decide +kernel
theorem dX3_allWear_35 : decode cX3_allWear 35 = .ok (.goto (-31), 3) := by decide +kernel
theorem dX3_allWear_38 : decode cX3_allWear 38 = .ok (.iload_n 1, 1) := by decide +kernel
theorem dX3_allWear_39 : decode cX3_allWear 39 = .ok (.ireturn, 1) := by decide +kernel
theorem dX3_locksInRacks_0 : decode cX3_locksInRacks 0 = .ok (.aload_n 0, 1) := by decide +kernel
theorem dX3_locksInRacks_1 : decode cX3_locksInRacks 1 = .ok (.getfield 10, 3) := by decide +kernel
theorem dX3_locksInRacks_4 : decode cX3_locksInRacks 4 = .ok (.invokevirtual 49, 3) := by decide +kernel
theorem dX3_locksInRacks_7 : decode cX3_locksInRacks 7 = .ok (.aload_n 0, 1) := by decide +kernel
theorem dX3_locksInRacks_8 : decode cX3_locksInRacks 8 = .ok (.iconst (-1), 1) := by decide +kernel
theorem dX3_locksInRacks_9 : decode cX3_locksInRacks 9 = .ok (.invokevirtual 118, 3) := by decide +kernel
theorem dX3_locksInRacks_12 : decode cX3_locksInRacks 12 = .ok (.isub, 1) := by decide +kernel
theorem dX3_locksInRacks_13 : decode cX3_locksInRacks 13 = .ok (.ireturn, 1) := by decide +kernel
theorem dX4_init_0 : decode cX4_init 0 = .ok (.aload_n 0, 1) := by decide +kernel
theorem dX4_init_1 : decode cX4_init 1 = .ok (.invokespecial 3, 3) := by decide +kernel
theorem dX4_init_4 : decode cX4_init 4 = .ok (.aload_n 0, 1) := by decide +kernel
theorem dX4_init_5 : decode cX4_init 5 = .ok (.bipush 64, 2) := by decide +kernel
theorem dX4_init_7 : decode cX4_init 7 = .ok (.newarray .int, 2) := by decide +kernel
theorem dX4_init_9 : decode cX4_init 9 = .ok (.putfield 9, 3) := by decide +kernel
theorem dX4_init_12 : decode cX4_init 12 = .ok (.aload_n 0, 1) := by decide +kernel
theorem dX4_init_13 : decode cX4_init 13 = .ok (.sipush 192, 3) := by decide +kernel
theorem dX4_init_16 : decode cX4_init 16 = .ok (.newarray .int, 2) := by decide +kernel
theorem dX4_init_18 : decode cX4_init 18 = .ok (.putfield 13, 3) := by decide +kernel
theorem dX4_init_21 : decode cX4_init 21 = .ok (.aload_n 0, 1) := by decide +kernel
theorem dX4_init_22 : decode cX4_init 22 = .ok (.bipush 9, 2) := by decide +kernel
theorem dX4_init_24 : decode cX4_init 24 = .ok (.newarray .int, 2) := by decide +kernel
theorem dX4_init_26 : decode cX4_init 26 = .ok (.dup, 1) := by decide +kernel
theorem dX4_init_27 : decode cX4_init 27 = .ok (.iconst 0, 1) := by decide +kernel
theorem dX4_init_28 : decode cX4_init 28 = .ok (.iconst 4, 1) := by decide +kernel
theorem dX4_init_29 : decode cX4_init 29 = .ok (.iastore, 1) := by decide +kernel
theorem dX4_init_30 : decode cX4_init 30 = .ok (.dup, 1) := by decide +kernel
theorem dX4_init_31 : decode cX4_init 31 = .ok (.iconst 1, 1) := by decide +kernel
theorem dX4_init_32 : decode cX4_init 32 = .ok (.iconst 0, 1) := by decide +kernel
theorem dX4_init_33 : decode cX4_init 33 = .ok (.iastore, 1) := by decide +kernel
theorem dX4_init_34 : decode cX4_init 34 = .ok (.dup, 1) := by decide +kernel
theorem dX4_init_35 : decode cX4_init 35 = .ok (.iconst 2, 1) := by decide +kernel
theorem dX4_init_36 : decode cX4_init 36 = .ok (.bipush 24, 2) := by decide +kernel
theorem dX4_init_38 : decode cX4_init 38 = .ok (.iastore, 1) := by decide +kernel
theorem dX4_init_39 : decode cX4_init 39 = .ok (.dup, 1) := by decide +kernel
theorem dX4_init_40 : decode cX4_init 40 = .ok (.iconst 3, 1) := by decide +kernel
theorem dX4_init_41 : decode cX4_init 41 = .ok (.iconst 4, 1) := by decide +kernel
theorem dX4_init_42 : decode cX4_init 42 = .ok (.iastore, 1) := by decide +kernel
theorem dX4_init_43 : decode cX4_init 43 = .ok (.dup, 1) := by decide +kernel
theorem dX4_init_44 : decode cX4_init 44 = .ok (.iconst 4, 1) := by decide +kernel
theorem dX4_init_45 : decode cX4_init 45 = .ok (.iconst 0, 1) := by decide +kernel
theorem dX4_init_46 : decode cX4_init 46 = .ok (.iastore, 1) := by decide +kernel
theorem dX4_init_47 : decode cX4_init 47 = .ok (.dup, 1) := by decide +kernel
theorem dX4_init_48 : decode cX4_init 48 = .ok (.iconst 5, 1) := by decide +kernel
theorem dX4_init_49 : decode cX4_init 49 = .ok (.bipush 24, 2) := by decide +kernel
theorem dX4_init_51 : decode cX4_init 51 = .ok (.iastore, 1) := by decide +kernel
theorem dX4_init_52 : decode cX4_init 52 = .ok (.dup, 1) := by decide +kernel
theorem dX4_init_53 : decode cX4_init 53 = .ok (.bipush 6, 2) := by decide +kernel
theorem dX4_init_55 : decode cX4_init 55 = .ok (.iconst 4, 1) := by decide +kernel
theorem dX4_init_56 : decode cX4_init 56 = .ok (.iastore, 1) := by decide +kernel
theorem dX4_init_57 : decode cX4_init 57 = .ok (.dup, 1) := by decide +kernel
theorem dX4_init_58 : decode cX4_init 58 = .ok (.bipush 7, 2) := by decide +kernel
theorem dX4_init_60 : decode cX4_init 60 = .ok (.iconst 0, 1) := by decide +kernel
theorem dX4_init_61 : decode cX4_init 61 = .ok (.iastore, 1) := by decide +kernel
theorem dX4_init_62 : decode cX4_init 62 = .ok (.dup, 1) := by decide +kernel
theorem dX4_init_63 : decode cX4_init 63 = .ok (.bipush 8, 2) := by decide +kernel
theorem dX4_init_65 : decode cX4_init 65 = .ok (.bipush 24, 2) := by decide +kernel
theorem dX4_init_67 : decode cX4_init 67 = .ok (.iastore, 1) := by decide +kernel
theorem dX4_init_68 : decode cX4_init 68 = .ok (.putfield 16, 3) := by decide +kernel
theorem dX4_init_71 : decode cX4_init 71 = .ok (.return_, 1) := by decide +kernel
theorem dX4_thrown_0 : decode cX4_thrown 0 = .ok (.aload_n 0, 1) := by decide +kernel
theorem dX4_thrown_1 : decode cX4_thrown 1 = .ok (.getfield 19, 3) := by decide +kernel
theorem dX4_thrown_4 : decode cX4_thrown 4 = .ok (.ireturn, 1) := by decide +kernel
theorem dX4_fail_0 : decode cX4_fail 0 = .ok (.aload_n 0, 1) := by decide +kernel
theorem dX4_fail_1 : decode cX4_fail 1 = .ok (.iload_n 1, 1) := by decide +kernel
theorem dX4_fail_2 : decode cX4_fail 2 = .ok (.putfield 19, 3) := by decide +kernel
theorem dX4_fail_5 : decode cX4_fail 5 = .ok (.iconst 0, 1) := by decide +kernel
theorem dX4_fail_6 : decode cX4_fail 6 = .ok (.ireturn, 1) := by decide +kernel
theorem dX4_isIn_0 : decode cX4_isIn 0 = .ok (.iload_n 0, 1) := by decide +kernel
theorem dX4_isIn_1 : decode cX4_isIn 1 = .ok (.iload_n 1, 1) := by decide +kernel
theorem dX4_isIn_2 : decode cX4_isIn 2 = .ok (.if_icmp .lt 12, 3) := by decide +kernel
theorem dX4_isIn_5 : decode cX4_isIn 5 = .ok (.iload_n 0, 1) := by decide +kernel
theorem dX4_isIn_6 : decode cX4_isIn 6 = .ok (.iload_n 2, 1) := by decide +kernel
theorem dX4_isIn_7 : decode cX4_isIn 7 = .ok (.if_icmp .gt 7, 3) := by decide +kernel
theorem dX4_isIn_10 : decode cX4_isIn 10 = .ok (.iconst 1, 1) := by decide +kernel
theorem dX4_isIn_11 : decode cX4_isIn 11 = .ok (.goto 4, 3) := by decide +kernel
theorem dX4_isIn_14 : decode cX4_isIn 14 = .ok (.iconst 0, 1) := by decide +kernel
theorem dX4_isIn_15 : decode cX4_isIn 15 = .ok (.ireturn, 1) := by decide +kernel
theorem dX4_isLock_0 : decode cX4_isLock 0 = .ok (.iload_n 1, 1) := by decide +kernel
theorem dX4_isLock_1 : decode cX4_isLock 1 = .ok (.iconst 0, 1) := by decide +kernel
theorem dX4_isLock_2 : decode cX4_isLock 2 = .ok (.aload_n 0, 1) := by decide +kernel
theorem dX4_isLock_3 : decode cX4_isLock 3 = .ok (.getfield 23, 3) := by decide +kernel
theorem dX4_isLock_6 : decode cX4_isLock 6 = .ok (.iconst 1, 1) := by decide +kernel
theorem dX4_isLock_7 : decode cX4_isLock 7 = .ok (.isub, 1) := by decide +kernel
theorem dX4_isLock_8 : decode cX4_isLock 8 = .ok (.invokestatic 26, 3) := by decide +kernel
theorem dX4_isLock_11 : decode cX4_isLock 11 = .ok (.ireturn, 1) := by decide +kernel
theorem dX4_isWord_0 : decode cX4_isWord 0 = .ok (.iload_n 0, 1) := by decide +kernel
theorem dX4_isWord_1 : decode cX4_isWord 1 = .ok (.iconst 0, 1) := by decide +kernel
theorem dX4_isWord_2 : decode cX4_isWord 2 = .ok (.sipush 1295, 3) := by decide +kernel
theorem dX4_isWord_5 : decode cX4_isWord 5 = .ok (.invokestatic 26, 3) := by decide +kernel
theorem dX4_isWord_8 : decode cX4_isWord 8 = .ok (.ireturn, 1) := by decide +kernel
theorem dX4_isRack_0 : decode cX4_isRack 0 = .ok (.iload_n 0, 1) := by decide +kernel
theorem dX4_isRack_1 : decode cX4_isRack 1 = .ok (.iconst 0, 1) := by decide +kernel
theorem dX4_isRack_2 : decode cX4_isRack 2 = .ok (.iconst 2, 1) := by decide +kernel
theorem dX4_isRack_3 : decode cX4_isRack 3 = .ok (.invokestatic 26, 3) := by decide +kernel
theorem dX4_isRack_6 : decode cX4_isRack 6 = .ok (.ireturn, 1) := by decide +kernel
theorem dX4_lo_0 : decode cX4_lo 0 = .ok (.aload_n 0, 1) := by decide +kernel
theorem dX4_lo_1 : decode cX4_lo 1 = .ok (.getfield 9, 3) := by decide +kernel
theorem dX4_lo_4 : decode cX4_lo 4 = .ok (.bipush 8, 2) := by decide +kernel
theorem dX4_lo_6 : decode cX4_lo 6 = .ok (.iload_n 1, 1) := by decide +kernel
theorem dX4_lo_7 : decode cX4_lo 7 = .ok (.imul, 1) := by decide +kernel
theorem dX4_lo_8 : decode cX4_lo 8 = .ok (.iload_n 2, 1) := by decide +kernel
theorem dX4_lo_9 : decode cX4_lo 9 = .ok (.iadd, 1) := by decide +kernel
theorem dX4_lo_10 : decode cX4_lo 10 = .ok (.iaload, 1) := by decide +kernel
theorem dX4_lo_11 : decode cX4_lo 11 = .ok (.ireturn, 1) := by decide +kernel
theorem dX4_let_0 : decode cX4_let 0 = .ok (.aload_n 0, 1) := by decide +kernel
theorem dX4_let_1 : decode cX4_let 1 = .ok (.getfield 9, 3) := by decide +kernel
theorem dX4_let_4 : decode cX4_let 4 = .ok (.bipush 8, 2) := by decide +kernel
theorem dX4_let_6 : decode cX4_let 6 = .ok (.iload_n 1, 1) := by decide +kernel
theorem dX4_let_7 : decode cX4_let 7 = .ok (.imul, 1) := by decide +kernel
theorem dX4_let_8 : decode cX4_let 8 = .ok (.iload_n 2, 1) := by decide +kernel
theorem dX4_let_9 : decode cX4_let 9 = .ok (.iadd, 1) := by decide +kernel
theorem dX4_let_10 : decode cX4_let 10 = .ok (.iload_n 3, 1) := by decide +kernel
theorem dX4_let_11 : decode cX4_let 11 = .ok (.iastore, 1) := by decide +kernel
theorem dX4_let_12 : decode cX4_let 12 = .ok (.return_, 1) := by decide +kernel
theorem dX4_ra_0 : decode cX4_ra 0 = .ok (.aload_n 0, 1) := by decide +kernel
theorem dX4_ra_1 : decode cX4_ra 1 = .ok (.getfield 16, 3) := by decide +kernel
theorem dX4_ra_4 : decode cX4_ra 4 = .ok (.iconst 3, 1) := by decide +kernel
theorem dX4_ra_5 : decode cX4_ra 5 = .ok (.iload_n 1, 1) := by decide +kernel
theorem dX4_ra_6 : decode cX4_ra 6 = .ok (.imul, 1) := by decide +kernel
theorem dX4_ra_7 : decode cX4_ra 7 = .ok (.iload_n 2, 1) := by decide +kernel
theorem dX4_ra_8 : decode cX4_ra 8 = .ok (.iadd, 1) := by decide +kernel
theorem dX4_ra_9 : decode cX4_ra 9 = .ok (.iaload, 1) := by decide +kernel
theorem dX4_ra_10 : decode cX4_ra 10 = .ok (.ireturn, 1) := by decide +kernel
theorem dX4_we_0 : decode cX4_we 0 = .ok (.aload_n 0, 1) := by decide +kernel
theorem dX4_we_1 : decode cX4_we 1 = .ok (.getfield 13, 3) := by decide +kernel
theorem dX4_we_4 : decode cX4_we 4 = .ok (.bipush 6, 2) := by decide +kernel
theorem dX4_we_6 : decode cX4_we 6 = .ok (.iconst 4, 1) := by decide +kernel
theorem dX4_we_7 : decode cX4_we 7 = .ok (.iload_n 1, 1) := by decide +kernel
theorem dX4_we_8 : decode cX4_we 8 = .ok (.imul, 1) := by decide +kernel
theorem dX4_we_9 : decode cX4_we 9 = .ok (.iload_n 2, 1) := by decide +kernel
theorem dX4_we_10 : decode cX4_we 10 = .ok (.iadd, 1) := by decide +kernel
theorem dX4_we_11 : decode cX4_we 11 = .ok (.imul, 1) := by decide +kernel
theorem dX4_we_12 : decode cX4_we 12 = .ok (.iload_n 3, 1) := by decide +kernel
theorem dX4_we_13 : decode cX4_we 13 = .ok (.iadd, 1) := by decide +kernel
theorem dX4_we_14 : decode cX4_we 14 = .ok (.iaload, 1) := by decide +kernel
theorem dX4_we_15 : decode cX4_we 15 = .ok (.ireturn, 1) := by decide +kernel
theorem dX4_letter_0 : decode cX4_letter 0 = .ok (.iload_n 0, 1) := by decide +kernel
theorem dX4_letter_1 : decode cX4_letter 1 = .ok (.istore_n 2, 1) := by decide +kernel
theorem dX4_letter_2 : decode cX4_letter 2 = .ok (.iload_n 1, 1) := by decide +kernel
theorem dX4_letter_3 : decode cX4_letter 3 = .ok (.iconst 1, 1) := by decide +kernel
theorem dX4_letter_4 : decode cX4_letter 4 = .ok (.iadd, 1) := by decide +kernel
theorem dX4_letter_5 : decode cX4_letter 5 = .ok (.istore_n 3, 1) := by decide +kernel
theorem dX4_letter_6 : decode cX4_letter 6 = .ok (.iload_n 3, 1) := by decide +kernel
theorem dX4_letter_7 : decode cX4_letter 7 = .ok (.iconst 4, 1) := by decide +kernel
theorem dX4_letter_8 : decode cX4_letter 8 = .ok (.if_icmp .ge 14, 3) := by decide +kernel
theorem dX4_letter_11 : decode cX4_letter 11 = .ok (.iload_n 2, 1) := by decide +kernel
theorem dX4_letter_12 : decode cX4_letter 12 = .ok (.bipush 6, 2) := by decide +kernel
theorem dX4_letter_14 : decode cX4_letter 14 = .ok (.idiv, 1) := by decide +kernel
theorem dX4_letter_15 : decode cX4_letter 15 = .ok (.istore_n 2, 1) := by decide +kernel
theorem dX4_letter_16 : decode cX4_letter 16 = .ok (.iinc 3 1, 3) := by decide +kernel
theorem dX4_letter_19 : decode cX4_letter 19 = .ok (.goto (-13), 3) := by decide +kernel
theorem dX4_letter_22 : decode cX4_letter 22 = .ok (.iload_n 2, 1) := by decide +kernel
theorem dX4_letter_23 : decode cX4_letter 23 = .ok (.bipush 6, 2) := by decide +kernel
theorem dX4_letter_25 : decode cX4_letter 25 = .ok (.irem, 1) := by decide +kernel
theorem dX4_letter_26 : decode cX4_letter 26 = .ok (.ireturn, 1) := by decide +kernel
theorem dX4_stands_0 : decode cX4_stands 0 = .ok (.iconst 0, 1) := by decide +kernel
theorem dX4_stands_1 : decode cX4_stands 1 = .ok (.istore_n 2, 1) := by decide +kernel
theorem dX4_stands_2 : decode cX4_stands 2 = .ok (.iconst 0, 1) := by decide +kernel
theorem dX4_stands_3 : decode cX4_stands 3 = .ok (.istore_n 3, 1) := by decide +kernel
theorem dX4_stands_4 : decode cX4_stands 4 = .ok (.iload_n 3, 1) := by decide +kernel
theorem dX4_stands_5 : decode cX4_stands 5 = .ok (.iconst 4, 1) := by decide +kernel
theorem dX4_stands_6 : decode cX4_stands 6 = .ok (.if_icmp .ge 23, 3) := by decide +kernel
theorem dX4_stands_9 : decode cX4_stands 9 = .ok (.bipush 6, 2) := by decide +kernel
theorem dX4_stands_11 : decode cX4_stands 11 = .ok (.iload_n 2, 1) := by decide +kernel
theorem dX4_stands_12 : decode cX4_stands 12 = .ok (.imul, 1) := by decide +kernel
theorem dX4_stands_13 : decode cX4_stands 13 = .ok (.aload_n 0, 1) := by decide +kernel
theorem dX4_stands_14 : decode cX4_stands 14 = .ok (.iload_n 1, 1) := by decide +kernel
theorem dX4_stands_15 : decode cX4_stands 15 = .ok (.iconst 4, 1) := by decide +kernel
theorem dX4_stands_16 : decode cX4_stands 16 = .ok (.iload_n 3, 1) := by decide +kernel
theorem dX4_stands_17 : decode cX4_stands 17 = .ok (.iadd, 1) := by decide +kernel
theorem dX4_stands_18 : decode cX4_stands 18 = .ok (.invokevirtual 30, 3) := by decide +kernel
theorem dX4_stands_21 : decode cX4_stands 21 = .ok (.iadd, 1) := by decide +kernel
theorem dX4_stands_22 : decode cX4_stands 22 = .ok (.istore_n 2, 1) := by decide +kernel
theorem dX4_stands_23 : decode cX4_stands 23 = .ok (.iinc 3 1, 3) := by decide +kernel
theorem dX4_stands_26 : decode cX4_stands 26 = .ok (.goto (-22), 3) := by decide +kernel
theorem dX4_stands_29 : decode cX4_stands 29 = .ok (.iload_n 2, 1) := by decide +kernel
theorem dX4_stands_30 : decode cX4_stands 30 = .ok (.ireturn, 1) := by decide +kernel
theorem dX4_far_0 : decode cX4_far 0 = .ok (.iload_n 0, 1) := by decide +kernel
theorem dX4_far_1 : decode cX4_far 1 = .ok (.iload_n 1, 1) := by decide +kernel
theorem dX4_far_2 : decode cX4_far 2 = .ok (.isub, 1) := by decide +kernel
theorem dX4_far_3 : decode cX4_far 3 = .ok (.invokestatic 34, 3) := by decide +kernel
theorem dX4_far_6 : decode cX4_far 6 = .ok (.istore_n 2, 1) := by decide +kernel
theorem dX4_far_7 : decode cX4_far 7 = .ok (.iload_n 2, 1) := by decide +kernel
theorem dX4_far_8 : decode cX4_far 8 = .ok (.bipush 6, 2) := by decide +kernel
theorem dX4_far_10 : decode cX4_far 10 = .ok (.iload_n 2, 1) := by decide +kernel
theorem dX4_far_11 : decode cX4_far 11 = .ok (.isub, 1) := by decide +kernel
theorem dX4_far_12 : decode cX4_far 12 = .ok (.invokestatic 40, 3) := by decide +kernel
theorem dX4_far_15 : decode cX4_far 15 = .ok (.ireturn, 1) := by decide +kernel
theorem dX4_lock_0 : decode cX4_lock 0 = .ok (.aload_n 0, 1) := by decide +kernel
theorem dX4_lock_1 : decode cX4_lock 1 = .ok (.iconst 0, 1) := by decide +kernel
theorem dX4_lock_2 : decode cX4_lock 2 = .ok (.putfield 19, 3) := by decide +kernel
theorem dX4_lock_5 : decode cX4_lock 5 = .ok (.iload_n 1, 1) := by decide +kernel
theorem dX4_lock_6 : decode cX4_lock 6 = .ok (.invokestatic 43, 3) := by decide +kernel
theorem dX4_lock_9 : decode cX4_lock 9 = .ok (.ifCond .ne 9, 3) := by decide +kernel
theorem dX4_lock_12 : decode cX4_lock 12 = .ok (.aload_n 0, 1) := by decide +kernel
theorem dX4_lock_13 : decode cX4_lock 13 = .ok (.iconst 1, 1) := by decide +kernel
theorem dX4_lock_14 : decode cX4_lock 14 = .ok (.invokevirtual 47, 3) := by decide +kernel
theorem dX4_lock_17 : decode cX4_lock 17 = .ok (.ireturn, 1) := by decide +kernel
theorem dX4_lock_18 : decode cX4_lock 18 = .ok (.aload_n 0, 1) := by decide +kernel
theorem dX4_lock_19 : decode cX4_lock 19 = .ok (.getfield 23, 3) := by decide +kernel
theorem dX4_lock_22 : decode cX4_lock 22 = .ok (.bipush 8, 2) := by decide +kernel
theorem dX4_lock_24 : decode cX4_lock 24 = .ok (.if_icmp .ne 9, 3) := by decide +kernel
theorem dX4_lock_27 : decode cX4_lock 27 = .ok (.aload_n 0, 1) := by decide +kernel
theorem dX4_lock_28 : decode cX4_lock 28 = .ok (.iconst 2, 1) := by decide +kernel
theorem dX4_lock_29 : decode cX4_lock 29 = .ok (.invokevirtual 47, 3) := by decide +kernel
theorem dX4_lock_32 : decode cX4_lock 32 = .ok (.ireturn, 1) := by decide +kernel
theorem dX4_lock_33 : decode cX4_lock 33 = .ok (.aload_n 0, 1) := by decide +kernel
theorem dX4_lock_34 : decode cX4_lock 34 = .ok (.aload_n 0, 1) := by decide +kernel
theorem dX4_lock_35 : decode cX4_lock 35 = .ok (.getfield 23, 3) := by decide +kernel
theorem dX4_lock_38 : decode cX4_lock 38 = .ok (.iconst 0, 1) := by decide +kernel
theorem dX4_lock_39 : decode cX4_lock 39 = .ok (.iload_n 1, 1) := by decide +kernel
theorem dX4_lock_40 : decode cX4_lock 40 = .ok (.invokevirtual 50, 3) := by decide +kernel
theorem dX4_lock_43 : decode cX4_lock 43 = .ok (.aload_n 0, 1) := by decide +kernel
theorem dX4_lock_44 : decode cX4_lock 44 = .ok (.aload_n 0, 1) := by decide +kernel
theorem dX4_lock_45 : decode cX4_lock 45 = .ok (.getfield 23, 3) := by decide +kernel
theorem dX4_lock_48 : decode cX4_lock 48 = .ok (.iconst 1, 1) := by decide +kernel
theorem dX4_lock_49 : decode cX4_lock 49 = .ok (.iconst 1, 1) := by decide +kernel
theorem dX4_lock_50 : decode cX4_lock 50 = .ok (.invokevirtual 50, 3) := by decide +kernel
theorem dX4_lock_53 : decode cX4_lock 53 = .ok (.aload_n 0, 1) := by decide +kernel
theorem dX4_lock_54 : decode cX4_lock 54 = .ok (.aload_n 0, 1) := by decide +kernel
theorem dX4_lock_55 : decode cX4_lock 55 = .ok (.getfield 23, 3) := by decide +kernel
theorem dX4_lock_58 : decode cX4_lock 58 = .ok (.iconst 2, 1) := by decide +kernel
theorem dX4_lock_59 : decode cX4_lock 59 = .ok (.iconst (-1), 1) := by decide +kernel
theorem dX4_lock_60 : decode cX4_lock 60 = .ok (.invokevirtual 50, 3) := by decide +kernel
theorem dX4_lock_63 : decode cX4_lock 63 = .ok (.aload_n 0, 1) := by decide +kernel
theorem dX4_lock_64 : decode cX4_lock 64 = .ok (.dup, 1) := by decide +kernel
theorem dX4_lock_65 : decode cX4_lock 65 = .ok (.getfield 23, 3) := by decide +kernel
theorem dX4_lock_68 : decode cX4_lock 68 = .ok (.iconst 1, 1) := by decide +kernel
theorem dX4_lock_69 : decode cX4_lock 69 = .ok (.iadd, 1) := by decide +kernel
theorem dX4_lock_70 : decode cX4_lock 70 = .ok (.putfield 23, 3) := by decide +kernel
theorem dX4_lock_73 : decode cX4_lock 73 = .ok (.aload_n 0, 1) := by decide +kernel
theorem dX4_lock_74 : decode cX4_lock 74 = .ok (.getfield 23, 3) := by decide +kernel
theorem dX4_lock_77 : decode cX4_lock 77 = .ok (.iconst 1, 1) := by decide +kernel
theorem dX4_lock_78 : decode cX4_lock 78 = .ok (.isub, 1) := by decide +kernel
theorem dX4_lock_79 : decode cX4_lock 79 = .ok (.ireturn, 1) := by decide +kernel
theorem dX4_turn_0 : decode cX4_turn 0 = .ok (.aload_n 0, 1) := by decide +kernel
theorem dX4_turn_1 : decode cX4_turn 1 = .ok (.iconst 0, 1) := by decide +kernel
theorem dX4_turn_2 : decode cX4_turn 2 = .ok (.putfield 19, 3) := by decide +kernel
theorem dX4_turn_5 : decode cX4_turn 5 = .ok (.aload_n 0, 1) := by decide +kernel
theorem dX4_turn_6 : decode cX4_turn 6 = .ok (.iload_n 1, 1) := by decide +kernel
theorem dX4_turn_7 : decode cX4_turn 7 = .ok (.invokevirtual 54, 3) := by decide +kernel
theorem dX4_turn_10 : decode cX4_turn 10 = .ok (.ifCond .eq 12, 3) := by decide +kernel
theorem dX4_turn_13 : decode cX4_turn 13 = .ok (.iload_n 2, 1) := by decide +kernel
theorem dX4_turn_14 : decode cX4_turn 14 = .ok (.iconst 0, 1) := by decide +kernel
theorem dX4_turn_15 : decode cX4_turn 15 = .ok (.iconst 3, 1) := by decide +kernel
theorem dX4_turn_16 : decode cX4_turn 16 = .ok (.invokestatic 26, 3) := by decide +kernel
theorem dX4_turn_19 : decode cX4_turn 19 = .ok (.ifCond .ne 9, 3) := by decide +kernel
theorem dX4_turn_22 : decode cX4_turn 22 = .ok (.aload_n 0, 1) := by decide +kernel
theorem dX4_turn_23 : decode cX4_turn 23 = .ok (.iconst 1, 1) := by decide +kernel
theorem dX4_turn_24 : decode cX4_turn 24 = .ok (.invokevirtual 47, 3) := by decide +kernel
theorem dX4_turn_27 : decode cX4_turn 27 = .ok (.ireturn, 1) := by decide +kernel
theorem dX4_turn_28 : decode cX4_turn 28 = .ok (.iload_n 3, 1) := by decide +kernel
theorem dX4_turn_29 : decode cX4_turn 29 = .ok (.iconst 0, 1) := by decide +kernel
theorem dX4_turn_30 : decode cX4_turn 30 = .ok (.iconst 5, 1) := by decide +kernel
theorem dX4_turn_31 : decode cX4_turn 31 = .ok (.invokestatic 26, 3) := by decide +kernel
theorem dX4_turn_34 : decode cX4_turn 34 = .ok (.ifCond .ne 9, 3) := by decide +kernel
theorem dX4_turn_37 : decode cX4_turn 37 = .ok (.aload_n 0, 1) := by decide +kernel
theorem dX4_turn_38 : decode cX4_turn 38 = .ok (.iconst 2, 1) := by decide +kernel
theorem dX4_turn_39 : decode cX4_turn 39 = .ok (.invokevirtual 47, 3) := by decide +kernel
theorem dX4_turn_42 : decode cX4_turn 42 = .ok (.ireturn, 1) := by decide +kernel
theorem dX4_turn_43 : decode cX4_turn 43 = .ok (.aload_n 0, 1) := by decide +kernel
theorem dX4_turn_44 : decode cX4_turn 44 = .ok (.iload_n 1, 1) := by decide +kernel
theorem dX4_turn_45 : decode cX4_turn 45 = .ok (.iconst 4, 1) := by decide +kernel
theorem dX4_turn_46 : decode cX4_turn 46 = .ok (.iload_n 2, 1) := by decide +kernel
theorem dX4_turn_47 : decode cX4_turn 47 = .ok (.iadd, 1) := by decide +kernel
theorem dX4_turn_48 : decode cX4_turn 48 = .ok (.invokevirtual 30, 3) := by decide +kernel
theorem dX4_turn_51 : decode cX4_turn 51 = .ok (.iload_n 3, 1) := by decide +kernel
theorem dX4_turn_52 : decode cX4_turn 52 = .ok (.invokestatic 57, 3) := by decide +kernel
theorem dX4_turn_55 : decode cX4_turn 55 = .ok (.istore 4, 2) := by decide +kernel
theorem dX4_turn_57 : decode cX4_turn 57 = .ok (.aload_n 0, 1) := by decide +kernel
theorem dX4_turn_58 : decode cX4_turn 58 = .ok (.iload_n 1, 1) := by decide +kernel
theorem dX4_turn_59 : decode cX4_turn 59 = .ok (.iconst 4, 1) := by decide +kernel
theorem dX4_turn_60 : decode cX4_turn 60 = .ok (.iload_n 2, 1) := by decide +kernel
theorem dX4_turn_61 : decode cX4_turn 61 = .ok (.iadd, 1) := by decide +kernel
theorem dX4_turn_62 : decode cX4_turn 62 = .ok (.iload_n 3, 1) := by decide +kernel
theorem dX4_turn_63 : decode cX4_turn 63 = .ok (.invokevirtual 50, 3) := by decide +kernel
theorem dX4_turn_66 : decode cX4_turn 66 = .ok (.aload_n 0, 1) := by decide +kernel
theorem dX4_turn_67 : decode cX4_turn 67 = .ok (.dup, 1) := by decide +kernel
theorem dX4_turn_68 : decode cX4_turn 68 = .ok (.getfield 60, 3) := by decide +kernel
theorem dX4_turn_71 : decode cX4_turn 71 = .ok (.iload 4, 2) := by decide +kernel
theorem dX4_turn_73 : decode cX4_turn 73 = .ok (.iadd, 1) := by decide +kernel
theorem dX4_turn_74 : decode cX4_turn 74 = .ok (.putfield 60, 3) := by decide +kernel
theorem dX4_turn_77 : decode cX4_turn 77 = .ok (.iload 4, 2) := by decide +kernel
theorem dX4_turn_79 : decode cX4_turn 79 = .ok (.ireturn, 1) := by decide +kernel
theorem dX4_open_0 : decode cX4_open 0 = .ok (.aload_n 0, 1) := by decide +kernel
theorem dX4_open_1 : decode cX4_open 1 = .ok (.aload_n 0, 1) := by decide +kernel
theorem dX4_open_2 : decode cX4_open 2 = .ok (.iload_n 1, 1) := by decide +kernel
theorem dX4_open_3 : decode cX4_open 3 = .ok (.invokevirtual 54, 3) := by decide +kernel
theorem dX4_open_6 : decode cX4_open 6 = .ok (.ifCond .eq 7, 3) := by decide +kernel
theorem dX4_open_9 : decode cX4_open 9 = .ok (.iconst 0, 1) := by decide +kernel
theorem dX4_open_10 : decode cX4_open 10 = .ok (.goto 4, 3) := by decide +kernel
theorem dX4_open_13 : decode cX4_open 13 = .ok (.iconst 1, 1) := by decide +kernel
theorem dX4_open_14 : decode cX4_open 14 = .ok (.putfield 19, 3) := by decide +kernel
theorem dX4_open_17 : decode cX4_open 17 = .ok (.aload_n 0, 1) := by decide +kernel
theorem dX4_open_18 : decode cX4_open 18 = .ok (.getfield 19, 3) := by decide +kernel
theorem dX4_open_21 : decode cX4_open 21 = .ok (.ifCond .eq 5, 3) := by decide +kernel
theorem dX4_open_24 : decode cX4_open 24 = .ok (.iconst 0, 1) := by decide +kernel
theorem dX4_open_25 : decode cX4_open 25 = .ok (.ireturn, 1) := by decide +kernel
theorem dX4_open_26 : decode cX4_open 26 = .ok (.aload_n 0, 1) := by decide +kernel
theorem dX4_open_27 : decode cX4_open 27 = .ok (.iload_n 1, 1) := by decide +kernel
theorem dX4_open_28 : decode cX4_open 28 = .ok (.invokevirtual 63, 3) := by decide +kernel
theorem dX4_open_31 : decode cX4_open 31 = .ok (.aload_n 0, 1) := by decide +kernel
theorem dX4_open_32 : decode cX4_open 32 = .ok (.iload_n 1, 1) := by decide +kernel
theorem dX4_open_33 : decode cX4_open 33 = .ok (.iconst 0, 1) := by decide +kernel
theorem dX4_open_34 : decode cX4_open 34 = .ok (.invokevirtual 30, 3) := by decide +kernel
theorem dX4_open_37 : decode cX4_open 37 = .ok (.if_icmp .ne 10, 3) := by decide +kernel
theorem dX4_open_40 : decode cX4_open 40 = .ok (.aload_n 0, 1) := by decide +kernel
theorem dX4_open_41 : decode cX4_open 41 = .ok (.iload_n 1, 1) := by decide +kernel
theorem dX4_open_42 : decode cX4_open 42 = .ok (.iconst 1, 1) := by decide +kernel
theorem dX4_open_43 : decode cX4_open 43 = .ok (.iconst 1, 1) := by decide +kernel
theorem dX4_open_44 : decode cX4_open 44 = .ok (.invokevirtual 50, 3) := by decide +kernel
theorem dX4_open_47 : decode cX4_open 47 = .ok (.aload_n 0, 1) := by decide +kernel
theorem dX4_open_48 : decode cX4_open 48 = .ok (.iload_n 1, 1) := by decide +kernel
theorem dX4_open_49 : decode cX4_open 49 = .ok (.iconst 1, 1) := by decide +kernel
theorem dX4_open_50 : decode cX4_open 50 = .ok (.invokevirtual 30, 3) := by decide +kernel
theorem dX4_open_53 : decode cX4_open 53 = .ok (.iconst 1, 1) := by decide +kernel
theorem dX4_open_54 : decode cX4_open 54 = .ok (.if_icmp .ne 7, 3) := by decide +kernel
theorem dX4_open_57 : decode cX4_open 57 = .ok (.iconst 1, 1) := by decide +kernel
theorem dX4_open_58 : decode cX4_open 58 = .ok (.goto 4, 3) := by decide +kernel
theorem dX4_open_61 : decode cX4_open 61 = .ok (.iconst 0, 1) := by decide +kernel
theorem dX4_open_62 : decode cX4_open 62 = .ok (.ireturn, 1) := by decide +kernel
theorem dX4_close_0 : decode cX4_close 0 = .ok (.aload_n 0, 1) := by decide +kernel
theorem dX4_close_1 : decode cX4_close 1 = .ok (.iload_n 1, 1) := by decide +kernel
theorem dX4_close_2 : decode cX4_close 2 = .ok (.iconst 1, 1) := by decide +kernel
theorem dX4_close_3 : decode cX4_close 3 = .ok (.iconst 0, 1) := by decide +kernel
theorem dX4_close_4 : decode cX4_close 4 = .ok (.invokevirtual 50, 3) := by decide +kernel
theorem dX4_close_7 : decode cX4_close 7 = .ok (.iconst 0, 1) := by decide +kernel
theorem dX4_close_8 : decode cX4_close 8 = .ok (.istore_n 2, 1) := by decide +kernel
theorem dX4_close_9 : decode cX4_close 9 = .ok (.iload_n 2, 1) := by decide +kernel
theorem dX4_close_10 : decode cX4_close 10 = .ok (.iconst 4, 1) := by decide +kernel
theorem dX4_close_11 : decode cX4_close 11 = .ok (.if_icmp .ge 32, 3) := by decide +kernel
theorem dX4_close_14 : decode cX4_close 14 = .ok (.aload_n 0, 1) := by decide +kernel
theorem dX4_close_15 : decode cX4_close 15 = .ok (.iload_n 1, 1) := by decide +kernel
theorem dX4_close_16 : decode cX4_close 16 = .ok (.iconst 4, 1) := by decide +kernel
theorem dX4_close_17 : decode cX4_close 17 = .ok (.iload_n 2, 1) := by decide +kernel
theorem dX4_close_18 : decode cX4_close 18 = .ok (.iadd, 1) := by decide +kernel
theorem dX4_close_19 : decode cX4_close 19 = .ok (.aload_n 0, 1) := by decide +kernel
theorem dX4_close_20 : decode cX4_close 20 = .ok (.iload_n 1, 1) := by decide +kernel
theorem dX4_close_21 : decode cX4_close 21 = .ok (.iconst 4, 1) := by decide +kernel
theorem dX4_close_22 : decode cX4_close 22 = .ok (.iload_n 2, 1) := by decide +kernel
theorem dX4_close_23 : decode cX4_close 23 = .ok (.iadd, 1) := by decide +kernel
theorem dX4_close_24 : decode cX4_close 24 = .ok (.invokevirtual 30, 3) := by decide +kernel
theorem dX4_close_27 : decode cX4_close 27 = .ok (.iload_n 2, 1) := by decide +kernel
theorem dX4_close_28 : decode cX4_close 28 = .ok (.iadd, 1) := by decide +kernel
theorem dX4_close_29 : decode cX4_close 29 = .ok (.iconst 1, 1) := by decide +kernel
theorem dX4_close_30 : decode cX4_close 30 = .ok (.iadd, 1) := by decide +kernel
theorem dX4_close_31 : decode cX4_close 31 = .ok (.bipush 6, 2) := by decide +kernel
theorem dX4_close_33 : decode cX4_close 33 = .ok (.irem, 1) := by decide +kernel
theorem dX4_close_34 : decode cX4_close 34 = .ok (.invokevirtual 50, 3) := by decide +kernel
theorem dX4_close_37 : decode cX4_close 37 = .ok (.iinc 2 1, 3) := by decide +kernel
theorem dX4_close_40 : decode cX4_close 40 = .ok (.goto (-31), 3) := by decide +kernel
theorem dX4_close_43 : decode cX4_close 43 = .ok (.return_, 1) := by decide +kernel
theorem dX4_shut_0 : decode cX4_shut 0 = .ok (.aload_n 0, 1) := by decide +kernel
theorem dX4_shut_1 : decode cX4_shut 1 = .ok (.iconst 0, 1) := by decide +kernel
theorem dX4_shut_2 : decode cX4_shut 2 = .ok (.putfield 19, 3) := by decide +kernel
theorem dX4_shut_5 : decode cX4_shut 5 = .ok (.aload_n 0, 1) := by decide +kernel
theorem dX4_shut_6 : decode cX4_shut 6 = .ok (.iload_n 1, 1) := by decide +kernel
theorem dX4_shut_7 : decode cX4_shut 7 = .ok (.invokevirtual 54, 3) := by decide +kernel
theorem dX4_shut_10 : decode cX4_shut 10 = .ok (.ifCond .ne 9, 3) := by decide +kernel
theorem dX4_shut_13 : decode cX4_shut 13 = .ok (.aload_n 0, 1) := by decide +kernel
theorem dX4_shut_14 : decode cX4_shut 14 = .ok (.iconst 1, 1) := by decide +kernel
theorem dX4_shut_15 : decode cX4_shut 15 = .ok (.invokevirtual 47, 3) := by decide +kernel
theorem dX4_shut_18 : decode cX4_shut 18 = .ok (.ireturn, 1) := by decide +kernel
theorem dX4_shut_19 : decode cX4_shut 19 = .ok (.aload_n 0, 1) := by decide +kernel
theorem dX4_shut_20 : decode cX4_shut 20 = .ok (.iload_n 1, 1) := by decide +kernel
theorem dX4_shut_21 : decode cX4_shut 21 = .ok (.iconst 1, 1) := by decide +kernel
theorem dX4_shut_22 : decode cX4_shut 22 = .ok (.invokevirtual 30, 3) := by decide +kernel
theorem dX4_shut_25 : decode cX4_shut 25 = .ok (.ifCond .ne 9, 3) := by decide +kernel
theorem dX4_shut_28 : decode cX4_shut 28 = .ok (.aload_n 0, 1) := by decide +kernel
theorem dX4_shut_29 : decode cX4_shut 29 = .ok (.iconst 2, 1) := by decide +kernel
theorem dX4_shut_30 : decode cX4_shut 30 = .ok (.invokevirtual 47, 3) := by decide +kernel
theorem dX4_shut_33 : decode cX4_shut 33 = .ok (.ireturn, 1) := by decide +kernel
theorem dX4_shut_34 : decode cX4_shut 34 = .ok (.aload_n 0, 1) := by decide +kernel
theorem dX4_shut_35 : decode cX4_shut 35 = .ok (.iload_n 1, 1) := by decide +kernel
theorem dX4_shut_36 : decode cX4_shut 36 = .ok (.invokevirtual 66, 3) := by decide +kernel
theorem dX4_shut_39 : decode cX4_shut 39 = .ok (.aload_n 0, 1) := by decide +kernel
theorem dX4_shut_40 : decode cX4_shut 40 = .ok (.iload_n 1, 1) := by decide +kernel
theorem dX4_shut_41 : decode cX4_shut 41 = .ok (.invokevirtual 63, 3) := by decide +kernel
theorem dX4_shut_44 : decode cX4_shut 44 = .ok (.ireturn, 1) := by decide +kernel
theorem dX4_rename_0 : decode cX4_rename 0 = .ok (.aload_n 0, 1) := by decide +kernel
theorem dX4_rename_1 : decode cX4_rename 1 = .ok (.iconst 0, 1) := by decide +kernel
theorem dX4_rename_2 : decode cX4_rename 2 = .ok (.putfield 19, 3) := by decide +kernel
theorem dX4_rename_5 : decode cX4_rename 5 = .ok (.aload_n 0, 1) := by decide +kernel
theorem dX4_rename_6 : decode cX4_rename 6 = .ok (.iload_n 1, 1) := by decide +kernel
theorem dX4_rename_7 : decode cX4_rename 7 = .ok (.invokevirtual 54, 3) := by decide +kernel
theorem dX4_rename_10 : decode cX4_rename 10 = .ok (.ifCond .ne 9, 3) := by decide +kernel
theorem dX4_rename_13 : decode cX4_rename 13 = .ok (.aload_n 0, 1) := by decide +kernel
theorem dX4_rename_14 : decode cX4_rename 14 = .ok (.iconst 1, 1) := by decide +kernel
theorem dX4_rename_15 : decode cX4_rename 15 = .ok (.invokevirtual 47, 3) := by decide +kernel
theorem dX4_rename_18 : decode cX4_rename 18 = .ok (.ireturn, 1) := by decide +kernel
theorem dX4_rename_19 : decode cX4_rename 19 = .ok (.iload_n 2, 1) := by decide +kernel
theorem dX4_rename_20 : decode cX4_rename 20 = .ok (.invokestatic 43, 3) := by decide +kernel
theorem dX4_rename_23 : decode cX4_rename 23 = .ok (.ifCond .ne 9, 3) := by decide +kernel
theorem dX4_rename_26 : decode cX4_rename 26 = .ok (.aload_n 0, 1) := by decide +kernel
theorem dX4_rename_27 : decode cX4_rename 27 = .ok (.iconst 2, 1) := by decide +kernel
theorem dX4_rename_28 : decode cX4_rename 28 = .ok (.invokevirtual 47, 3) := by decide +kernel
theorem dX4_rename_31 : decode cX4_rename 31 = .ok (.ireturn, 1) := by decide +kernel
theorem dX4_rename_32 : decode cX4_rename 32 = .ok (.aload_n 0, 1) := by decide +kernel
theorem dX4_rename_33 : decode cX4_rename 33 = .ok (.iload_n 1, 1) := by decide +kernel
theorem dX4_rename_34 : decode cX4_rename 34 = .ok (.iconst 1, 1) := by decide +kernel
theorem dX4_rename_35 : decode cX4_rename 35 = .ok (.invokevirtual 30, 3) := by decide +kernel
theorem dX4_rename_38 : decode cX4_rename 38 = .ok (.ifCond .ne 9, 3) := by decide +kernel
theorem dX4_rename_41 : decode cX4_rename 41 = .ok (.aload_n 0, 1) := by decide +kernel
theorem dX4_rename_42 : decode cX4_rename 42 = .ok (.iconst 3, 1) := by decide +kernel
theorem dX4_rename_43 : decode cX4_rename 43 = .ok (.invokevirtual 47, 3) := by decide +kernel
theorem dX4_rename_46 : decode cX4_rename 46 = .ok (.ireturn, 1) := by decide +kernel
theorem dX4_rename_47 : decode cX4_rename 47 = .ok (.aload_n 0, 1) := by decide +kernel
theorem dX4_rename_48 : decode cX4_rename 48 = .ok (.iload_n 1, 1) := by decide +kernel
theorem dX4_rename_49 : decode cX4_rename 49 = .ok (.iconst 0, 1) := by decide +kernel
theorem dX4_rename_50 : decode cX4_rename 50 = .ok (.invokevirtual 30, 3) := by decide +kernel
theorem dX4_rename_53 : decode cX4_rename 53 = .ok (.istore_n 3, 1) := by decide +kernel
theorem dX4_rename_54 : decode cX4_rename 54 = .ok (.aload_n 0, 1) := by decide +kernel
theorem dX4_rename_55 : decode cX4_rename 55 = .ok (.iload_n 1, 1) := by decide +kernel
theorem dX4_rename_56 : decode cX4_rename 56 = .ok (.iconst 0, 1) := by decide +kernel
theorem dX4_rename_57 : decode cX4_rename 57 = .ok (.iload_n 2, 1) := by decide +kernel
theorem dX4_rename_58 : decode cX4_rename 58 = .ok (.invokevirtual 50, 3) := by decide +kernel
theorem dX4_rename_61 : decode cX4_rename 61 = .ok (.aload_n 0, 1) := by decide +kernel
theorem dX4_rename_62 : decode cX4_rename 62 = .ok (.iload_n 1, 1) := by decide +kernel
theorem dX4_rename_63 : decode cX4_rename 63 = .ok (.iconst 3, 1) := by decide +kernel
theorem dX4_rename_64 : decode cX4_rename 64 = .ok (.iconst 0, 1) := by decide +kernel
theorem dX4_rename_65 : decode cX4_rename 65 = .ok (.invokevirtual 50, 3) := by decide +kernel
theorem dX4_rename_68 : decode cX4_rename 68 = .ok (.iload_n 3, 1) := by decide +kernel
theorem dX4_rename_69 : decode cX4_rename 69 = .ok (.ireturn, 1) := by decide +kernel
theorem dX4_lose_0 : decode cX4_lose 0 = .ok (.aload_n 0, 1) := by decide +kernel
theorem dX4_lose_1 : decode cX4_lose 1 = .ok (.aload_n 0, 1) := by decide +kernel
theorem dX4_lose_2 : decode cX4_lose 2 = .ok (.iload_n 1, 1) := by decide +kernel
theorem dX4_lose_3 : decode cX4_lose 3 = .ok (.invokevirtual 54, 3) := by decide +kernel
theorem dX4_lose_6 : decode cX4_lose 6 = .ok (.ifCond .eq 7, 3) := by decide +kernel
theorem dX4_lose_9 : decode cX4_lose 9 = .ok (.iconst 0, 1) := by decide +kernel
theorem dX4_lose_10 : decode cX4_lose 10 = .ok (.goto 4, 3) := by decide +kernel
theorem dX4_lose_13 : decode cX4_lose 13 = .ok (.iconst 1, 1) := by decide +kernel
theorem dX4_lose_14 : decode cX4_lose 14 = .ok (.putfield 19, 3) := by decide +kernel
theorem dX4_lose_17 : decode cX4_lose 17 = .ok (.aload_n 0, 1) := by decide +kernel
theorem dX4_lose_18 : decode cX4_lose 18 = .ok (.getfield 19, 3) := by decide +kernel
theorem dX4_lose_21 : decode cX4_lose 21 = .ok (.ifCond .eq 5, 3) := by decide +kernel
theorem dX4_lose_24 : decode cX4_lose 24 = .ok (.iconst 0, 1) := by decide +kernel
theorem dX4_lose_25 : decode cX4_lose 25 = .ok (.ireturn, 1) := by decide +kernel
theorem dX4_lose_26 : decode cX4_lose 26 = .ok (.aload_n 0, 1) := by decide +kernel
theorem dX4_lose_27 : decode cX4_lose 27 = .ok (.iload_n 1, 1) := by decide +kernel
theorem dX4_lose_28 : decode cX4_lose 28 = .ok (.iconst 3, 1) := by decide +kernel
theorem dX4_lose_29 : decode cX4_lose 29 = .ok (.invokevirtual 30, 3) := by decide +kernel
theorem dX4_lose_32 : decode cX4_lose 32 = .ok (.iconst 1, 1) := by decide +kernel
theorem dX4_lose_33 : decode cX4_lose 33 = .ok (.if_icmp .ne 7, 3) := by decide +kernel
theorem dX4_lose_36 : decode cX4_lose 36 = .ok (.iconst 1, 1) := by decide +kernel
theorem dX4_lose_37 : decode cX4_lose 37 = .ok (.goto 4, 3) := by decide +kernel
theorem dX4_lose_40 : decode cX4_lose 40 = .ok (.iconst 0, 1) := by decide +kernel
theorem dX4_lose_41 : decode cX4_lose 41 = .ok (.istore_n 3, 1) := by decide +kernel
theorem dX4_lose_42 : decode cX4_lose 42 = .ok (.aload_n 0, 1) := by decide +kernel
theorem dX4_lose_43 : decode cX4_lose 43 = .ok (.iload_n 1, 1) := by decide +kernel
theorem dX4_lose_44 : decode cX4_lose 44 = .ok (.iconst 3, 1) := by decide +kernel
theorem dX4_lose_45 : decode cX4_lose 45 = .ok (.iload_n 2, 1) := by decide +kernel
theorem dX4_lose_46 : decode cX4_lose 46 = .ok (.ifCond .eq 7, 3) := by decide +kernel
theorem dX4_lose_49 : decode cX4_lose 49 = .ok (.iconst 1, 1) := by decide +kernel
theorem dX4_lose_50 : decode cX4_lose 50 = .ok (.goto 4, 3) := by decide +kernel
theorem dX4_lose_53 : decode cX4_lose 53 = .ok (.iconst 0, 1) := by decide +kernel
theorem dX4_lose_54 : decode cX4_lose 54 = .ok (.invokevirtual 50, 3) := by decide +kernel
theorem dX4_lose_57 : decode cX4_lose 57 = .ok (.iload_n 3, 1) := by decide +kernel
theorem dX4_lose_58 : decode cX4_lose 58 = .ok (.ireturn, 1) := by decide +kernel
theorem dX4_in_0 : decode cX4_in 0 = .ok (.iconst 0, 1) := by decide +kernel
theorem dX4_in_1 : decode cX4_in 1 = .ok (.istore_n 2, 1) := by decide +kernel
theorem dX4_in_2 : decode cX4_in 2 = .ok (.iconst 0, 1) := by decide +kernel
theorem dX4_in_3 : decode cX4_in 3 = .ok (.istore_n 3, 1) := by decide +kernel
theorem dX4_in_4 : decode cX4_in 4 = .ok (.iload_n 3, 1) := by decide +kernel
theorem dX4_in_5 : decode cX4_in 5 = .ok (.aload_n 0, 1) := by decide +kernel
theorem dX4_in_6 : decode cX4_in 6 = .ok (.getfield 23, 3) := by decide +kernel
theorem dX4_in_9 : decode cX4_in 9 = .ok (.if_icmp .ge 27, 3) := by decide +kernel
theorem dX4_in_12 : decode cX4_in 12 = .ok (.iload_n 2, 1) := by decide +kernel
theorem dX4_in_13 : decode cX4_in 13 = .ok (.aload_n 0, 1) := by decide +kernel
theorem dX4_in_14 : decode cX4_in 14 = .ok (.iload_n 3, 1) := by decide +kernel
theorem dX4_in_15 : decode cX4_in 15 = .ok (.iconst 2, 1) := by decide +kernel
theorem dX4_in_16 : decode cX4_in 16 = .ok (.invokevirtual 30, 3) := by decide +kernel
theorem dX4_in_19 : decode cX4_in 19 = .ok (.iload_n 1, 1) := by decide +kernel
theorem dX4_in_20 : decode cX4_in 20 = .ok (.if_icmp .ne 7, 3) := by decide +kernel
theorem dX4_in_23 : decode cX4_in 23 = .ok (.iconst 1, 1) := by decide +kernel
theorem dX4_in_24 : decode cX4_in 24 = .ok (.goto 4, 3) := by decide +kernel
theorem dX4_in_27 : decode cX4_in 27 = .ok (.iconst 0, 1) := by decide +kernel
theorem dX4_in_28 : decode cX4_in 28 = .ok (.iadd, 1) := by decide +kernel
theorem dX4_in_29 : decode cX4_in 29 = .ok (.istore_n 2, 1) := by decide +kernel
theorem dX4_in_30 : decode cX4_in 30 = .ok (.iinc 3 1, 3) := by decide +kernel
theorem dX4_in_33 : decode cX4_in 33 = .ok (.goto (-29), 3) := by decide +kernel
theorem dX4_in_36 : decode cX4_in 36 = .ok (.iload_n 2, 1) := by decide +kernel
theorem dX4_in_37 : decode cX4_in 37 = .ok (.ireturn, 1) := by decide +kernel
theorem dX4_isOpen_0 : decode cX4_isOpen 0 = .ok (.aload_n 0, 1) := by decide +kernel
theorem dX4_isOpen_1 : decode cX4_isOpen 1 = .ok (.getfield 70, 3) := by decide +kernel
theorem dX4_isOpen_4 : decode cX4_isOpen 4 = .ok (.bipush 24, 2) := by decide +kernel
theorem dX4_isOpen_6 : decode cX4_isOpen 6 = .ok (.irem, 1) := by decide +kernel
theorem dX4_isOpen_7 : decode cX4_isOpen 7 = .ok (.istore_n 2, 1) := by decide +kernel
theorem dX4_isOpen_8 : decode cX4_isOpen 8 = .ok (.aload_n 0, 1) := by decide +kernel
theorem dX4_isOpen_9 : decode cX4_isOpen 9 = .ok (.iload_n 1, 1) := by decide +kernel
theorem dX4_isOpen_10 : decode cX4_isOpen 10 = .ok (.iconst 1, 1) := by decide +kernel
theorem dX4_isOpen_11 : decode cX4_isOpen 11 = .ok (.invokevirtual 73, 3) := by decide +kernel
theorem dX4_isOpen_14 : decode cX4_isOpen 14 = .ok (.istore_n 3, 1) := by decide +kernel
theorem dX4_isOpen_15 : decode cX4_isOpen 15 = .ok (.aload_n 0, 1) := by decide +kernel
theorem dX4_isOpen_16 : decode cX4_isOpen 16 = .ok (.iload_n 1, 1) := by decide +kernel
theorem dX4_isOpen_17 : decode cX4_isOpen 17 = .ok (.iconst 2, 1) := by decide +kernel
theorem dX4_isOpen_18 : decode cX4_isOpen 18 = .ok (.invokevirtual 73, 3) := by decide +kernel
theorem dX4_isOpen_21 : decode cX4_isOpen 21 = .ok (.istore 4, 2) := by decide +kernel
theorem dX4_isOpen_23 : decode cX4_isOpen 23 = .ok (.iload_n 3, 1) := by decide +kernel
theorem dX4_isOpen_24 : decode cX4_isOpen 24 = .ok (.iload 4, 2) := by decide +kernel
theorem dX4_isOpen_26 : decode cX4_isOpen 26 = .ok (.if_icmp .ge 22, 3) := by decide +kernel
theorem dX4_isOpen_29 : decode cX4_isOpen 29 = .ok (.iload_n 2, 1) := by decide +kernel
theorem dX4_isOpen_30 : decode cX4_isOpen 30 = .ok (.iload_n 3, 1) := by decide +kernel
theorem dX4_isOpen_31 : decode cX4_isOpen 31 = .ok (.if_icmp .lt 13, 3) := by decide +kernel
theorem dX4_isOpen_34 : decode cX4_isOpen 34 = .ok (.iload_n 2, 1) := by decide +kernel
theorem dX4_isOpen_35 : decode cX4_isOpen 35 = .ok (.iload 4, 2) := by decide +kernel
theorem dX4_isOpen_37 : decode cX4_isOpen 37 = .ok (.if_icmp .ge 7, 3) := by decide +kernel
theorem dX4_isOpen_40 : decode cX4_isOpen 40 = .ok (.iconst 1, 1) := by decide +kernel
theorem dX4_isOpen_41 : decode cX4_isOpen 41 = .ok (.goto 29, 3) := by decide +kernel
theorem dX4_isOpen_44 : decode cX4_isOpen 44 = .ok (.iconst 0, 1) := by decide +kernel
theorem dX4_isOpen_45 : decode cX4_isOpen 45 = .ok (.goto 25, 3) := by decide +kernel
theorem dX4_isOpen_48 : decode cX4_isOpen 48 = .ok (.iload_n 3, 1) := by decide +kernel
theorem dX4_isOpen_49 : decode cX4_isOpen 49 = .ok (.iload 4, 2) := by decide +kernel
theorem dX4_isOpen_51 : decode cX4_isOpen 51 = .ok (.if_icmp .le 18, 3) := by decide +kernel
theorem dX4_isOpen_54 : decode cX4_isOpen 54 = .ok (.iload_n 2, 1) := by decide +kernel
theorem dX4_isOpen_55 : decode cX4_isOpen 55 = .ok (.iload_n 3, 1) := by decide +kernel
theorem dX4_isOpen_56 : decode cX4_isOpen 56 = .ok (.if_icmp .ge 9, 3) := by decide +kernel
theorem dX4_isOpen_59 : decode cX4_isOpen 59 = .ok (.iload_n 2, 1) := by decide +kernel
theorem dX4_isOpen_60 : decode cX4_isOpen 60 = .ok (.iload 4, 2) := by decide +kernel
theorem dX4_isOpen_62 : decode cX4_isOpen 62 = .ok (.if_icmp .ge 7, 3) := by decide +kernel
theorem dX4_isOpen_65 : decode cX4_isOpen 65 = .ok (.iconst 1, 1) := by decide +kernel
theorem dX4_isOpen_66 : decode cX4_isOpen 66 = .ok (.goto 4, 3) := by decide +kernel
theorem dX4_isOpen_69 : decode cX4_isOpen 69 = .ok (.iconst 0, 1) := by decide +kernel
theorem dX4_isOpen_70 : decode cX4_isOpen 70 = .ok (.ireturn, 1) := by decide +kernel
theorem dX4_setPlaces_0 : decode cX4_setPlaces 0 = .ok (.aload_n 0, 1) := by decide +kernel
theorem dX4_setPlaces_1 : decode cX4_setPlaces 1 = .ok (.iconst 0, 1) := by decide +kernel
theorem dX4_setPlaces_2 : decode cX4_setPlaces 2 = .ok (.putfield 19, 3) := by decide +kernel
theorem dX4_setPlaces_5 : decode cX4_setPlaces 5 = .ok (.iload_n 1, 1) := by decide +kernel
theorem dX4_setPlaces_6 : decode cX4_setPlaces 6 = .ok (.invokestatic 76, 3) := by decide +kernel
theorem dX4_setPlaces_9 : decode cX4_setPlaces 9 = .ok (.ifCond .ne 9, 3) := by decide +kernel
theorem dX4_setPlaces_12 : decode cX4_setPlaces 12 = .ok (.aload_n 0, 1) := by decide +kernel
theorem dX4_setPlaces_13 : decode cX4_setPlaces 13 = .ok (.iconst 1, 1) := by decide +kernel
theorem dX4_setPlaces_14 : decode cX4_setPlaces 14 = .ok (.invokevirtual 47, 3) := by decide +kernel
theorem dX4_setPlaces_17 : decode cX4_setPlaces 17 = .ok (.ireturn, 1) := by decide +kernel
theorem dX4_setPlaces_18 : decode cX4_setPlaces 18 = .ok (.iload_n 2, 1) := by decide +kernel
theorem dX4_setPlaces_19 : decode cX4_setPlaces 19 = .ok (.iconst 1, 1) := by decide +kernel
theorem dX4_setPlaces_20 : decode cX4_setPlaces 20 = .ok (.bipush 6, 2) := by decide +kernel
theorem dX4_setPlaces_22 : decode cX4_setPlaces 22 = .ok (.invokestatic 26, 3) := by decide +kernel
theorem dX4_setPlaces_25 : decode cX4_setPlaces 25 = .ok (.ifCond .ne 9, 3) := by decide +kernel
theorem dX4_setPlaces_28 : decode cX4_setPlaces 28 = .ok (.aload_n 0, 1) := by decide +kernel
theorem dX4_setPlaces_29 : decode cX4_setPlaces 29 = .ok (.iconst 2, 1) := by decide +kernel
theorem dX4_setPlaces_30 : decode cX4_setPlaces 30 = .ok (.invokevirtual 47, 3) := by decide +kernel
theorem dX4_setPlaces_33 : decode cX4_setPlaces 33 = .ok (.ireturn, 1) := by decide +kernel
theorem dX4_setPlaces_34 : decode cX4_setPlaces 34 = .ok (.aload_n 0, 1) := by decide +kernel
theorem dX4_setPlaces_35 : decode cX4_setPlaces 35 = .ok (.iload_n 1, 1) := by decide +kernel
theorem dX4_setPlaces_36 : decode cX4_setPlaces 36 = .ok (.invokevirtual 79, 3) := by decide +kernel
theorem dX4_setPlaces_39 : decode cX4_setPlaces 39 = .ok (.iload_n 2, 1) := by decide +kernel
theorem dX4_setPlaces_40 : decode cX4_setPlaces 40 = .ok (.if_icmp .le 9, 3) := by decide +kernel
theorem dX4_setPlaces_43 : decode cX4_setPlaces 43 = .ok (.aload_n 0, 1) := by decide +kernel
theorem dX4_setPlaces_44 : decode cX4_setPlaces 44 = .ok (.iconst 3, 1) := by decide +kernel
theorem dX4_setPlaces_45 : decode cX4_setPlaces 45 = .ok (.invokevirtual 47, 3) := by decide +kernel
theorem dX4_setPlaces_48 : decode cX4_setPlaces 48 = .ok (.ireturn, 1) := by decide +kernel
theorem dX4_setPlaces_49 : decode cX4_setPlaces 49 = .ok (.aload_n 0, 1) := by decide +kernel
theorem dX4_setPlaces_50 : decode cX4_setPlaces 50 = .ok (.iload_n 1, 1) := by decide +kernel
theorem dX4_setPlaces_51 : decode cX4_setPlaces 51 = .ok (.iconst 0, 1) := by decide +kernel
theorem dX4_setPlaces_52 : decode cX4_setPlaces 52 = .ok (.invokevirtual 73, 3) := by decide +kernel
theorem dX4_setPlaces_55 : decode cX4_setPlaces 55 = .ok (.istore_n 3, 1) := by decide +kernel
theorem dX4_setPlaces_56 : decode cX4_setPlaces 56 = .ok (.aload_n 0, 1) := by decide +kernel
theorem dX4_setPlaces_57 : decode cX4_setPlaces 57 = .ok (.getfield 16, 3) := by decide +kernel
theorem dX4_setPlaces_60 : decode cX4_setPlaces 60 = .ok (.iconst 3, 1) := by decide +kernel
theorem dX4_setPlaces_61 : decode cX4_setPlaces 61 = .ok (.iload_n 1, 1) := by decide +kernel
theorem dX4_setPlaces_62 : decode cX4_setPlaces 62 = .ok (.imul, 1) := by decide +kernel
theorem dX4_setPlaces_63 : decode cX4_setPlaces 63 = .ok (.iconst 0, 1) := by decide +kernel
theorem dX4_setPlaces_64 : decode cX4_setPlaces 64 = .ok (.iadd, 1) := by decide +kernel
theorem dX4_setPlaces_65 : decode cX4_setPlaces 65 = .ok (.iload_n 2, 1) := by decide +kernel
theorem dX4_setPlaces_66 : decode cX4_setPlaces 66 = .ok (.iastore, 1) := by decide +kernel
theorem dX4_setPlaces_67 : decode cX4_setPlaces 67 = .ok (.iload_n 3, 1) := by decide +kernel
theorem dX4_setPlaces_68 : decode cX4_setPlaces 68 = .ok (.ireturn, 1) := by decide +kernel
theorem dX4_setHours_0 : decode cX4_setHours 0 = .ok (.aload_n 0, 1) := by decide +kernel
theorem dX4_setHours_1 : decode cX4_setHours 1 = .ok (.iconst 0, 1) := by decide +kernel
theorem dX4_setHours_2 : decode cX4_setHours 2 = .ok (.putfield 19, 3) := by decide +kernel
theorem dX4_setHours_5 : decode cX4_setHours 5 = .ok (.iload_n 1, 1) := by decide +kernel
theorem dX4_setHours_6 : decode cX4_setHours 6 = .ok (.invokestatic 76, 3) := by decide +kernel
theorem dX4_setHours_9 : decode cX4_setHours 9 = .ok (.ifCond .ne 9, 3) := by decide +kernel
theorem dX4_setHours_12 : decode cX4_setHours 12 = .ok (.aload_n 0, 1) := by decide +kernel
theorem dX4_setHours_13 : decode cX4_setHours 13 = .ok (.iconst 1, 1) := by decide +kernel
theorem dX4_setHours_14 : decode cX4_setHours 14 = .ok (.invokevirtual 47, 3) := by decide +kernel
theorem dX4_setHours_17 : decode cX4_setHours 17 = .ok (.ireturn, 1) := by decide +kernel
theorem dX4_setHours_18 : decode cX4_setHours 18 = .ok (.iload_n 2, 1) := by decide +kernel
theorem dX4_setHours_19 : decode cX4_setHours 19 = .ok (.iconst 0, 1) := by decide +kernel
theorem dX4_setHours_20 : decode cX4_setHours 20 = .ok (.bipush 23, 2) := by decide +kernel
theorem dX4_setHours_22 : decode cX4_setHours 22 = .ok (.invokestatic 26, 3) := by decide +kernel
theorem dX4_setHours_25 : decode cX4_setHours 25 = .ok (.ifCond .eq 13, 3) := by decide +kernel
theorem dX4_setHours_28 : decode cX4_setHours 28 = .ok (.iload_n 3, 1) := by decide +kernel
theorem dX4_setHours_29 : decode cX4_setHours 29 = .ok (.iconst 0, 1) := by decide +kernel
theorem dX4_setHours_30 : decode cX4_setHours 30 = .ok (.bipush 24, 2) := by decide +kernel
theorem dX4_setHours_32 : decode cX4_setHours 32 = .ok (.invokestatic 26, 3) := by decide +kernel
theorem dX4_setHours_35 : decode cX4_setHours 35 = .ok (.ifCond .ne 9, 3) := by decide +kernel
theorem dX4_setHours_38 : decode cX4_setHours 38 = .ok (.aload_n 0, 1) := by decide +kernel
theorem dX4_setHours_39 : decode cX4_setHours 39 = .ok (.iconst 2, 1) := by decide +kernel
theorem dX4_setHours_40 : decode cX4_setHours 40 = .ok (.invokevirtual 47, 3) := by decide +kernel
theorem dX4_setHours_43 : decode cX4_setHours 43 = .ok (.ireturn, 1) := by decide +kernel
theorem dX4_setHours_44 : decode cX4_setHours 44 = .ok (.bipush 25, 2) := by decide +kernel
theorem dX4_setHours_46 : decode cX4_setHours 46 = .ok (.aload_n 0, 1) := by decide +kernel
theorem dX4_setHours_47 : decode cX4_setHours 47 = .ok (.iload_n 1, 1) := by decide +kernel
theorem dX4_setHours_48 : decode cX4_setHours 48 = .ok (.iconst 1, 1) := by decide +kernel
theorem dX4_setHours_49 : decode cX4_setHours 49 = .ok (.invokevirtual 73, 3) := by decide +kernel
theorem dX4_setHours_52 : decode cX4_setHours 52 = .ok (.imul, 1) := by decide +kernel
theorem dX4_setHours_53 : decode cX4_setHours 53 = .ok (.aload_n 0, 1) := by decide +kernel
theorem dX4_setHours_54 : decode cX4_setHours 54 = .ok (.iload_n 1, 1) := by decide +kernel
theorem dX4_setHours_55 : decode cX4_setHours 55 = .ok (.iconst 2, 1) := by decide +kernel
theorem dX4_setHours_56 : decode cX4_setHours 56 = .ok (.invokevirtual 73, 3) := by decide +kernel
theorem dX4_setHours_59 : decode cX4_setHours 59 = .ok (.iadd, 1) := by decide +kernel
theorem dX4_setHours_60 : decode cX4_setHours 60 = .ok (.istore 4, 2) := by decide +kernel
theorem dX4_setHours_62 : decode cX4_setHours 62 = .ok (.aload_n 0, 1) := by decide +kernel
theorem dX4_setHours_63 : decode cX4_setHours 63 = .ok (.getfield 16, 3) := by decide +kernel
theorem dX4_setHours_66 : decode cX4_setHours 66 = .ok (.iconst 3, 1) := by decide +kernel
theorem dX4_setHours_67 : decode cX4_setHours 67 = .ok (.iload_n 1, 1) := by decide +kernel
theorem dX4_setHours_68 : decode cX4_setHours 68 = .ok (.imul, 1) := by decide +kernel
theorem dX4_setHours_69 : decode cX4_setHours 69 = .ok (.iconst 1, 1) := by decide +kernel
theorem dX4_setHours_70 : decode cX4_setHours 70 = .ok (.iadd, 1) := by decide +kernel
theorem dX4_setHours_71 : decode cX4_setHours 71 = .ok (.iload_n 2, 1) := by decide +kernel
theorem dX4_setHours_72 : decode cX4_setHours 72 = .ok (.iastore, 1) := by decide +kernel
theorem dX4_setHours_73 : decode cX4_setHours 73 = .ok (.aload_n 0, 1) := by decide +kernel
theorem dX4_setHours_74 : decode cX4_setHours 74 = .ok (.getfield 16, 3) := by decide +kernel
theorem dX4_setHours_77 : decode cX4_setHours 77 = .ok (.iconst 3, 1) := by decide +kernel
theorem dX4_setHours_78 : decode cX4_setHours 78 = .ok (.iload_n 1, 1) := by decide +kernel
theorem dX4_setHours_79 : decode cX4_setHours 79 = .ok (.imul, 1) := by decide +kernel
theorem dX4_setHours_80 : decode cX4_setHours 80 = .ok (.iconst 2, 1) := by decide +kernel
theorem dX4_setHours_81 : decode cX4_setHours 81 = .ok (.iadd, 1) := by decide +kernel
theorem dX4_setHours_82 : decode cX4_setHours 82 = .ok (.iload_n 3, 1) := by decide +kernel
theorem dX4_setHours_83 : decode cX4_setHours 83 = .ok (.iastore, 1) := by decide +kernel
theorem dX4_setHours_84 : decode cX4_setHours 84 = .ok (.iload 4, 2) := by decide +kernel
theorem dX4_setHours_86 : decode cX4_setHours 86 = .ok (.ireturn, 1) := by decide +kernel
theorem dX4_put_0 : decode cX4_put 0 = .ok (.aload_n 0, 1) := by decide +kernel
theorem dX4_put_1 : decode cX4_put 1 = .ok (.iconst 0, 1) := by decide +kernel
theorem dX4_put_2 : decode cX4_put 2 = .ok (.putfield 19, 3) := by decide +kernel
theorem dX4_put_5 : decode cX4_put 5 = .ok (.aload_n 0, 1) := by decide +kernel
theorem dX4_put_6 : decode cX4_put 6 = .ok (.iload_n 1, 1) := by decide +kernel
theorem dX4_put_7 : decode cX4_put 7 = .ok (.invokevirtual 54, 3) := by decide +kernel
theorem dX4_put_10 : decode cX4_put 10 = .ok (.ifCond .eq 15, 3) := by decide +kernel
theorem dX4_put_13 : decode cX4_put 13 = .ok (.iload_n 2, 1) := by decide +kernel
theorem dX4_put_14 : decode cX4_put 14 = .ok (.iconst (-1), 1) := by decide +kernel
theorem dX4_put_15 : decode cX4_put 15 = .ok (.if_icmp .eq 16, 3) := by decide +kernel
theorem dX4_put_18 : decode cX4_put 18 = .ok (.iload_n 2, 1) := by decide +kernel
theorem dX4_put_19 : decode cX4_put 19 = .ok (.invokestatic 76, 3) := by decide +kernel
theorem dX4_put_22 : decode cX4_put 22 = .ok (.ifCond .ne 9, 3) := by decide +kernel
theorem dX4_put_25 : decode cX4_put 25 = .ok (.aload_n 0, 1) := by decide +kernel
theorem dX4_put_26 : decode cX4_put 26 = .ok (.iconst 1, 1) := by decide +kernel
theorem dX4_put_27 : decode cX4_put 27 = .ok (.invokevirtual 47, 3) := by decide +kernel
theorem dX4_put_30 : decode cX4_put 30 = .ok (.ireturn, 1) := by decide +kernel
theorem dX4_put_31 : decode cX4_put 31 = .ok (.aload_n 0, 1) := by decide +kernel
theorem dX4_put_32 : decode cX4_put 32 = .ok (.iload_n 1, 1) := by decide +kernel
theorem dX4_put_33 : decode cX4_put 33 = .ok (.iconst 2, 1) := by decide +kernel
theorem dX4_put_34 : decode cX4_put 34 = .ok (.invokevirtual 30, 3) := by decide +kernel
theorem dX4_put_37 : decode cX4_put 37 = .ok (.istore_n 3, 1) := by decide +kernel
theorem dX4_put_38 : decode cX4_put 38 = .ok (.iload_n 3, 1) := by decide +kernel
theorem dX4_put_39 : decode cX4_put 39 = .ok (.iload_n 2, 1) := by decide +kernel
theorem dX4_put_40 : decode cX4_put 40 = .ok (.if_icmp .ne 5, 3) := by decide +kernel
theorem dX4_put_43 : decode cX4_put 43 = .ok (.iload_n 3, 1) := by decide +kernel
theorem dX4_put_44 : decode cX4_put 44 = .ok (.ireturn, 1) := by decide +kernel
theorem dX4_put_45 : decode cX4_put 45 = .ok (.aload_n 0, 1) := by decide +kernel
theorem dX4_put_46 : decode cX4_put 46 = .ok (.iload_n 1, 1) := by decide +kernel
theorem dX4_put_47 : decode cX4_put 47 = .ok (.iconst 1, 1) := by decide +kernel
theorem dX4_put_48 : decode cX4_put 48 = .ok (.invokevirtual 30, 3) := by decide +kernel
theorem dX4_put_51 : decode cX4_put 51 = .ok (.ifCond .eq 30, 3) := by decide +kernel
theorem dX4_put_54 : decode cX4_put 54 = .ok (.iload_n 2, 1) := by decide +kernel
theorem dX4_put_55 : decode cX4_put 55 = .ok (.iconst (-1), 1) := by decide +kernel
theorem dX4_put_56 : decode cX4_put 56 = .ok (.if_icmp .eq 31, 3) := by decide +kernel
theorem dX4_put_59 : decode cX4_put 59 = .ok (.aload_n 0, 1) := by decide +kernel
theorem dX4_put_60 : decode cX4_put 60 = .ok (.iload_n 2, 1) := by decide +kernel
theorem dX4_put_61 : decode cX4_put 61 = .ok (.invokevirtual 82, 3) := by decide +kernel
theorem dX4_put_64 : decode cX4_put 64 = .ok (.ifCond .eq 17, 3) := by decide +kernel
theorem dX4_put_67 : decode cX4_put 67 = .ok (.aload_n 0, 1) := by decide +kernel
theorem dX4_put_68 : decode cX4_put 68 = .ok (.iload_n 2, 1) := by decide +kernel
theorem dX4_put_69 : decode cX4_put 69 = .ok (.invokevirtual 79, 3) := by decide +kernel
theorem dX4_put_72 : decode cX4_put 72 = .ok (.aload_n 0, 1) := by decide +kernel
theorem dX4_put_73 : decode cX4_put 73 = .ok (.iload_n 2, 1) := by decide +kernel
theorem dX4_put_74 : decode cX4_put 74 = .ok (.iconst 0, 1) := by decide +kernel
theorem dX4_put_75 : decode cX4_put 75 = .ok (.invokevirtual 73, 3) := by decide +kernel
theorem dX4_put_78 : decode cX4_put 78 = .ok (.if_icmp .lt 9, 3) := by decide +kernel
theorem dX4_put_81 : decode cX4_put 81 = .ok (.aload_n 0, 1) := by decide +kernel
theorem dX4_put_82 : decode cX4_put 82 = .ok (.iconst 2, 1) := by decide +kernel
theorem dX4_put_83 : decode cX4_put 83 = .ok (.invokevirtual 47, 3) := by decide +kernel
theorem dX4_put_86 : decode cX4_put 86 = .ok (.ireturn, 1) := by decide +kernel
theorem dX4_put_87 : decode cX4_put 87 = .ok (.aload_n 0, 1) := by decide +kernel
theorem dX4_put_88 : decode cX4_put 88 = .ok (.iload_n 1, 1) := by decide +kernel
theorem dX4_put_89 : decode cX4_put 89 = .ok (.iconst 2, 1) := by decide +kernel
theorem dX4_put_90 : decode cX4_put 90 = .ok (.iload_n 2, 1) := by decide +kernel
theorem dX4_put_91 : decode cX4_put 91 = .ok (.invokevirtual 50, 3) := by decide +kernel
theorem dX4_put_94 : decode cX4_put 94 = .ok (.iload_n 3, 1) := by decide +kernel
theorem dX4_put_95 : decode cX4_put 95 = .ok (.ireturn, 1) := by decide +kernel
theorem dX4_shows_0 : decode cX4_shows 0 = .ok (.iconst 0, 1) := by decide +kernel
theorem dX4_shows_1 : decode cX4_shows 1 = .ok (.istore_n 2, 1) := by decide +kernel
theorem dX4_shows_2 : decode cX4_shows 2 = .ok (.iconst 0, 1) := by decide +kernel
theorem dX4_shows_3 : decode cX4_shows 3 = .ok (.istore_n 3, 1) := by decide +kernel
theorem dX4_shows_4 : decode cX4_shows 4 = .ok (.iload_n 3, 1) := by decide +kernel
theorem dX4_shows_5 : decode cX4_shows 5 = .ok (.iconst 4, 1) := by decide +kernel
theorem dX4_shows_6 : decode cX4_shows 6 = .ok (.if_icmp .ge 59, 3) := by decide +kernel
theorem dX4_shows_9 : decode cX4_shows 9 = .ok (.iconst 0, 1) := by decide +kernel
theorem dX4_shows_10 : decode cX4_shows 10 = .ok (.istore 4, 2) := by decide +kernel
theorem dX4_shows_12 : decode cX4_shows 12 = .ok (.iconst 1, 1) := by decide +kernel
theorem dX4_shows_13 : decode cX4_shows 13 = .ok (.istore 5, 2) := by decide +kernel
theorem dX4_shows_15 : decode cX4_shows 15 = .ok (.iload 5, 2) := by decide +kernel
theorem dX4_shows_17 : decode cX4_shows 17 = .ok (.bipush 6, 2) := by decide +kernel
theorem dX4_shows_19 : decode cX4_shows 19 = .ok (.if_icmp .ge 32, 3) := by decide +kernel
theorem dX4_shows_22 : decode cX4_shows 22 = .ok (.aload_n 0, 1) := by decide +kernel
theorem dX4_shows_23 : decode cX4_shows 23 = .ok (.iload_n 1, 1) := by decide +kernel
theorem dX4_shows_24 : decode cX4_shows 24 = .ok (.iload_n 3, 1) := by decide +kernel
theorem dX4_shows_25 : decode cX4_shows 25 = .ok (.iload 5, 2) := by decide +kernel
theorem dX4_shows_27 : decode cX4_shows 27 = .ok (.invokevirtual 85, 3) := by decide +kernel
theorem dX4_shows_30 : decode cX4_shows 30 = .ok (.aload_n 0, 1) := by decide +kernel
theorem dX4_shows_31 : decode cX4_shows 31 = .ok (.iload_n 1, 1) := by decide +kernel
theorem dX4_shows_32 : decode cX4_shows 32 = .ok (.iload_n 3, 1) := by decide +kernel
theorem dX4_shows_33 : decode cX4_shows 33 = .ok (.iload 4, 2) := by decide +kernel
theorem dX4_shows_35 : decode cX4_shows 35 = .ok (.invokevirtual 85, 3) := by decide +kernel
theorem dX4_shows_38 : decode cX4_shows 38 = .ok (.if_icmp .le 7, 3) := by decide +kernel
theorem dX4_shows_41 : decode cX4_shows 41 = .ok (.iload 5, 2) := by decide +kernel
theorem dX4_shows_43 : decode cX4_shows 43 = .ok (.istore 4, 2) := by decide +kernel
theorem dX4_shows_45 : decode cX4_shows 45 = .ok (.iinc 5 1, 3) := by decide +kernel
theorem dX4_shows_48 : decode cX4_shows 48 = .ok (.goto (-33), 3) := by decide +kernel
theorem dX4_shows_51 : decode cX4_shows 51 = .ok (.bipush 6, 2) := by decide +kernel
theorem dX4_shows_53 : decode cX4_shows 53 = .ok (.iload_n 2, 1) := by decide +kernel
theorem dX4_shows_54 : decode cX4_shows 54 = .ok (.imul, 1) := by decide +kernel
theorem dX4_shows_55 : decode cX4_shows 55 = .ok (.iload 4, 2) := by decide +kernel
theorem dX4_shows_57 : decode cX4_shows 57 = .ok (.iadd, 1) := by decide +kernel
theorem dX4_shows_58 : decode cX4_shows 58 = .ok (.istore_n 2, 1) := by decide +kernel
theorem dX4_shows_59 : decode cX4_shows 59 = .ok (.iinc 3 1, 3) := by decide +kernel
theorem dX4_shows_62 : decode cX4_shows 62 = .ok (.goto (-58), 3) := by decide +kernel
theorem dX4_shows_65 : decode cX4_shows 65 = .ok (.iload_n 2, 1) := by decide +kernel
theorem dX4_shows_66 : decode cX4_shows 66 = .ok (.ireturn, 1) := by decide +kernel
theorem dX4_lockTold_0 : decode cX4_lockTold 0 = .ok (.iload_n 2, 1) := by decide +kernel
theorem dX4_lockTold_1 : decode cX4_lockTold 1 = .ok (.tableswitch 68 0 4 #[35, 41, 48, 55, 62], 35) := by decide +kernel
theorem dX4_lockTold_36 : decode cX4_lockTold 36 = .ok (.aload_n 0, 1) := by decide +kernel
theorem dX4_lockTold_37 : decode cX4_lockTold 37 = .ok (.iload_n 1, 1) := by decide +kernel
theorem dX4_lockTold_38 : decode cX4_lockTold 38 = .ok (.invokevirtual 63, 3) := by decide +kernel
theorem dX4_lockTold_41 : decode cX4_lockTold 41 = .ok (.ireturn, 1) := by decide +kernel
theorem dX4_lockTold_42 : decode cX4_lockTold 42 = .ok (.aload_n 0, 1) := by decide +kernel
theorem dX4_lockTold_43 : decode cX4_lockTold 43 = .ok (.iload_n 1, 1) := by decide +kernel
theorem dX4_lockTold_44 : decode cX4_lockTold 44 = .ok (.iconst 1, 1) := by decide +kernel
theorem dX4_lockTold_45 : decode cX4_lockTold 45 = .ok (.invokevirtual 30, 3) := by decide +kernel
theorem dX4_lockTold_48 : decode cX4_lockTold 48 = .ok (.ireturn, 1) := by decide +kernel
theorem dX4_lockTold_49 : decode cX4_lockTold 49 = .ok (.aload_n 0, 1) := by decide +kernel
theorem dX4_lockTold_50 : decode cX4_lockTold 50 = .ok (.iload_n 1, 1) := by decide +kernel
theorem dX4_lockTold_51 : decode cX4_lockTold 51 = .ok (.iconst 2, 1) := by decide +kernel
theorem dX4_lockTold_52 : decode cX4_lockTold 52 = .ok (.invokevirtual 30, 3) := by decide +kernel
theorem dX4_lockTold_55 : decode cX4_lockTold 55 = .ok (.ireturn, 1) := by decide +kernel
theorem dX4_lockTold_56 : decode cX4_lockTold 56 = .ok (.aload_n 0, 1) := by decide +kernel
theorem dX4_lockTold_57 : decode cX4_lockTold 57 = .ok (.iload_n 1, 1) := by decide +kernel
theorem dX4_lockTold_58 : decode cX4_lockTold 58 = .ok (.iconst 3, 1) := by decide +kernel
theorem dX4_lockTold_59 : decode cX4_lockTold 59 = .ok (.invokevirtual 30, 3) := by decide +kernel
theorem dX4_lockTold_62 : decode cX4_lockTold 62 = .ok (.ireturn, 1) := by decide +kernel
theorem dX4_lockTold_63 : decode cX4_lockTold 63 = .ok (.aload_n 0, 1) := by decide +kernel
theorem dX4_lockTold_64 : decode cX4_lockTold 64 = .ok (.iload_n 1, 1) := by decide +kernel
theorem dX4_lockTold_65 : decode cX4_lockTold 65 = .ok (.invokevirtual 89, 3) := by decide +kernel
theorem dX4_lockTold_68 : decode cX4_lockTold 68 = .ok (.ireturn, 1) := by decide +kernel
theorem dX4_lockTold_69 : decode cX4_lockTold 69 = .ok (.aload_n 0, 1) := by decide +kernel
theorem dX4_lockTold_70 : decode cX4_lockTold 70 = .ok (.iload_n 1, 1) := by decide +kernel
theorem dX4_lockTold_71 : decode cX4_lockTold 71 = .ok (.iconst 3, 1) := by decide +kernel
theorem dX4_lockTold_72 : decode cX4_lockTold 72 = .ok (.invokevirtual 30, 3) := by decide +kernel
theorem dX4_lockTold_75 : decode cX4_lockTold 75 = .ok (.iconst 1, 1) := by decide +kernel
theorem dX4_lockTold_76 : decode cX4_lockTold 76 = .ok (.if_icmp .ne 7, 3) := by decide +kernel
theorem dX4_lockTold_79 : decode cX4_lockTold 79 = .ok (.iconst (-1), 1) := by decide +kernel
theorem dX4_lockTold_80 : decode cX4_lockTold 80 = .ok (.goto 9, 3) := by decide +kernel
theorem dX4_lockTold_83 : decode cX4_lockTold 83 = .ok (.aload_n 0, 1) := by decide +kernel
theorem dX4_lockTold_84 : decode cX4_lockTold 84 = .ok (.iload_n 1, 1) := by decide +kernel
theorem dX4_lockTold_85 : decode cX4_lockTold 85 = .ok (.iconst 0, 1) := by decide +kernel
theorem dX4_lockTold_86 : decode cX4_lockTold 86 = .ok (.invokevirtual 30, 3) := by decide +kernel
theorem dX4_lockTold_89 : decode cX4_lockTold 89 = .ok (.ireturn, 1) := by decide +kernel
theorem dX4_told_0 : decode cX4_told 0 = .ok (.aload_n 0, 1) := by decide +kernel
theorem dX4_told_1 : decode cX4_told 1 = .ok (.iconst 0, 1) := by decide +kernel
theorem dX4_told_2 : decode cX4_told 2 = .ok (.putfield 19, 3) := by decide +kernel
theorem dX4_told_5 : decode cX4_told 5 = .ok (.aload_n 0, 1) := by decide +kernel
theorem dX4_told_6 : decode cX4_told 6 = .ok (.iload_n 1, 1) := by decide +kernel
theorem dX4_told_7 : decode cX4_told 7 = .ok (.invokevirtual 54, 3) := by decide +kernel
theorem dX4_told_10 : decode cX4_told 10 = .ok (.ifCond .eq 21, 3) := by decide +kernel
theorem dX4_told_13 : decode cX4_told 13 = .ok (.iload_n 2, 1) := by decide +kernel
theorem dX4_told_14 : decode cX4_told 14 = .ok (.iconst 0, 1) := by decide +kernel
theorem dX4_told_15 : decode cX4_told 15 = .ok (.iconst 5, 1) := by decide +kernel
theorem dX4_told_16 : decode cX4_told 16 = .ok (.invokestatic 26, 3) := by decide +kernel
theorem dX4_told_19 : decode cX4_told 19 = .ok (.ifCond .eq 12, 3) := by decide +kernel
theorem dX4_told_22 : decode cX4_told 22 = .ok (.aload_n 0, 1) := by decide +kernel
theorem dX4_told_23 : decode cX4_told 23 = .ok (.iload_n 1, 1) := by decide +kernel
theorem dX4_told_24 : decode cX4_told 24 = .ok (.iload_n 2, 1) := by decide +kernel
theorem dX4_told_25 : decode cX4_told 25 = .ok (.invokevirtual 92, 3) := by decide +kernel
theorem dX4_told_28 : decode cX4_told 28 = .ok (.goto 8, 3) := by decide +kernel
theorem dX4_told_31 : decode cX4_told 31 = .ok (.aload_n 0, 1) := by decide +kernel
theorem dX4_told_32 : decode cX4_told 32 = .ok (.iconst 1, 1) := by decide +kernel
theorem dX4_told_33 : decode cX4_told 33 = .ok (.invokevirtual 47, 3) := by decide +kernel
theorem dX4_told_36 : decode cX4_told 36 = .ok (.ireturn, 1) := by decide +kernel
theorem dX4_wear_0 : decode cX4_wear 0 = .ok (.aload_n 0, 1) := by decide +kernel
theorem dX4_wear_1 : decode cX4_wear 1 = .ok (.iconst 0, 1) := by decide +kernel
theorem dX4_wear_2 : decode cX4_wear 2 = .ok (.putfield 19, 3) := by decide +kernel
theorem dX4_wear_5 : decode cX4_wear 5 = .ok (.aload_n 0, 1) := by decide +kernel
theorem dX4_wear_6 : decode cX4_wear 6 = .ok (.iload_n 1, 1) := by decide +kernel
theorem dX4_wear_7 : decode cX4_wear 7 = .ok (.invokevirtual 54, 3) := by decide +kernel
theorem dX4_wear_10 : decode cX4_wear 10 = .ok (.ifCond .eq 31, 3) := by decide +kernel
theorem dX4_wear_13 : decode cX4_wear 13 = .ok (.iload_n 2, 1) := by decide +kernel
theorem dX4_wear_14 : decode cX4_wear 14 = .ok (.iconst 0, 1) := by decide +kernel
theorem dX4_wear_15 : decode cX4_wear 15 = .ok (.iconst 3, 1) := by decide +kernel
theorem dX4_wear_16 : decode cX4_wear 16 = .ok (.invokestatic 26, 3) := by decide +kernel
theorem dX4_wear_19 : decode cX4_wear 19 = .ok (.ifCond .eq 22, 3) := by decide +kernel
theorem dX4_wear_22 : decode cX4_wear 22 = .ok (.iload_n 3, 1) := by decide +kernel
theorem dX4_wear_23 : decode cX4_wear 23 = .ok (.iconst 0, 1) := by decide +kernel
theorem dX4_wear_24 : decode cX4_wear 24 = .ok (.iconst 5, 1) := by decide +kernel
theorem dX4_wear_25 : decode cX4_wear 25 = .ok (.invokestatic 26, 3) := by decide +kernel
theorem dX4_wear_28 : decode cX4_wear 28 = .ok (.ifCond .eq 13, 3) := by decide +kernel
theorem dX4_wear_31 : decode cX4_wear 31 = .ok (.aload_n 0, 1) := by decide +kernel
