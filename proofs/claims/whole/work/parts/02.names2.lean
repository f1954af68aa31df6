theorem dX4_wear_32 : decode cX4_wear 32 = .ok (.iload_n 1, 1) := by decide +kernel
theorem dX4_wear_33 : decode cX4_wear 33 = .ok (.iload_n 2, 1) := by decide +kernel
theorem dX4_wear_34 : decode cX4_wear 34 = .ok (.iload_n 3, 1) := by decide +kernel
theorem dX4_wear_35 : decode cX4_wear 35 = .ok (.invokevirtual 85, 3) := by decide +kernel
theorem dX4_wear_38 : decode cX4_wear 38 = .ok (.goto 8, 3) := by decide +kernel
theorem dX4_wear_41 : decode cX4_wear 41 = .ok (.aload_n 0, 1) := by decide +kernel
theorem dX4_wear_42 : decode cX4_wear 42 = .ok (.iconst 1, 1) := by decide +kernel
theorem dX4_wear_43 : decode cX4_wear 43 = .ok (.invokevirtual 47, 3) := by decide +kernel
theorem dX4_wear_46 : decode cX4_wear 46 = .ok (.ireturn, 1) := by decide +kernel
theorem dX4_rackTold_0 : decode cX4_rackTold 0 = .ok (.iload_n 2, 1) := by decide +kernel
theorem dX4_rackTold_1 : decode cX4_rackTold 1 = .ok (.tableswitch 116 0 4 #[35, 42, 48, 62, 109], 35) := by decide +kernel
theorem dX4_rackTold_36 : decode cX4_rackTold 36 = .ok (.aload_n 0, 1) := by decide +kernel
theorem dX4_rackTold_37 : decode cX4_rackTold 37 = .ok (.iload_n 1, 1) := by decide +kernel
theorem dX4_rackTold_38 : decode cX4_rackTold 38 = .ok (.iconst 0, 1) := by decide +kernel
theorem dX4_rackTold_39 : decode cX4_rackTold 39 = .ok (.invokevirtual 73, 3) := by decide +kernel
theorem dX4_rackTold_42 : decode cX4_rackTold 42 = .ok (.ireturn, 1) := by decide +kernel
theorem dX4_rackTold_43 : decode cX4_rackTold 43 = .ok (.aload_n 0, 1) := by decide +kernel
theorem dX4_rackTold_44 : decode cX4_rackTold 44 = .ok (.iload_n 1, 1) := by decide +kernel
theorem dX4_rackTold_45 : decode cX4_rackTold 45 = .ok (.invokevirtual 79, 3) := by decide +kernel
theorem dX4_rackTold_48 : decode cX4_rackTold 48 = .ok (.ireturn, 1) := by decide +kernel
theorem dX4_rackTold_49 : decode cX4_rackTold 49 = .ok (.aload_n 0, 1) := by decide +kernel
theorem dX4_rackTold_50 : decode cX4_rackTold 50 = .ok (.iload_n 1, 1) := by decide +kernel
theorem dX4_rackTold_51 : decode cX4_rackTold 51 = .ok (.invokevirtual 82, 3) := by decide +kernel
theorem dX4_rackTold_54 : decode cX4_rackTold 54 = .ok (.ifCond .eq 7, 3) := by decide +kernel
theorem dX4_rackTold_57 : decode cX4_rackTold 57 = .ok (.iconst 1, 1) := by decide +kernel
theorem dX4_rackTold_58 : decode cX4_rackTold 58 = .ok (.goto 4, 3) := by decide +kernel
theorem dX4_rackTold_61 : decode cX4_rackTold 61 = .ok (.iconst 0, 1) := by decide +kernel
theorem dX4_rackTold_62 : decode cX4_rackTold 62 = .ok (.ireturn, 1) := by decide +kernel
theorem dX4_rackTold_63 : decode cX4_rackTold 63 = .ok (.iconst 0, 1) := by decide +kernel
theorem dX4_rackTold_64 : decode cX4_rackTold 64 = .ok (.istore_n 3, 1) := by decide +kernel
theorem dX4_rackTold_65 : decode cX4_rackTold 65 = .ok (.iconst 0, 1) := by decide +kernel
theorem dX4_rackTold_66 : decode cX4_rackTold 66 = .ok (.istore 4, 2) := by decide +kernel
theorem dX4_rackTold_68 : decode cX4_rackTold 68 = .ok (.iload 4, 2) := by decide +kernel
theorem dX4_rackTold_70 : decode cX4_rackTold 70 = .ok (.aload_n 0, 1) := by decide +kernel
theorem dX4_rackTold_71 : decode cX4_rackTold 71 = .ok (.getfield 23, 3) := by decide +kernel
theorem dX4_rackTold_74 : decode cX4_rackTold 74 = .ok (.if_icmp .ge 34, 3) := by decide +kernel
theorem dX4_rackTold_77 : decode cX4_rackTold 77 = .ok (.iload_n 3, 1) := by decide +kernel
theorem dX4_rackTold_78 : decode cX4_rackTold 78 = .ok (.aload_n 0, 1) := by decide +kernel
theorem dX4_rackTold_79 : decode cX4_rackTold 79 = .ok (.iload 4, 2) := by decide +kernel
theorem dX4_rackTold_81 : decode cX4_rackTold 81 = .ok (.iconst 2, 1) := by decide +kernel
theorem dX4_rackTold_82 : decode cX4_rackTold 82 = .ok (.invokevirtual 30, 3) := by decide +kernel
theorem dX4_rackTold_85 : decode cX4_rackTold 85 = .ok (.iload_n 1, 1) := by decide +kernel
theorem dX4_rackTold_86 : decode cX4_rackTold 86 = .ok (.if_icmp .ne 13, 3) := by decide +kernel
theorem dX4_rackTold_89 : decode cX4_rackTold 89 = .ok (.aload_n 0, 1) := by decide +kernel
theorem dX4_rackTold_90 : decode cX4_rackTold 90 = .ok (.iload 4, 2) := by decide +kernel
theorem dX4_rackTold_92 : decode cX4_rackTold 92 = .ok (.iconst 1, 1) := by decide +kernel
theorem dX4_rackTold_93 : decode cX4_rackTold 93 = .ok (.invokevirtual 30, 3) := by decide +kernel
theorem dX4_rackTold_96 : decode cX4_rackTold 96 = .ok (.goto 4, 3) := by decide +kernel
theorem dX4_rackTold_99 : decode cX4_rackTold 99 = .ok (.iconst 0, 1) := by decide +kernel
theorem dX4_rackTold_100 : decode cX4_rackTold 100 = .ok (.iadd, 1) := by decide +kernel
theorem dX4_rackTold_101 : decode cX4_rackTold 101 = .ok (.istore_n 3, 1) := by decide +kernel
theorem dX4_rackTold_102 : decode cX4_rackTold 102 = .ok (.iinc 4 1, 3) := by decide +kernel
theorem dX4_rackTold_105 : decode cX4_rackTold 105 = .ok (.goto (-37), 3) := by decide +kernel
theorem dX4_rackTold_108 : decode cX4_rackTold 108 = .ok (.iload_n 3, 1) := by decide +kernel
theorem dX4_rackTold_109 : decode cX4_rackTold 109 = .ok (.ireturn, 1) := by decide +kernel
theorem dX4_rackTold_110 : decode cX4_rackTold 110 = .ok (.aload_n 0, 1) := by decide +kernel
theorem dX4_rackTold_111 : decode cX4_rackTold 111 = .ok (.iload_n 1, 1) := by decide +kernel
theorem dX4_rackTold_112 : decode cX4_rackTold 112 = .ok (.iconst 1, 1) := by decide +kernel
theorem dX4_rackTold_113 : decode cX4_rackTold 113 = .ok (.invokevirtual 73, 3) := by decide +kernel
theorem dX4_rackTold_116 : decode cX4_rackTold 116 = .ok (.ireturn, 1) := by decide +kernel
theorem dX4_rackTold_117 : decode cX4_rackTold 117 = .ok (.aload_n 0, 1) := by decide +kernel
theorem dX4_rackTold_118 : decode cX4_rackTold 118 = .ok (.iload_n 1, 1) := by decide +kernel
theorem dX4_rackTold_119 : decode cX4_rackTold 119 = .ok (.iconst 2, 1) := by decide +kernel
theorem dX4_rackTold_120 : decode cX4_rackTold 120 = .ok (.invokevirtual 73, 3) := by decide +kernel
theorem dX4_rackTold_123 : decode cX4_rackTold 123 = .ok (.ireturn, 1) := by decide +kernel
theorem dX4_rack_0 : decode cX4_rack 0 = .ok (.aload_n 0, 1) := by decide +kernel
theorem dX4_rack_1 : decode cX4_rack 1 = .ok (.iconst 0, 1) := by decide +kernel
theorem dX4_rack_2 : decode cX4_rack 2 = .ok (.putfield 19, 3) := by decide +kernel
theorem dX4_rack_5 : decode cX4_rack 5 = .ok (.iload_n 1, 1) := by decide +kernel
theorem dX4_rack_6 : decode cX4_rack 6 = .ok (.invokestatic 76, 3) := by decide +kernel
theorem dX4_rack_9 : decode cX4_rack 9 = .ok (.ifCond .eq 21, 3) := by decide +kernel
theorem dX4_rack_12 : decode cX4_rack 12 = .ok (.iload_n 2, 1) := by decide +kernel
theorem dX4_rack_13 : decode cX4_rack 13 = .ok (.iconst 0, 1) := by decide +kernel
theorem dX4_rack_14 : decode cX4_rack 14 = .ok (.iconst 5, 1) := by decide +kernel
theorem dX4_rack_15 : decode cX4_rack 15 = .ok (.invokestatic 26, 3) := by decide +kernel
theorem dX4_rack_18 : decode cX4_rack 18 = .ok (.ifCond .eq 12, 3) := by decide +kernel
theorem dX4_rack_21 : decode cX4_rack 21 = .ok (.aload_n 0, 1) := by decide +kernel
theorem dX4_rack_22 : decode cX4_rack 22 = .ok (.iload_n 1, 1) := by decide +kernel
theorem dX4_rack_23 : decode cX4_rack 23 = .ok (.iload_n 2, 1) := by decide +kernel
theorem dX4_rack_24 : decode cX4_rack 24 = .ok (.invokevirtual 95, 3) := by decide +kernel
theorem dX4_rack_27 : decode cX4_rack 27 = .ok (.goto 8, 3) := by decide +kernel
theorem dX4_rack_30 : decode cX4_rack 30 = .ok (.aload_n 0, 1) := by decide +kernel
theorem dX4_rack_31 : decode cX4_rack 31 = .ok (.iconst 1, 1) := by decide +kernel
theorem dX4_rack_32 : decode cX4_rack 32 = .ok (.invokevirtual 47, 3) := by decide +kernel
theorem dX4_rack_35 : decode cX4_rack 35 = .ok (.ireturn, 1) := by decide +kernel
theorem dX4_counted_0 : decode cX4_counted 0 = .ok (.iconst 0, 1) := by decide +kernel
theorem dX4_counted_1 : decode cX4_counted 1 = .ok (.istore_n 2, 1) := by decide +kernel
theorem dX4_counted_2 : decode cX4_counted 2 = .ok (.iload_n 1, 1) := by decide +kernel
theorem dX4_counted_3 : decode cX4_counted 3 = .ok (.tableswitch 144 0 5 #[37, 42, 47, 74, 101, 139], 37) := by decide +kernel
theorem dX4_counted_40 : decode cX4_counted 40 = .ok (.aload_n 0, 1) := by decide +kernel
theorem dX4_counted_41 : decode cX4_counted 41 = .ok (.getfield 70, 3) := by decide +kernel
theorem dX4_counted_44 : decode cX4_counted 44 = .ok (.ireturn, 1) := by decide +kernel
theorem dX4_counted_45 : decode cX4_counted 45 = .ok (.aload_n 0, 1) := by decide +kernel
theorem dX4_counted_46 : decode cX4_counted 46 = .ok (.getfield 23, 3) := by decide +kernel
theorem dX4_counted_49 : decode cX4_counted 49 = .ok (.ireturn, 1) := by decide +kernel
theorem dX4_counted_50 : decode cX4_counted 50 = .ok (.iconst 0, 1) := by decide +kernel
theorem dX4_counted_51 : decode cX4_counted 51 = .ok (.istore_n 3, 1) := by decide +kernel
theorem dX4_counted_52 : decode cX4_counted 52 = .ok (.iload_n 3, 1) := by decide +kernel
theorem dX4_counted_53 : decode cX4_counted 53 = .ok (.aload_n 0, 1) := by decide +kernel
theorem dX4_counted_54 : decode cX4_counted 54 = .ok (.getfield 23, 3) := by decide +kernel
theorem dX4_counted_57 : decode cX4_counted 57 = .ok (.if_icmp .ge 18, 3) := by decide +kernel
theorem dX4_counted_60 : decode cX4_counted 60 = .ok (.iload_n 2, 1) := by decide +kernel
theorem dX4_counted_61 : decode cX4_counted 61 = .ok (.aload_n 0, 1) := by decide +kernel
theorem dX4_counted_62 : decode cX4_counted 62 = .ok (.iload_n 3, 1) := by decide +kernel
theorem dX4_counted_63 : decode cX4_counted 63 = .ok (.iconst 1, 1) := by decide +kernel
theorem dX4_counted_64 : decode cX4_counted 64 = .ok (.invokevirtual 30, 3) := by decide +kernel
theorem dX4_counted_67 : decode cX4_counted 67 = .ok (.iadd, 1) := by decide +kernel
theorem dX4_counted_68 : decode cX4_counted 68 = .ok (.istore_n 2, 1) := by decide +kernel
theorem dX4_counted_69 : decode cX4_counted 69 = .ok (.iinc 3 1, 3) := by decide +kernel
theorem dX4_counted_72 : decode cX4_counted 72 = .ok (.goto (-20), 3) := by decide +kernel
theorem dX4_counted_75 : decode cX4_counted 75 = .ok (.iload_n 2, 1) := by decide +kernel
theorem dX4_counted_76 : decode cX4_counted 76 = .ok (.ireturn, 1) := by decide +kernel
theorem dX4_counted_77 : decode cX4_counted 77 = .ok (.iconst 0, 1) := by decide +kernel
theorem dX4_counted_78 : decode cX4_counted 78 = .ok (.istore_n 3, 1) := by decide +kernel
theorem dX4_counted_79 : decode cX4_counted 79 = .ok (.iload_n 3, 1) := by decide +kernel
theorem dX4_counted_80 : decode cX4_counted 80 = .ok (.aload_n 0, 1) := by decide +kernel
theorem dX4_counted_81 : decode cX4_counted 81 = .ok (.getfield 23, 3) := by decide +kernel
theorem dX4_counted_84 : decode cX4_counted 84 = .ok (.if_icmp .ge 18, 3) := by decide +kernel
theorem dX4_counted_87 : decode cX4_counted 87 = .ok (.iload_n 2, 1) := by decide +kernel
theorem dX4_counted_88 : decode cX4_counted 88 = .ok (.aload_n 0, 1) := by decide +kernel
theorem dX4_counted_89 : decode cX4_counted 89 = .ok (.iload_n 3, 1) := by decide +kernel
theorem dX4_counted_90 : decode cX4_counted 90 = .ok (.iconst 3, 1) := by decide +kernel
theorem dX4_counted_91 : decode cX4_counted 91 = .ok (.invokevirtual 30, 3) := by decide +kernel
theorem dX4_counted_94 : decode cX4_counted 94 = .ok (.iadd, 1) := by decide +kernel
theorem dX4_counted_95 : decode cX4_counted 95 = .ok (.istore_n 2, 1) := by decide +kernel
theorem dX4_counted_96 : decode cX4_counted 96 = .ok (.iinc 3 1, 3) := by decide +kernel
theorem dX4_counted_99 : decode cX4_counted 99 = .ok (.goto (-20), 3) := by decide +kernel
theorem dX4_counted_102 : decode cX4_counted 102 = .ok (.iload_n 2, 1) := by decide +kernel
theorem dX4_counted_103 : decode cX4_counted 103 = .ok (.ireturn, 1) := by decide +kernel
theorem dX4_counted_104 : decode cX4_counted 104 = .ok (.aload_n 0, 1) := by decide +kernel
theorem dX4_counted_105 : decode cX4_counted 105 = .ok (.getfield 13, 3) := by decide +kernel
theorem dX4_counted_108 : decode cX4_counted 108 = .ok (.astore_n 3, 1) := by decide +kernel
theorem dX4_counted_109 : decode cX4_counted 109 = .ok (.aload_n 3, 1) := by decide +kernel
theorem dX4_counted_110 : decode cX4_counted 110 = .ok (.arraylength, 1) := by decide +kernel
theorem dX4_counted_111 : decode cX4_counted 111 = .ok (.istore 4, 2) := by decide +kernel
theorem dX4_counted_113 : decode cX4_counted 113 = .ok (.iconst 0, 1) := by decide +kernel
theorem dX4_counted_114 : decode cX4_counted 114 = .ok (.istore 5, 2) := by decide +kernel
theorem dX4_counted_116 : decode cX4_counted 116 = .ok (.iload 5, 2) := by decide +kernel
theorem dX4_counted_118 : decode cX4_counted 118 = .ok (.iload 4, 2) := by decide +kernel
theorem dX4_counted_120 : decode cX4_counted 120 = .ok (.if_icmp .ge 20, 3) := by decide +kernel
theorem dX4_counted_123 : decode cX4_counted 123 = .ok (.aload_n 3, 1) := by decide +kernel
theorem dX4_counted_124 : decode cX4_counted 124 = .ok (.iload 5, 2) := by decide +kernel
theorem dX4_counted_126 : decode cX4_counted 126 = .ok (.iaload, 1) := by decide +kernel
theorem dX4_counted_127 : decode cX4_counted 127 = .ok (.istore 6, 2) := by decide +kernel
theorem dX4_counted_129 : decode cX4_counted 129 = .ok (.iload_n 2, 1) := by decide +kernel
theorem dX4_counted_130 : decode cX4_counted 130 = .ok (.iload 6, 2) := by decide +kernel
theorem dX4_counted_132 : decode cX4_counted 132 = .ok (.iadd, 1) := by decide +kernel
theorem dX4_counted_133 : decode cX4_counted 133 = .ok (.istore_n 2, 1) := by decide +kernel
theorem dX4_counted_134 : decode cX4_counted 134 = .ok (.iinc 5 1, 3) := by decide +kernel
theorem dX4_counted_137 : decode cX4_counted 137 = .ok (.goto (-21), 3) := by decide +kernel
theorem dX4_counted_140 : decode cX4_counted 140 = .ok (.iload_n 2, 1) := by decide +kernel
theorem dX4_counted_141 : decode cX4_counted 141 = .ok (.ireturn, 1) := by decide +kernel
theorem dX4_counted_142 : decode cX4_counted 142 = .ok (.aload_n 0, 1) := by decide +kernel
theorem dX4_counted_143 : decode cX4_counted 143 = .ok (.getfield 60, 3) := by decide +kernel
theorem dX4_counted_146 : decode cX4_counted 146 = .ok (.ireturn, 1) := by decide +kernel
theorem dX4_counted_147 : decode cX4_counted 147 = .ok (.aload_n 0, 1) := by decide +kernel
theorem dX4_counted_148 : decode cX4_counted 148 = .ok (.iconst 0, 1) := by decide +kernel
theorem dX4_counted_149 : decode cX4_counted 149 = .ok (.invokevirtual 79, 3) := by decide +kernel
theorem dX4_counted_152 : decode cX4_counted 152 = .ok (.aload_n 0, 1) := by decide +kernel
theorem dX4_counted_153 : decode cX4_counted 153 = .ok (.iconst 1, 1) := by decide +kernel
theorem dX4_counted_154 : decode cX4_counted 154 = .ok (.invokevirtual 79, 3) := by decide +kernel
theorem dX4_counted_157 : decode cX4_counted 157 = .ok (.iadd, 1) := by decide +kernel
theorem dX4_counted_158 : decode cX4_counted 158 = .ok (.aload_n 0, 1) := by decide +kernel
theorem dX4_counted_159 : decode cX4_counted 159 = .ok (.iconst 2, 1) := by decide +kernel
theorem dX4_counted_160 : decode cX4_counted 160 = .ok (.invokevirtual 79, 3) := by decide +kernel
theorem dX4_counted_163 : decode cX4_counted 163 = .ok (.iadd, 1) := by decide +kernel
theorem dX4_counted_164 : decode cX4_counted 164 = .ok (.ireturn, 1) := by decide +kernel
theorem dX4_count_0 : decode cX4_count 0 = .ok (.aload_n 0, 1) := by decide +kernel
theorem dX4_count_1 : decode cX4_count 1 = .ok (.iconst 0, 1) := by decide +kernel
theorem dX4_count_2 : decode cX4_count 2 = .ok (.putfield 19, 3) := by decide +kernel
theorem dX4_count_5 : decode cX4_count 5 = .ok (.iload_n 1, 1) := by decide +kernel
theorem dX4_count_6 : decode cX4_count 6 = .ok (.iconst 0, 1) := by decide +kernel
theorem dX4_count_7 : decode cX4_count 7 = .ok (.bipush 6, 2) := by decide +kernel
theorem dX4_count_9 : decode cX4_count 9 = .ok (.invokestatic 26, 3) := by decide +kernel
theorem dX4_count_12 : decode cX4_count 12 = .ok (.ifCond .eq 11, 3) := by decide +kernel
theorem dX4_count_15 : decode cX4_count 15 = .ok (.aload_n 0, 1) := by decide +kernel
theorem dX4_count_16 : decode cX4_count 16 = .ok (.iload_n 1, 1) := by decide +kernel
theorem dX4_count_17 : decode cX4_count 17 = .ok (.invokevirtual 98, 3) := by decide +kernel
theorem dX4_count_20 : decode cX4_count 20 = .ok (.goto 8, 3) := by decide +kernel
theorem dX4_count_23 : decode cX4_count 23 = .ok (.aload_n 0, 1) := by decide +kernel
theorem dX4_count_24 : decode cX4_count 24 = .ok (.iconst 1, 1) := by decide +kernel
theorem dX4_count_25 : decode cX4_count 25 = .ok (.invokevirtual 47, 3) := by decide +kernel
theorem dX4_count_28 : decode cX4_count 28 = .ok (.ireturn, 1) := by decide +kernel
theorem dX4_between_0 : decode cX4_between 0 = .ok (.iconst 0, 1) := by decide +kernel
theorem dX4_between_1 : decode cX4_between 1 = .ok (.istore_n 2, 1) := by decide +kernel
theorem dX4_between_2 : decode cX4_between 2 = .ok (.iconst 0, 1) := by decide +kernel
theorem dX4_between_3 : decode cX4_between 3 = .ok (.istore_n 3, 1) := by decide +kernel
theorem dX4_between_4 : decode cX4_between 4 = .ok (.iload_n 3, 1) := by decide +kernel
theorem dX4_between_5 : decode cX4_between 5 = .ok (.iconst 4, 1) := by decide +kernel
theorem dX4_between_6 : decode cX4_between 6 = .ok (.if_icmp .ge 25, 3) := by decide +kernel
theorem dX4_between_9 : decode cX4_between 9 = .ok (.iload_n 2, 1) := by decide +kernel
theorem dX4_between_10 : decode cX4_between 10 = .ok (.iload_n 0, 1) := by decide +kernel
theorem dX4_between_11 : decode cX4_between 11 = .ok (.iload_n 3, 1) := by decide +kernel
theorem dX4_between_12 : decode cX4_between 12 = .ok (.invokestatic 101, 3) := by decide +kernel
theorem dX4_between_15 : decode cX4_between 15 = .ok (.iload_n 1, 1) := by decide +kernel
theorem dX4_between_16 : decode cX4_between 16 = .ok (.iload_n 3, 1) := by decide +kernel
theorem dX4_between_17 : decode cX4_between 17 = .ok (.invokestatic 101, 3) := by decide +kernel
theorem dX4_between_20 : decode cX4_between 20 = .ok (.invokestatic 57, 3) := by decide +kernel
theorem dX4_between_23 : decode cX4_between 23 = .ok (.iadd, 1) := by decide +kernel
theorem dX4_between_24 : decode cX4_between 24 = .ok (.istore_n 2, 1) := by decide +kernel
theorem dX4_between_25 : decode cX4_between 25 = .ok (.iinc 3 1, 3) := by decide +kernel
theorem dX4_between_28 : decode cX4_between 28 = .ok (.goto (-24), 3) := by decide +kernel
theorem dX4_between_31 : decode cX4_between 31 = .ok (.iload_n 2, 1) := by decide +kernel
theorem dX4_between_32 : decode cX4_between 32 = .ok (.ireturn, 1) := by decide +kernel
theorem dX4_apart_0 : decode cX4_apart 0 = .ok (.aload_n 0, 1) := by decide +kernel
theorem dX4_apart_1 : decode cX4_apart 1 = .ok (.iconst 0, 1) := by decide +kernel
theorem dX4_apart_2 : decode cX4_apart 2 = .ok (.putfield 19, 3) := by decide +kernel
theorem dX4_apart_5 : decode cX4_apart 5 = .ok (.iload_n 1, 1) := by decide +kernel
theorem dX4_apart_6 : decode cX4_apart 6 = .ok (.invokestatic 43, 3) := by decide +kernel
theorem dX4_apart_9 : decode cX4_apart 9 = .ok (.ifCond .eq 18, 3) := by decide +kernel
theorem dX4_apart_12 : decode cX4_apart 12 = .ok (.iload_n 2, 1) := by decide +kernel
theorem dX4_apart_13 : decode cX4_apart 13 = .ok (.invokestatic 43, 3) := by decide +kernel
theorem dX4_apart_16 : decode cX4_apart 16 = .ok (.ifCond .eq 11, 3) := by decide +kernel
theorem dX4_apart_19 : decode cX4_apart 19 = .ok (.iload_n 1, 1) := by decide +kernel
theorem dX4_apart_20 : decode cX4_apart 20 = .ok (.iload_n 2, 1) := by decide +kernel
theorem dX4_apart_21 : decode cX4_apart 21 = .ok (.invokestatic 104, 3) := by decide +kernel
theorem dX4_apart_24 : decode cX4_apart 24 = .ok (.goto 8, 3) := by decide +kernel
theorem dX4_apart_27 : decode cX4_apart 27 = .ok (.aload_n 0, 1) := by decide +kernel
theorem dX4_apart_28 : decode cX4_apart 28 = .ok (.iconst 1, 1) := by decide +kernel
theorem dX4_apart_29 : decode cX4_apart 29 = .ok (.invokevirtual 47, 3) := by decide +kernel
theorem dX4_apart_32 : decode cX4_apart 32 = .ok (.ireturn, 1) := by decide +kernel
theorem dX4_places_0 : decode cX4_places 0 = .ok (.bipush 24, 2) := by decide +kernel
theorem dX4_places_2 : decode cX4_places 2 = .ok (.newarray .int, 2) := by decide +kernel
theorem dX4_places_4 : decode cX4_places 4 = .ok (.astore_n 2, 1) := by decide +kernel
theorem dX4_places_5 : decode cX4_places 5 = .ok (.iconst 0, 1) := by decide +kernel
theorem dX4_places_6 : decode cX4_places 6 = .ok (.istore_n 3, 1) := by decide +kernel
theorem dX4_places_7 : decode cX4_places 7 = .ok (.iload_n 3, 1) := by decide +kernel
theorem dX4_places_8 : decode cX4_places 8 = .ok (.iconst 4, 1) := by decide +kernel
theorem dX4_places_9 : decode cX4_places 9 = .ok (.if_icmp .ge 94, 3) := by decide +kernel
theorem dX4_places_12 : decode cX4_places 12 = .ok (.iconst 0, 1) := by decide +kernel
theorem dX4_places_13 : decode cX4_places 13 = .ok (.istore 4, 2) := by decide +kernel
theorem dX4_places_15 : decode cX4_places 15 = .ok (.iload 4, 2) := by decide +kernel
theorem dX4_places_17 : decode cX4_places 17 = .ok (.bipush 6, 2) := by decide +kernel
theorem dX4_places_19 : decode cX4_places 19 = .ok (.if_icmp .ge 78, 3) := by decide +kernel
theorem dX4_places_22 : decode cX4_places 22 = .ok (.iconst 0, 1) := by decide +kernel
theorem dX4_places_23 : decode cX4_places 23 = .ok (.istore 5, 2) := by decide +kernel
theorem dX4_places_25 : decode cX4_places 25 = .ok (.iload 5, 2) := by decide +kernel
theorem dX4_places_27 : decode cX4_places 27 = .ok (.bipush 6, 2) := by decide +kernel
theorem dX4_places_29 : decode cX4_places 29 = .ok (.if_icmp .ge 62, 3) := by decide +kernel
theorem dX4_places_32 : decode cX4_places 32 = .ok (.aload_n 0, 1) := by decide +kernel
theorem dX4_places_33 : decode cX4_places 33 = .ok (.iload_n 1, 1) := by decide +kernel
theorem dX4_places_34 : decode cX4_places 34 = .ok (.iload_n 3, 1) := by decide +kernel
theorem dX4_places_35 : decode cX4_places 35 = .ok (.iload 5, 2) := by decide +kernel
theorem dX4_places_37 : decode cX4_places 37 = .ok (.invokevirtual 85, 3) := by decide +kernel
theorem dX4_places_40 : decode cX4_places 40 = .ok (.aload_n 0, 1) := by decide +kernel
theorem dX4_places_41 : decode cX4_places 41 = .ok (.iload_n 1, 1) := by decide +kernel
theorem dX4_places_42 : decode cX4_places 42 = .ok (.iload_n 3, 1) := by decide +kernel
theorem dX4_places_43 : decode cX4_places 43 = .ok (.iload 4, 2) := by decide +kernel
theorem dX4_places_45 : decode cX4_places 45 = .ok (.invokevirtual 85, 3) := by decide +kernel
theorem dX4_places_48 : decode cX4_places 48 = .ok (.isub, 1) := by decide +kernel
theorem dX4_places_49 : decode cX4_places 49 = .ok (.istore 6, 2) := by decide +kernel
theorem dX4_places_51 : decode cX4_places 51 = .ok (.aload_n 2, 1) := by decide +kernel
theorem dX4_places_52 : decode cX4_places 52 = .ok (.bipush 6, 2) := by decide +kernel
theorem dX4_places_54 : decode cX4_places 54 = .ok (.iload_n 3, 1) := by decide +kernel
theorem dX4_places_55 : decode cX4_places 55 = .ok (.imul, 1) := by decide +kernel
theorem dX4_places_56 : decode cX4_places 56 = .ok (.iload 4, 2) := by decide +kernel
theorem dX4_places_58 : decode cX4_places 58 = .ok (.iadd, 1) := by decide +kernel
theorem dX4_places_59 : decode cX4_places 59 = .ok (.dup2, 1) := by decide +kernel
theorem dX4_places_60 : decode cX4_places 60 = .ok (.iaload, 1) := by decide +kernel
theorem dX4_places_61 : decode cX4_places 61 = .ok (.iload 6, 2) := by decide +kernel
theorem dX4_places_63 : decode cX4_places 63 = .ok (.ifCond .gt 15, 3) := by decide +kernel
theorem dX4_places_66 : decode cX4_places 66 = .ok (.iload 6, 2) := by decide +kernel
theorem dX4_places_68 : decode cX4_places 68 = .ok (.ifCond .ne 14, 3) := by decide +kernel
theorem dX4_places_71 : decode cX4_places 71 = .ok (.iload 5, 2) := by decide +kernel
theorem dX4_places_73 : decode cX4_places 73 = .ok (.iload 4, 2) := by decide +kernel
theorem dX4_places_75 : decode cX4_places 75 = .ok (.if_icmp .ge 7, 3) := by decide +kernel
theorem dX4_places_78 : decode cX4_places 78 = .ok (.iconst 1, 1) := by decide +kernel
theorem dX4_places_79 : decode cX4_places 79 = .ok (.goto 4, 3) := by decide +kernel
theorem dX4_places_82 : decode cX4_places 82 = .ok (.iconst 0, 1) := by decide +kernel
theorem dX4_places_83 : decode cX4_places 83 = .ok (.iadd, 1) := by decide +kernel
theorem dX4_places_84 : decode cX4_places 84 = .ok (.iastore, 1) := by decide +kernel
theorem dX4_places_85 : decode cX4_places 85 = .ok (.iinc 5 1, 3) := by decide +kernel
theorem dX4_places_88 : decode cX4_places 88 = .ok (.goto (-63), 3) := by decide +kernel
theorem dX4_places_91 : decode cX4_places 91 = .ok (.iinc 4 1, 3) := by decide +kernel
theorem dX4_places_94 : decode cX4_places 94 = .ok (.goto (-79), 3) := by decide +kernel
theorem dX4_places_97 : decode cX4_places 97 = .ok (.iinc 3 1, 3) := by decide +kernel
theorem dX4_places_100 : decode cX4_places 100 = .ok (.goto (-93), 3) := by decide +kernel
theorem dX4_places_103 : decode cX4_places 103 = .ok (.aload_n 2, 1) := by decide +kernel
theorem dX4_places_104 : decode cX4_places 104 = .ok (.areturn, 1) := by decide +kernel
theorem dX4_sum_0 : decode cX4_sum 0 = .ok (.iconst 0, 1) := by decide +kernel
theorem dX4_sum_1 : decode cX4_sum 1 = .ok (.istore_n 2, 1) := by decide +kernel
theorem dX4_sum_2 : decode cX4_sum 2 = .ok (.iload_n 1, 1) := by decide +kernel
theorem dX4_sum_3 : decode cX4_sum 3 = .ok (.istore_n 3, 1) := by decide +kernel
theorem dX4_sum_4 : decode cX4_sum 4 = .ok (.iconst 3, 1) := by decide +kernel
theorem dX4_sum_5 : decode cX4_sum 5 = .ok (.istore 4, 2) := by decide +kernel
theorem dX4_sum_7 : decode cX4_sum 7 = .ok (.iload 4, 2) := by decide +kernel
theorem dX4_sum_9 : decode cX4_sum 9 = .ok (.ifCond .lt 29, 3) := by decide +kernel
theorem dX4_sum_12 : decode cX4_sum 12 = .ok (.iload_n 2, 1) := by decide +kernel
theorem dX4_sum_13 : decode cX4_sum 13 = .ok (.aload_n 0, 1) := by decide +kernel
theorem dX4_sum_14 : decode cX4_sum 14 = .ok (.bipush 6, 2) := by decide +kernel
theorem dX4_sum_16 : decode cX4_sum 16 = .ok (.iload 4, 2) := by decide +kernel
theorem dX4_sum_18 : decode cX4_sum 18 = .ok (.imul, 1) := by decide +kernel
theorem dX4_sum_19 : decode cX4_sum 19 = .ok (.iload_n 3, 1) := by decide +kernel
theorem dX4_sum_20 : decode cX4_sum 20 = .ok (.bipush 6, 2) := by decide +kernel
theorem dX4_sum_22 : decode cX4_sum 22 = .ok (.irem, 1) := by decide +kernel
theorem dX4_sum_23 : decode cX4_sum 23 = .ok (.iadd, 1) := by decide +kernel
theorem dX4_sum_24 : decode cX4_sum 24 = .ok (.iaload, 1) := by decide +kernel
theorem dX4_sum_25 : decode cX4_sum 25 = .ok (.iadd, 1) := by decide +kernel
theorem dX4_sum_26 : decode cX4_sum 26 = .ok (.istore_n 2, 1) := by decide +kernel
theorem dX4_sum_27 : decode cX4_sum 27 = .ok (.iload_n 3, 1) := by decide +kernel
theorem dX4_sum_28 : decode cX4_sum 28 = .ok (.bipush 6, 2) := by decide +kernel
theorem dX4_sum_30 : decode cX4_sum 30 = .ok (.idiv, 1) := by decide +kernel
theorem dX4_sum_31 : decode cX4_sum 31 = .ok (.istore_n 3, 1) := by decide +kernel
theorem dX4_sum_32 : decode cX4_sum 32 = .ok (.iinc 4 (-1), 3) := by decide +kernel
theorem dX4_sum_35 : decode cX4_sum 35 = .ok (.goto (-28), 3) := by decide +kernel
theorem dX4_sum_38 : decode cX4_sum 38 = .ok (.iload_n 2, 1) := by decide +kernel
theorem dX4_sum_39 : decode cX4_sum 39 = .ok (.ireturn, 1) := by decide +kernel
theorem dX4_tried_0 : decode cX4_tried 0 = .ok (.aload_n 0, 1) := by decide +kernel
theorem dX4_tried_1 : decode cX4_tried 1 = .ok (.iload_n 1, 1) := by decide +kernel
theorem dX4_tried_2 : decode cX4_tried 2 = .ok (.invokevirtual 107, 3) := by decide +kernel
theorem dX4_tried_5 : decode cX4_tried 5 = .ok (.astore_n 3, 1) := by decide +kernel
theorem dX4_tried_6 : decode cX4_tried 6 = .ok (.aload_n 3, 1) := by decide +kernel
theorem dX4_tried_7 : decode cX4_tried 7 = .ok (.iload_n 2, 1) := by decide +kernel
theorem dX4_tried_8 : decode cX4_tried 8 = .ok (.invokestatic 111, 3) := by decide +kernel
theorem dX4_tried_11 : decode cX4_tried 11 = .ok (.istore 4, 2) := by decide +kernel
theorem dX4_tried_13 : decode cX4_tried 13 = .ok (.iconst 1, 1) := by decide +kernel
theorem dX4_tried_14 : decode cX4_tried 14 = .ok (.istore 5, 2) := by decide +kernel
theorem dX4_tried_16 : decode cX4_tried 16 = .ok (.iconst 0, 1) := by decide +kernel
theorem dX4_tried_17 : decode cX4_tried 17 = .ok (.istore 6, 2) := by decide +kernel
theorem dX4_tried_19 : decode cX4_tried 19 = .ok (.iload 6, 2) := by decide +kernel
theorem dX4_tried_21 : decode cX4_tried 21 = .ok (.sipush 1296, 3) := by decide +kernel
theorem dX4_tried_24 : decode cX4_tried 24 = .ok (.if_icmp .ge 47, 3) := by decide +kernel
theorem dX4_tried_27 : decode cX4_tried 27 = .ok (.aload_n 3, 1) := by decide +kernel
theorem dX4_tried_28 : decode cX4_tried 28 = .ok (.iload 6, 2) := by decide +kernel
theorem dX4_tried_30 : decode cX4_tried 30 = .ok (.invokestatic 111, 3) := by decide +kernel
theorem dX4_tried_33 : decode cX4_tried 33 = .ok (.istore 7, 2) := by decide +kernel
theorem dX4_tried_35 : decode cX4_tried 35 = .ok (.iload 5, 2) := by decide +kernel
theorem dX4_tried_37 : decode cX4_tried 37 = .ok (.iload 7, 2) := by decide +kernel
theorem dX4_tried_39 : decode cX4_tried 39 = .ok (.iload 4, 2) := by decide +kernel
theorem dX4_tried_41 : decode cX4_tried 41 = .ok (.if_icmp .lt 16, 3) := by decide +kernel
theorem dX4_tried_44 : decode cX4_tried 44 = .ok (.iload 7, 2) := by decide +kernel
theorem dX4_tried_46 : decode cX4_tried 46 = .ok (.iload 4, 2) := by decide +kernel
theorem dX4_tried_48 : decode cX4_tried 48 = .ok (.if_icmp .ne 13, 3) := by decide +kernel
theorem dX4_tried_51 : decode cX4_tried 51 = .ok (.iload 6, 2) := by decide +kernel
theorem dX4_tried_53 : decode cX4_tried 53 = .ok (.iload_n 2, 1) := by decide +kernel
theorem dX4_tried_54 : decode cX4_tried 54 = .ok (.if_icmp .ge 7, 3) := by decide +kernel
theorem dX4_tried_57 : decode cX4_tried 57 = .ok (.iconst 1, 1) := by decide +kernel
theorem dX4_tried_58 : decode cX4_tried 58 = .ok (.goto 4, 3) := by decide +kernel
theorem dX4_tried_61 : decode cX4_tried 61 = .ok (.iconst 0, 1) := by decide +kernel
theorem dX4_tried_62 : decode cX4_tried 62 = .ok (.iadd, 1) := by decide +kernel
theorem dX4_tried_63 : decode cX4_tried 63 = .ok (.istore 5, 2) := by decide +kernel
theorem dX4_tried_65 : decode cX4_tried 65 = .ok (.iinc 6 1, 3) := by decide +kernel
theorem dX4_tried_68 : decode cX4_tried 68 = .ok (.goto (-49), 3) := by decide +kernel
theorem dX4_tried_71 : decode cX4_tried 71 = .ok (.iload 5, 2) := by decide +kernel
theorem dX4_tried_73 : decode cX4_tried 73 = .ok (.ireturn, 1) := by decide +kernel
theorem dX4_trial_0 : decode cX4_trial 0 = .ok (.aload_n 0, 1) := by decide +kernel
theorem dX4_trial_1 : decode cX4_trial 1 = .ok (.iconst 0, 1) := by decide +kernel
theorem dX4_trial_2 : decode cX4_trial 2 = .ok (.putfield 19, 3) := by decide +kernel
theorem dX4_trial_5 : decode cX4_trial 5 = .ok (.aload_n 0, 1) := by decide +kernel
theorem dX4_trial_6 : decode cX4_trial 6 = .ok (.iload_n 1, 1) := by decide +kernel
theorem dX4_trial_7 : decode cX4_trial 7 = .ok (.invokevirtual 54, 3) := by decide +kernel
theorem dX4_trial_10 : decode cX4_trial 10 = .ok (.ifCond .ne 9, 3) := by decide +kernel
theorem dX4_trial_13 : decode cX4_trial 13 = .ok (.aload_n 0, 1) := by decide +kernel
theorem dX4_trial_14 : decode cX4_trial 14 = .ok (.iconst 1, 1) := by decide +kernel
theorem dX4_trial_15 : decode cX4_trial 15 = .ok (.invokevirtual 47, 3) := by decide +kernel
theorem dX4_trial_18 : decode cX4_trial 18 = .ok (.ireturn, 1) := by decide +kernel
theorem dX4_trial_19 : decode cX4_trial 19 = .ok (.iload_n 2, 1) := by decide +kernel
theorem dX4_trial_20 : decode cX4_trial 20 = .ok (.invokestatic 43, 3) := by decide +kernel
theorem dX4_trial_23 : decode cX4_trial 23 = .ok (.ifCond .eq 12, 3) := by decide +kernel
theorem dX4_trial_26 : decode cX4_trial 26 = .ok (.aload_n 0, 1) := by decide +kernel
theorem dX4_trial_27 : decode cX4_trial 27 = .ok (.iload_n 1, 1) := by decide +kernel
theorem dX4_trial_28 : decode cX4_trial 28 = .ok (.iload_n 2, 1) := by decide +kernel
theorem dX4_trial_29 : decode cX4_trial 29 = .ok (.invokevirtual 115, 3) := by decide +kernel
theorem dX4_trial_32 : decode cX4_trial 32 = .ok (.goto 8, 3) := by decide +kernel
theorem dX4_trial_35 : decode cX4_trial 35 = .ok (.aload_n 0, 1) := by decide +kernel
theorem dX4_trial_36 : decode cX4_trial 36 = .ok (.iconst 2, 1) := by decide +kernel
theorem dX4_trial_37 : decode cX4_trial 37 = .ok (.invokevirtual 47, 3) := by decide +kernel
theorem dX4_trial_40 : decode cX4_trial 40 = .ok (.ireturn, 1) := by decide +kernel
theorem dX4_safe_0 : decode cX4_safe 0 = .ok (.aload_n 0, 1) := by decide +kernel
theorem dX4_safe_1 : decode cX4_safe 1 = .ok (.iconst 0, 1) := by decide +kernel
theorem dX4_safe_2 : decode cX4_safe 2 = .ok (.putfield 19, 3) := by decide +kernel
theorem dX4_safe_5 : decode cX4_safe 5 = .ok (.aload_n 0, 1) := by decide +kernel
theorem dX4_safe_6 : decode cX4_safe 6 = .ok (.iload_n 1, 1) := by decide +kernel
theorem dX4_safe_7 : decode cX4_safe 7 = .ok (.invokevirtual 54, 3) := by decide +kernel
theorem dX4_safe_10 : decode cX4_safe 10 = .ok (.ifCond .eq 17, 3) := by decide +kernel
theorem dX4_safe_13 : decode cX4_safe 13 = .ok (.aload_n 0, 1) := by decide +kernel
theorem dX4_safe_14 : decode cX4_safe 14 = .ok (.iload_n 1, 1) := by decide +kernel
theorem dX4_safe_15 : decode cX4_safe 15 = .ok (.aload_n 0, 1) := by decide +kernel
theorem dX4_safe_16 : decode cX4_safe 16 = .ok (.iload_n 1, 1) := by decide +kernel
theorem dX4_safe_17 : decode cX4_safe 17 = .ok (.iconst 0, 1) := by decide +kernel
theorem dX4_safe_18 : decode cX4_safe 18 = .ok (.invokevirtual 30, 3) := by decide +kernel
theorem dX4_safe_21 : decode cX4_safe 21 = .ok (.invokevirtual 115, 3) := by decide +kernel
theorem dX4_safe_24 : decode cX4_safe 24 = .ok (.goto 8, 3) := by decide +kernel
theorem dX4_safe_27 : decode cX4_safe 27 = .ok (.aload_n 0, 1) := by decide +kernel
theorem dX4_safe_28 : decode cX4_safe 28 = .ok (.iconst 1, 1) := by decide +kernel
theorem dX4_safe_29 : decode cX4_safe 29 = .ok (.invokevirtual 47, 3) := by decide +kernel
theorem dX4_safe_32 : decode cX4_safe 32 = .ok (.ireturn, 1) := by decide +kernel
theorem dX4_wearAt_0 : decode cX4_wearAt 0 = .ok (.bipush 6, 2) := by decide +kernel
theorem dX4_wearAt_2 : decode cX4_wearAt 2 = .ok (.iconst 4, 1) := by decide +kernel
theorem dX4_wearAt_3 : decode cX4_wearAt 3 = .ok (.iload_n 1, 1) := by decide +kernel
theorem dX4_wearAt_4 : decode cX4_wearAt 4 = .ok (.imul, 1) := by decide +kernel
theorem dX4_wearAt_5 : decode cX4_wearAt 5 = .ok (.iload_n 2, 1) := by decide +kernel
theorem dX4_wearAt_6 : decode cX4_wearAt 6 = .ok (.iadd, 1) := by decide +kernel
theorem dX4_wearAt_7 : decode cX4_wearAt 7 = .ok (.imul, 1) := by decide +kernel
theorem dX4_wearAt_8 : decode cX4_wearAt 8 = .ok (.iload_n 3, 1) := by decide +kernel
theorem dX4_wearAt_9 : decode cX4_wearAt 9 = .ok (.iadd, 1) := by decide +kernel
theorem dX4_wearAt_10 : decode cX4_wearAt 10 = .ok (.istore 5, 2) := by decide +kernel
theorem dX4_wearAt_12 : decode cX4_wearAt 12 = .ok (.aload_n 0, 1) := by decide +kernel
theorem dX4_wearAt_13 : decode cX4_wearAt 13 = .ok (.getfield 13, 3) := by decide +kernel
theorem dX4_wearAt_16 : decode cX4_wearAt 16 = .ok (.iload 5, 2) := by decide +kernel
theorem dX4_wearAt_18 : decode cX4_wearAt 18 = .ok (.bipush 99, 2) := by decide +kernel
theorem dX4_wearAt_20 : decode cX4_wearAt 20 = .ok (.aload_n 0, 1) := by decide +kernel
theorem dX4_wearAt_21 : decode cX4_wearAt 21 = .ok (.getfield 13, 3) := by decide +kernel
theorem dX4_wearAt_24 : decode cX4_wearAt 24 = .ok (.iload 5, 2) := by decide +kernel
theorem dX4_wearAt_26 : decode cX4_wearAt 26 = .ok (.iaload, 1) := by decide +kernel
theorem dX4_wearAt_27 : decode cX4_wearAt 27 = .ok (.iload 4, 2) := by decide +kernel
theorem dX4_wearAt_29 : decode cX4_wearAt 29 = .ok (.iadd, 1) := by decide +kernel
theorem dX4_wearAt_30 : decode cX4_wearAt 30 = .ok (.invokestatic 40, 3) := by decide +kernel
theorem dX4_wearAt_33 : decode cX4_wearAt 33 = .ok (.iastore, 1) := by decide +kernel
theorem dX4_wearAt_34 : decode cX4_wearAt 34 = .ok (.return_, 1) := by decide +kernel
theorem dX4_hourOn_0 : decode cX4_hourOn 0 = .ok (.iconst 0, 1) := by decide +kernel
theorem dX4_hourOn_1 : decode cX4_hourOn 1 = .ok (.istore_n 1, 1) := by decide +kernel
theorem dX4_hourOn_2 : decode cX4_hourOn 2 = .ok (.iload_n 1, 1) := by decide +kernel
theorem dX4_hourOn_3 : decode cX4_hourOn 3 = .ok (.aload_n 0, 1) := by decide +kernel
theorem dX4_hourOn_4 : decode cX4_hourOn 4 = .ok (.getfield 23, 3) := by decide +kernel
theorem dX4_hourOn_7 : decode cX4_hourOn 7 = .ok (.if_icmp .ge 76, 3) := by decide +kernel
theorem dX4_hourOn_10 : decode cX4_hourOn 10 = .ok (.iconst 0, 1) := by decide +kernel
theorem dX4_hourOn_11 : decode cX4_hourOn 11 = .ok (.istore_n 2, 1) := by decide +kernel
theorem dX4_hourOn_12 : decode cX4_hourOn 12 = .ok (.iload_n 2, 1) := by decide +kernel
theorem dX4_hourOn_13 : decode cX4_hourOn 13 = .ok (.iconst 4, 1) := by decide +kernel
theorem dX4_hourOn_14 : decode cX4_hourOn 14 = .ok (.if_icmp .ge 63, 3) := by decide +kernel
theorem dX4_hourOn_17 : decode cX4_hourOn 17 = .ok (.aload_n 0, 1) := by decide +kernel
theorem dX4_hourOn_18 : decode cX4_hourOn 18 = .ok (.iload_n 1, 1) := by decide +kernel
theorem dX4_hourOn_19 : decode cX4_hourOn 19 = .ok (.iconst 1, 1) := by decide +kernel
theorem dX4_hourOn_20 : decode cX4_hourOn 20 = .ok (.invokevirtual 30, 3) := by decide +kernel
theorem dX4_hourOn_23 : decode cX4_hourOn 23 = .ok (.ifCond .ne 21, 3) := by decide +kernel
theorem dX4_hourOn_26 : decode cX4_hourOn 26 = .ok (.aload_n 0, 1) := by decide +kernel
theorem dX4_hourOn_27 : decode cX4_hourOn 27 = .ok (.iload_n 1, 1) := by decide +kernel
theorem dX4_hourOn_28 : decode cX4_hourOn 28 = .ok (.iload_n 2, 1) := by decide +kernel
theorem dX4_hourOn_29 : decode cX4_hourOn 29 = .ok (.aload_n 0, 1) := by decide +kernel
theorem dX4_hourOn_30 : decode cX4_hourOn 30 = .ok (.iload_n 1, 1) := by decide +kernel
theorem dX4_hourOn_31 : decode cX4_hourOn 31 = .ok (.iconst 4, 1) := by decide +kernel
theorem dX4_hourOn_32 : decode cX4_hourOn 32 = .ok (.iload_n 2, 1) := by decide +kernel
theorem dX4_hourOn_33 : decode cX4_hourOn 33 = .ok (.iadd, 1) := by decide +kernel
theorem dX4_hourOn_34 : decode cX4_hourOn 34 = .ok (.invokevirtual 30, 3) := by decide +kernel
theorem dX4_hourOn_37 : decode cX4_hourOn 37 = .ok (.iconst 1, 1) := by decide +kernel
theorem dX4_hourOn_38 : decode cX4_hourOn 38 = .ok (.invokevirtual 118, 3) := by decide +kernel
theorem dX4_hourOn_41 : decode cX4_hourOn 41 = .ok (.goto 30, 3) := by decide +kernel
theorem dX4_hourOn_44 : decode cX4_hourOn 44 = .ok (.aload_n 0, 1) := by decide +kernel
theorem dX4_hourOn_45 : decode cX4_hourOn 45 = .ok (.iload_n 1, 1) := by decide +kernel
theorem dX4_hourOn_46 : decode cX4_hourOn 46 = .ok (.iconst 2, 1) := by decide +kernel
theorem dX4_hourOn_47 : decode cX4_hourOn 47 = .ok (.invokevirtual 30, 3) := by decide +kernel
theorem dX4_hourOn_50 : decode cX4_hourOn 50 = .ok (.iconst (-1), 1) := by decide +kernel
theorem dX4_hourOn_51 : decode cX4_hourOn 51 = .ok (.if_icmp .eq 20, 3) := by decide +kernel
theorem dX4_hourOn_54 : decode cX4_hourOn 54 = .ok (.aload_n 0, 1) := by decide +kernel
theorem dX4_hourOn_55 : decode cX4_hourOn 55 = .ok (.iload_n 1, 1) := by decide +kernel
theorem dX4_hourOn_56 : decode cX4_hourOn 56 = .ok (.iload_n 2, 1) := by decide +kernel
theorem dX4_hourOn_57 : decode cX4_hourOn 57 = .ok (.aload_n 0, 1) := by decide +kernel
theorem dX4_hourOn_58 : decode cX4_hourOn 58 = .ok (.iload_n 1, 1) := by decide +kernel
theorem dX4_hourOn_59 : decode cX4_hourOn 59 = .ok (.iconst 0, 1) := by decide +kernel
theorem dX4_hourOn_60 : decode cX4_hourOn 60 = .ok (.invokevirtual 30, 3) := by decide +kernel
theorem dX4_hourOn_63 : decode cX4_hourOn 63 = .ok (.iload_n 2, 1) := by decide +kernel
theorem dX4_hourOn_64 : decode cX4_hourOn 64 = .ok (.invokestatic 101, 3) := by decide +kernel
theorem dX4_hourOn_67 : decode cX4_hourOn 67 = .ok (.iconst 2, 1) := by decide +kernel
theorem dX4_hourOn_68 : decode cX4_hourOn 68 = .ok (.invokevirtual 118, 3) := by decide +kernel
theorem dX4_hourOn_71 : decode cX4_hourOn 71 = .ok (.iinc 2 1, 3) := by decide +kernel
theorem dX4_hourOn_74 : decode cX4_hourOn 74 = .ok (.goto (-62), 3) := by decide +kernel
theorem dX4_hourOn_77 : decode cX4_hourOn 77 = .ok (.iinc 1 1, 3) := by decide +kernel
theorem dX4_hourOn_80 : decode cX4_hourOn 80 = .ok (.goto (-78), 3) := by decide +kernel
theorem dX4_hourOn_83 : decode cX4_hourOn 83 = .ok (.iconst 0, 1) := by decide +kernel
theorem dX4_hourOn_84 : decode cX4_hourOn 84 = .ok (.istore_n 1, 1) := by decide +kernel
theorem dX4_hourOn_85 : decode cX4_hourOn 85 = .ok (.iconst 0, 1) := by decide +kernel
theorem dX4_hourOn_86 : decode cX4_hourOn 86 = .ok (.istore_n 2, 1) := by decide +kernel
theorem dX4_hourOn_87 : decode cX4_hourOn 87 = .ok (.iload_n 2, 1) := by decide +kernel
theorem dX4_hourOn_88 : decode cX4_hourOn 88 = .ok (.aload_n 0, 1) := by decide +kernel
theorem dX4_hourOn_89 : decode cX4_hourOn 89 = .ok (.getfield 23, 3) := by decide +kernel
theorem dX4_hourOn_92 : decode cX4_hourOn 92 = .ok (.if_icmp .ge 52, 3) := by decide +kernel
theorem dX4_hourOn_95 : decode cX4_hourOn 95 = .ok (.aload_n 0, 1) := by decide +kernel
theorem dX4_hourOn_96 : decode cX4_hourOn 96 = .ok (.iload_n 2, 1) := by decide +kernel
theorem dX4_hourOn_97 : decode cX4_hourOn 97 = .ok (.iconst 2, 1) := by decide +kernel
theorem dX4_hourOn_98 : decode cX4_hourOn 98 = .ok (.invokevirtual 30, 3) := by decide +kernel
theorem dX4_hourOn_101 : decode cX4_hourOn 101 = .ok (.iconst (-1), 1) := by decide +kernel
theorem dX4_hourOn_102 : decode cX4_hourOn 102 = .ok (.if_icmp .eq 36, 3) := by decide +kernel
theorem dX4_hourOn_105 : decode cX4_hourOn 105 = .ok (.aload_n 0, 1) := by decide +kernel
theorem dX4_hourOn_106 : decode cX4_hourOn 106 = .ok (.iload_n 2, 1) := by decide +kernel
theorem dX4_hourOn_107 : decode cX4_hourOn 107 = .ok (.iconst 1, 1) := by decide +kernel
theorem dX4_hourOn_108 : decode cX4_hourOn 108 = .ok (.invokevirtual 30, 3) := by decide +kernel
theorem dX4_hourOn_111 : decode cX4_hourOn 111 = .ok (.ifCond .eq 27, 3) := by decide +kernel
theorem dX4_hourOn_114 : decode cX4_hourOn 114 = .ok (.aload_n 0, 1) := by decide +kernel
theorem dX4_hourOn_115 : decode cX4_hourOn 115 = .ok (.aload_n 0, 1) := by decide +kernel
theorem dX4_hourOn_116 : decode cX4_hourOn 116 = .ok (.iload_n 2, 1) := by decide +kernel
theorem dX4_hourOn_117 : decode cX4_hourOn 117 = .ok (.iconst 2, 1) := by decide +kernel
theorem dX4_hourOn_118 : decode cX4_hourOn 118 = .ok (.invokevirtual 30, 3) := by decide +kernel
theorem dX4_hourOn_121 : decode cX4_hourOn 121 = .ok (.invokevirtual 82, 3) := by decide +kernel
theorem dX4_hourOn_124 : decode cX4_hourOn 124 = .ok (.ifCond .eq 6, 3) := by decide +kernel
theorem dX4_hourOn_127 : decode cX4_hourOn 127 = .ok (.goto 11, 3) := by decide +kernel
theorem dX4_hourOn_130 : decode cX4_hourOn 130 = .ok (.aload_n 0, 1) := by decide +kernel
theorem dX4_hourOn_131 : decode cX4_hourOn 131 = .ok (.iload_n 2, 1) := by decide +kernel
theorem dX4_hourOn_132 : decode cX4_hourOn 132 = .ok (.invokevirtual 66, 3) := by decide +kernel
theorem dX4_hourOn_135 : decode cX4_hourOn 135 = .ok (.iinc 1 1, 3) := by decide +kernel
theorem dX4_hourOn_138 : decode cX4_hourOn 138 = .ok (.iinc 2 1, 3) := by decide +kernel
theorem dX4_hourOn_141 : decode cX4_hourOn 141 = .ok (.goto (-54), 3) := by decide +kernel
theorem dX4_hourOn_144 : decode cX4_hourOn 144 = .ok (.aload_n 0, 1) := by decide +kernel
theorem dX4_hourOn_145 : decode cX4_hourOn 145 = .ok (.dup, 1) := by decide +kernel
theorem dX4_hourOn_146 : decode cX4_hourOn 146 = .ok (.getfield 70, 3) := by decide +kernel
theorem dX4_hourOn_149 : decode cX4_hourOn 149 = .ok (.iconst 1, 1) := by decide +kernel
theorem dX4_hourOn_150 : decode cX4_hourOn 150 = .ok (.iadd, 1) := by decide +kernel
theorem dX4_hourOn_151 : decode cX4_hourOn 151 = .ok (.putfield 70, 3) := by decide +kernel
theorem dX4_hourOn_154 : decode cX4_hourOn 154 = .ok (.iload_n 1, 1) := by decide +kernel
theorem dX4_hourOn_155 : decode cX4_hourOn 155 = .ok (.ireturn, 1) := by decide +kernel
theorem dX4_hoursOn_0 : decode cX4_hoursOn 0 = .ok (.iconst 0, 1) := by decide +kernel
theorem dX4_hoursOn_1 : decode cX4_hoursOn 1 = .ok (.istore_n 2, 1) := by decide +kernel
theorem dX4_hoursOn_2 : decode cX4_hoursOn 2 = .ok (.iconst 0, 1) := by decide +kernel
theorem dX4_hoursOn_3 : decode cX4_hoursOn 3 = .ok (.istore_n 3, 1) := by decide +kernel
theorem dX4_hoursOn_4 : decode cX4_hoursOn 4 = .ok (.iload_n 3, 1) := by decide +kernel
theorem dX4_hoursOn_5 : decode cX4_hoursOn 5 = .ok (.iload_n 1, 1) := by decide +kernel
theorem dX4_hoursOn_6 : decode cX4_hoursOn 6 = .ok (.if_icmp .ge 16, 3) := by decide +kernel
theorem dX4_hoursOn_9 : decode cX4_hoursOn 9 = .ok (.iload_n 2, 1) := by decide +kernel
theorem dX4_hoursOn_10 : decode cX4_hoursOn 10 = .ok (.aload_n 0, 1) := by decide +kernel
theorem dX4_hoursOn_11 : decode cX4_hoursOn 11 = .ok (.invokevirtual 122, 3) := by decide +kernel
theorem dX4_hoursOn_14 : decode cX4_hoursOn 14 = .ok (.iadd, 1) := by decide +kernel
theorem dX4_hoursOn_15 : decode cX4_hoursOn 15 = .ok (.istore_n 2, 1) := by decide +kernel
theorem dX4_hoursOn_16 : decode cX4_hoursOn 16 = .ok (.iinc 3 1, 3) := by decide +kernel
theorem dX4_hoursOn_19 : decode cX4_hoursOn 19 = .ok (.goto (-15), 3) := by decide +kernel
theorem dX4_hoursOn_22 : decode cX4_hoursOn 22 = .ok (.iload_n 2, 1) := by decide +kernel
theorem dX4_hoursOn_23 : decode cX4_hoursOn 23 = .ok (.ireturn, 1) := by decide +kernel
theorem dX4_pass_0 : decode cX4_pass 0 = .ok (.aload_n 0, 1) := by decide +kernel
theorem dX4_pass_1 : decode cX4_pass 1 = .ok (.iconst 0, 1) := by decide +kernel
theorem dX4_pass_2 : decode cX4_pass 2 = .ok (.putfield 19, 3) := by decide +kernel
theorem dX4_pass_5 : decode cX4_pass 5 = .ok (.iload_n 1, 1) := by decide +kernel
theorem dX4_pass_6 : decode cX4_pass 6 = .ok (.iconst 1, 1) := by decide +kernel
theorem dX4_pass_7 : decode cX4_pass 7 = .ok (.bipush 99, 2) := by decide +kernel
theorem dX4_pass_9 : decode cX4_pass 9 = .ok (.invokestatic 26, 3) := by decide +kernel
theorem dX4_pass_12 : decode cX4_pass 12 = .ok (.ifCond .eq 11, 3) := by decide +kernel
theorem dX4_pass_15 : decode cX4_pass 15 = .ok (.aload_n 0, 1) := by decide +kernel
theorem dX4_pass_16 : decode cX4_pass 16 = .ok (.iload_n 1, 1) := by decide +kernel
theorem dX4_pass_17 : decode cX4_pass 17 = .ok (.invokevirtual 126, 3) := by decide +kernel
theorem dX4_pass_20 : decode cX4_pass 20 = .ok (.goto 8, 3) := by decide +kernel
theorem dX4_pass_23 : decode cX4_pass 23 = .ok (.aload_n 0, 1) := by decide +kernel
theorem dX4_pass_24 : decode cX4_pass 24 = .ok (.iconst 1, 1) := by decide +kernel
theorem dX4_pass_25 : decode cX4_pass 25 = .ok (.invokevirtual 47, 3) := by decide +kernel
theorem dX4_pass_28 : decode cX4_pass 28 = .ok (.ireturn, 1) := by decide +kernel
theorem dX4_bringBack_0 : decode cX4_bringBack 0 = .ok (.aload_n 1, 1) := by decide +kernel
theorem dX4_bringBack_1 : decode cX4_bringBack 1 = .ok (.iconst 0, 1) := by decide +kernel
theorem dX4_bringBack_2 : decode cX4_bringBack 2 = .ok (.aload_n 0, 1) := by decide +kernel
theorem dX4_bringBack_3 : decode cX4_bringBack 3 = .ok (.getfield 9, 3) := by decide +kernel
theorem dX4_bringBack_6 : decode cX4_bringBack 6 = .ok (.iconst 0, 1) := by decide +kernel
theorem dX4_bringBack_7 : decode cX4_bringBack 7 = .ok (.aload_n 0, 1) := by decide +kernel
theorem dX4_bringBack_8 : decode cX4_bringBack 8 = .ok (.getfield 9, 3) := by decide +kernel
theorem dX4_bringBack_11 : decode cX4_bringBack 11 = .ok (.arraylength, 1) := by decide +kernel
theorem dX4_bringBack_12 : decode cX4_bringBack 12 = .ok (.invokestatic 129, 3) := by decide +kernel
theorem dX4_bringBack_15 : decode cX4_bringBack 15 = .ok (.aload_n 2, 1) := by decide +kernel
theorem dX4_bringBack_16 : decode cX4_bringBack 16 = .ok (.iconst 0, 1) := by decide +kernel
theorem dX4_bringBack_17 : decode cX4_bringBack 17 = .ok (.aload_n 0, 1) := by decide +kernel
theorem dX4_bringBack_18 : decode cX4_bringBack 18 = .ok (.getfield 13, 3) := by decide +kernel
theorem dX4_bringBack_21 : decode cX4_bringBack 21 = .ok (.iconst 0, 1) := by decide +kernel
theorem dX4_bringBack_22 : decode cX4_bringBack 22 = .ok (.aload_n 0, 1) := by decide +kernel
theorem dX4_bringBack_23 : decode cX4_bringBack 23 = .ok (.getfield 13, 3) := by decide +kernel
theorem dX4_bringBack_26 : decode cX4_bringBack 26 = .ok (.arraylength, 1) := by decide +kernel
theorem dX4_bringBack_27 : decode cX4_bringBack 27 = .ok (.invokestatic 129, 3) := by decide +kernel
theorem dX4_bringBack_30 : decode cX4_bringBack 30 = .ok (.aload_n 0, 1) := by decide +kernel
theorem dX4_bringBack_31 : decode cX4_bringBack 31 = .ok (.iload_n 3, 1) := by decide +kernel
theorem dX4_bringBack_32 : decode cX4_bringBack 32 = .ok (.putfield 70, 3) := by decide +kernel
theorem dX4_bringBack_35 : decode cX4_bringBack 35 = .ok (.return_, 1) := by decide +kernel
theorem dX4_foresee_0 : decode cX4_foresee 0 = .ok (.aload_n 0, 1) := by decide +kernel
theorem dX4_foresee_1 : decode cX4_foresee 1 = .ok (.iconst 0, 1) := by decide +kernel
theorem dX4_foresee_2 : decode cX4_foresee 2 = .ok (.putfield 19, 3) := by decide +kernel
theorem dX4_foresee_5 : decode cX4_foresee 5 = .ok (.iload_n 1, 1) := by decide +kernel
theorem dX4_foresee_6 : decode cX4_foresee 6 = .ok (.iconst 1, 1) := by decide +kernel
theorem dX4_foresee_7 : decode cX4_foresee 7 = .ok (.bipush 99, 2) := by decide +kernel
theorem dX4_foresee_9 : decode cX4_foresee 9 = .ok (.invokestatic 26, 3) := by decide +kernel
theorem dX4_foresee_12 : decode cX4_foresee 12 = .ok (.ifCond .ne 9, 3) := by decide +kernel
theorem dX4_foresee_15 : decode cX4_foresee 15 = .ok (.aload_n 0, 1) := by decide +kernel
theorem dX4_foresee_16 : decode cX4_foresee 16 = .ok (.iconst 1, 1) := by decide +kernel
theorem dX4_foresee_17 : decode cX4_foresee 17 = .ok (.invokevirtual 47, 3) := by decide +kernel
theorem dX4_foresee_20 : decode cX4_foresee 20 = .ok (.ireturn, 1) := by decide +kernel
theorem dX4_foresee_21 : decode cX4_foresee 21 = .ok (.aload_n 0, 1) := by decide +kernel
theorem dX4_foresee_22 : decode cX4_foresee 22 = .ok (.iload_n 2, 1) := by decide +kernel
theorem dX4_foresee_23 : decode cX4_foresee 23 = .ok (.invokevirtual 54, 3) := by decide +kernel
theorem dX4_foresee_26 : decode cX4_foresee 26 = .ok (.ifCond .ne 9, 3) := by decide +kernel
theorem dX4_foresee_29 : decode cX4_foresee 29 = .ok (.aload_n 0, 1) := by decide +kernel
theorem dX4_foresee_30 : decode cX4_foresee 30 = .ok (.iconst 2, 1) := by decide +kernel
theorem dX4_foresee_31 : decode cX4_foresee 31 = .ok (.invokevirtual 47, 3) := by decide +kernel
theorem dX4_foresee_34 : decode cX4_foresee 34 = .ok (.ireturn, 1) := by decide +kernel
theorem dX4_foresee_35 : decode cX4_foresee 35 = .ok (.aload_n 0, 1) := by decide +kernel
theorem dX4_foresee_36 : decode cX4_foresee 36 = .ok (.getfield 9, 3) := by decide +kernel
theorem dX4_foresee_39 : decode cX4_foresee 39 = .ok (.invokevirtual 135, 3) := by decide +kernel
theorem dX4_foresee_42 : decode cX4_foresee 42 = .ok (.checkcast 136, 3) := by decide +kernel
theorem dX4_foresee_45 : decode cX4_foresee 45 = .ok (.astore_n 3, 1) := by decide +kernel
theorem dX4_foresee_46 : decode cX4_foresee 46 = .ok (.aload_n 0, 1) := by decide +kernel
theorem dX4_foresee_47 : decode cX4_foresee 47 = .ok (.getfield 13, 3) := by decide +kernel
theorem dX4_foresee_50 : decode cX4_foresee 50 = .ok (.invokevirtual 135, 3) := by decide +kernel
theorem dX4_foresee_53 : decode cX4_foresee 53 = .ok (.checkcast 136, 3) := by decide +kernel
theorem dX4_foresee_56 : decode cX4_foresee 56 = .ok (.astore 4, 2) := by decide +kernel
theorem dX4_foresee_58 : decode cX4_foresee 58 = .ok (.aload_n 0, 1) := by decide +kernel
theorem dX4_foresee_59 : decode cX4_foresee 59 = .ok (.getfield 70, 3) := by decide +kernel
theorem dX4_foresee_62 : decode cX4_foresee 62 = .ok (.istore 5, 2) := by decide +kernel
theorem dX4_foresee_64 : decode cX4_foresee 64 = .ok (.aload_n 0, 1) := by decide +kernel
theorem dX4_foresee_65 : decode cX4_foresee 65 = .ok (.iload_n 1, 1) := by decide +kernel
theorem dX4_foresee_66 : decode cX4_foresee 66 = .ok (.invokevirtual 126, 3) := by decide +kernel
theorem dX4_foresee_69 : decode cX4_foresee 69 = .ok (.pop, 1) := by decide +kernel
theorem dX4_foresee_70 : decode cX4_foresee 70 = .ok (.aload_n 0, 1) := by decide +kernel
theorem dX4_foresee_71 : decode cX4_foresee 71 = .ok (.iload_n 2, 1) := by decide +kernel
theorem dX4_foresee_72 : decode cX4_foresee 72 = .ok (.aload_n 0, 1) := by decide +kernel
theorem dX4_foresee_73 : decode cX4_foresee 73 = .ok (.iload_n 2, 1) := by decide +kernel
theorem dX4_foresee_74 : decode cX4_foresee 74 = .ok (.iconst 0, 1) := by decide +kernel
theorem dX4_foresee_75 : decode cX4_foresee 75 = .ok (.invokevirtual 30, 3) := by decide +kernel
theorem dX4_foresee_78 : decode cX4_foresee 78 = .ok (.invokevirtual 115, 3) := by decide +kernel
theorem dX4_foresee_81 : decode cX4_foresee 81 = .ok (.istore 6, 2) := by decide +kernel
theorem dX4_foresee_83 : decode cX4_foresee 83 = .ok (.aload_n 0, 1) := by decide +kernel
theorem dX4_foresee_84 : decode cX4_foresee 84 = .ok (.aload_n 3, 1) := by decide +kernel
theorem dX4_foresee_85 : decode cX4_foresee 85 = .ok (.aload 4, 2) := by decide +kernel
theorem dX4_foresee_87 : decode cX4_foresee 87 = .ok (.iload 5, 2) := by decide +kernel
theorem dX4_foresee_89 : decode cX4_foresee 89 = .ok (.invokevirtual 140, 3) := by decide +kernel
theorem dX4_foresee_92 : decode cX4_foresee 92 = .ok (.iload 6, 2) := by decide +kernel
theorem dX4_foresee_94 : decode cX4_foresee 94 = .ok (.ireturn, 1) := by decide +kernel
theorem dX4_until_0 : decode cX4_until 0 = .ok (.aload_n 0, 1) := by decide +kernel
theorem dX4_until_1 : decode cX4_until 1 = .ok (.iconst 0, 1) := by decide +kernel
theorem dX4_until_2 : decode cX4_until 2 = .ok (.putfield 19, 3) := by decide +kernel
theorem dX4_until_5 : decode cX4_until 5 = .ok (.aload_n 0, 1) := by decide +kernel
theorem dX4_until_6 : decode cX4_until 6 = .ok (.iload_n 1, 1) := by decide +kernel
theorem dX4_until_7 : decode cX4_until 7 = .ok (.invokevirtual 54, 3) := by decide +kernel
theorem dX4_until_10 : decode cX4_until 10 = .ok (.ifCond .ne 9, 3) := by decide +kernel
theorem dX4_until_13 : decode cX4_until 13 = .ok (.aload_n 0, 1) := by decide +kernel
theorem dX4_until_14 : decode cX4_until 14 = .ok (.iconst 1, 1) := by decide +kernel
theorem dX4_until_15 : decode cX4_until 15 = .ok (.invokevirtual 47, 3) := by decide +kernel
theorem dX4_until_18 : decode cX4_until 18 = .ok (.ireturn, 1) := by decide +kernel
theorem dX4_until_19 : decode cX4_until 19 = .ok (.aload_n 0, 1) := by decide +kernel
theorem dX4_until_20 : decode cX4_until 20 = .ok (.getfield 9, 3) := by decide +kernel
theorem dX4_until_23 : decode cX4_until 23 = .ok (.invokevirtual 135, 3) := by decide +kernel
theorem dX4_until_26 : decode cX4_until 26 = .ok (.checkcast 136, 3) := by decide +kernel
theorem dX4_until_29 : decode cX4_until 29 = .ok (.astore_n 2, 1) := by decide +kernel
theorem dX4_until_30 : decode cX4_until 30 = .ok (.aload_n 0, 1) := by decide +kernel
theorem dX4_until_31 : decode cX4_until 31 = .ok (.getfield 13, 3) := by decide +kernel
theorem dX4_until_34 : decode cX4_until 34 = .ok (.invokevirtual 135, 3) := by decide +kernel
theorem dX4_until_37 : decode cX4_until 37 = .ok (.checkcast 136, 3) := by decide +kernel
theorem dX4_until_40 : decode cX4_until 40 = .ok (.astore_n 3, 1) := by decide +kernel
theorem dX4_until_41 : decode cX4_until 41 = .ok (.aload_n 0, 1) := by decide +kernel
theorem dX4_until_42 : decode cX4_until 42 = .ok (.getfield 70, 3) := by decide +kernel
theorem dX4_until_45 : decode cX4_until 45 = .ok (.istore 4, 2) := by decide +kernel
theorem dX4_until_47 : decode cX4_until 47 = .ok (.iconst 0, 1) := by decide +kernel
theorem dX4_until_48 : decode cX4_until 48 = .ok (.istore 5, 2) := by decide +kernel
theorem dX4_until_50 : decode cX4_until 50 = .ok (.iload 5, 2) := by decide +kernel
theorem dX4_until_52 : decode cX4_until 52 = .ok (.bipush 48, 2) := by decide +kernel
theorem dX4_until_54 : decode cX4_until 54 = .ok (.if_icmp .gt 24, 3) := by decide +kernel
theorem dX4_until_57 : decode cX4_until 57 = .ok (.aload_n 0, 1) := by decide +kernel
theorem dX4_until_58 : decode cX4_until 58 = .ok (.iload_n 1, 1) := by decide +kernel
theorem dX4_until_59 : decode cX4_until 59 = .ok (.iconst 1, 1) := by decide +kernel
theorem dX4_until_60 : decode cX4_until 60 = .ok (.invokevirtual 30, 3) := by decide +kernel
theorem dX4_until_63 : decode cX4_until 63 = .ok (.iconst 1, 1) := by decide +kernel
theorem dX4_until_64 : decode cX4_until 64 = .ok (.if_icmp .ne 14, 3) := by decide +kernel
theorem dX4_until_67 : decode cX4_until 67 = .ok (.aload_n 0, 1) := by decide +kernel
theorem dX4_until_68 : decode cX4_until 68 = .ok (.invokevirtual 122, 3) := by decide +kernel
theorem dX4_until_71 : decode cX4_until 71 = .ok (.pop, 1) := by decide +kernel
theorem dX4_until_72 : decode cX4_until 72 = .ok (.iinc 5 1, 3) := by decide +kernel
theorem dX4_until_75 : decode cX4_until 75 = .ok (.goto (-25), 3) := by decide +kernel
theorem dX4_until_78 : decode cX4_until 78 = .ok (.aload_n 0, 1) := by decide +kernel
theorem dX4_until_79 : decode cX4_until 79 = .ok (.aload_n 2, 1) := by decide +kernel
theorem dX4_until_80 : decode cX4_until 80 = .ok (.aload_n 3, 1) := by decide +kernel
theorem dX4_until_81 : decode cX4_until 81 = .ok (.iload 4, 2) := by decide +kernel
theorem dX4_until_83 : decode cX4_until 83 = .ok (.invokevirtual 140, 3) := by decide +kernel
theorem dX4_until_86 : decode cX4_until 86 = .ok (.iload 5, 2) := by decide +kernel
theorem dX4_until_88 : decode cX4_until 88 = .ok (.bipush 48, 2) := by decide +kernel
theorem dX4_until_90 : decode cX4_until 90 = .ok (.if_icmp .le 7, 3) := by decide +kernel
theorem dX4_until_93 : decode cX4_until 93 = .ok (.iconst (-1), 1) := by decide +kernel
theorem dX4_until_94 : decode cX4_until 94 = .ok (.goto 5, 3) := by decide +kernel
theorem dX4_until_97 : decode cX4_until 97 = .ok (.iload 5, 2) := by decide +kernel
theorem dX4_until_99 : decode cX4_until 99 = .ok (.ireturn, 1) := by decide +kernel
theorem dX4_weakest_0 : decode cX4_weakest 0 = .ok (.aload_n 0, 1) := by decide +kernel
theorem dX4_weakest_1 : decode cX4_weakest 1 = .ok (.iconst 0, 1) := by decide +kernel
theorem dX4_weakest_2 : decode cX4_weakest 2 = .ok (.putfield 19, 3) := by decide +kernel
theorem dX4_weakest_5 : decode cX4_weakest 5 = .ok (.iconst (-1), 1) := by decide +kernel
theorem dX4_weakest_6 : decode cX4_weakest 6 = .ok (.istore_n 1, 1) := by decide +kernel
theorem dX4_weakest_7 : decode cX4_weakest 7 = .ok (.sipush 1297, 3) := by decide +kernel
theorem dX4_weakest_10 : decode cX4_weakest 10 = .ok (.istore_n 2, 1) := by decide +kernel
theorem dX4_weakest_11 : decode cX4_weakest 11 = .ok (.iconst 0, 1) := by decide +kernel
theorem dX4_weakest_12 : decode cX4_weakest 12 = .ok (.istore_n 3, 1) := by decide +kernel
theorem dX4_weakest_13 : decode cX4_weakest 13 = .ok (.iload_n 3, 1) := by decide +kernel
theorem dX4_weakest_14 : decode cX4_weakest 14 = .ok (.aload_n 0, 1) := by decide +kernel
theorem dX4_weakest_15 : decode cX4_weakest 15 = .ok (.getfield 23, 3) := by decide +kernel
theorem dX4_weakest_18 : decode cX4_weakest 18 = .ok (.if_icmp .ge 36, 3) := by decide +kernel
theorem dX4_weakest_21 : decode cX4_weakest 21 = .ok (.aload_n 0, 1) := by decide +kernel
theorem dX4_weakest_22 : decode cX4_weakest 22 = .ok (.iload_n 3, 1) := by decide +kernel
theorem dX4_weakest_23 : decode cX4_weakest 23 = .ok (.aload_n 0, 1) := by decide +kernel
theorem dX4_weakest_24 : decode cX4_weakest 24 = .ok (.iload_n 3, 1) := by decide +kernel
theorem dX4_weakest_25 : decode cX4_weakest 25 = .ok (.iconst 0, 1) := by decide +kernel
theorem dX4_weakest_26 : decode cX4_weakest 26 = .ok (.invokevirtual 30, 3) := by decide +kernel
theorem dX4_weakest_29 : decode cX4_weakest 29 = .ok (.invokevirtual 115, 3) := by decide +kernel
theorem dX4_weakest_32 : decode cX4_weakest 32 = .ok (.istore 4, 2) := by decide +kernel
theorem dX4_weakest_34 : decode cX4_weakest 34 = .ok (.iload 4, 2) := by decide +kernel
theorem dX4_weakest_36 : decode cX4_weakest 36 = .ok (.iload_n 2, 1) := by decide +kernel
theorem dX4_weakest_37 : decode cX4_weakest 37 = .ok (.if_icmp .lt 6, 3) := by decide +kernel
theorem dX4_weakest_40 : decode cX4_weakest 40 = .ok (.goto 8, 3) := by decide +kernel
theorem dX4_weakest_43 : decode cX4_weakest 43 = .ok (.iload_n 3, 1) := by decide +kernel
theorem dX4_weakest_44 : decode cX4_weakest 44 = .ok (.istore_n 1, 1) := by decide +kernel
theorem dX4_weakest_45 : decode cX4_weakest 45 = .ok (.iload 4, 2) := by decide +kernel
theorem dX4_weakest_47 : decode cX4_weakest 47 = .ok (.istore_n 2, 1) := by decide +kernel
theorem dX4_weakest_48 : decode cX4_weakest 48 = .ok (.iinc 3 1, 3) := by decide +kernel
theorem dX4_weakest_51 : decode cX4_weakest 51 = .ok (.goto (-38), 3) := by decide +kernel
theorem dX4_weakest_54 : decode cX4_weakest 54 = .ok (.iload_n 1, 1) := by decide +kernel
theorem dX4_weakest_55 : decode cX4_weakest 55 = .ok (.ireturn, 1) := by decide +kernel
theorem dX4_mean_0 : decode cX4_mean 0 = .ok (.aload_n 0, 1) := by decide +kernel
theorem dX4_mean_1 : decode cX4_mean 1 = .ok (.iconst 0, 1) := by decide +kernel
theorem dX4_mean_2 : decode cX4_mean 2 = .ok (.putfield 19, 3) := by decide +kernel
theorem dX4_mean_5 : decode cX4_mean 5 = .ok (.aload_n 0, 1) := by decide +kernel
theorem dX4_mean_6 : decode cX4_mean 6 = .ok (.getfield 23, 3) := by decide +kernel
theorem dX4_mean_9 : decode cX4_mean 9 = .ok (.ifCond .ne 7, 3) := by decide +kernel
theorem dX4_mean_12 : decode cX4_mean 12 = .ok (.dconst 0, 1) := by decide +kernel
theorem dX4_mean_13 : decode cX4_mean 13 = .ok (.goto 18, 3) := by decide +kernel
theorem dX4_mean_16 : decode cX4_mean 16 = .ok (.aload_n 0, 1) := by decide +kernel
theorem dX4_mean_17 : decode cX4_mean 17 = .ok (.iconst 4, 1) := by decide +kernel
theorem dX4_mean_18 : decode cX4_mean 18 = .ok (.invokevirtual 98, 3) := by decide +kernel
theorem dX4_mean_21 : decode cX4_mean 21 = .ok (.i2d, 1) := by decide +kernel
theorem dX4_mean_22 : decode cX4_mean 22 = .ok (.bipush 24, 2) := by decide +kernel
theorem dX4_mean_24 : decode cX4_mean 24 = .ok (.aload_n 0, 1) := by decide +kernel
theorem dX4_mean_25 : decode cX4_mean 25 = .ok (.getfield 23, 3) := by decide +kernel
theorem dX4_mean_28 : decode cX4_mean 28 = .ok (.imul, 1) := by decide +kernel
theorem dX4_mean_29 : decode cX4_mean 29 = .ok (.i2d, 1) := by decide +kernel
theorem dX4_mean_30 : decode cX4_mean 30 = .ok (.ddiv, 1) := by decide +kernel
theorem dX4_mean_31 : decode cX4_mean 31 = .ok (.dreturn, 1) := by decide +kernel
theorem dX4_digest_0 : decode cX4_digest 0 = .ok (.aload_n 0, 1) := by decide +kernel
theorem dX4_digest_1 : decode cX4_digest 1 = .ok (.iconst 0, 1) := by decide +kernel
theorem dX4_digest_2 : decode cX4_digest 2 = .ok (.putfield 19, 3) := by decide +kernel
theorem dX4_digest_5 : decode cX4_digest 5 = .ok (.ldc2_w 144, 3) := by decide +kernel
theorem dX4_digest_8 : decode cX4_digest 8 = .ok (.lstore_n 1, 1) := by decide +kernel
theorem dX4_digest_9 : decode cX4_digest 9 = .ok (.iconst 0, 1) := by decide +kernel
theorem dX4_digest_10 : decode cX4_digest 10 = .ok (.istore_n 3, 1) := by decide +kernel
theorem dX4_digest_11 : decode cX4_digest 11 = .ok (.iload_n 3, 1) := by decide +kernel
theorem dX4_digest_12 : decode cX4_digest 12 = .ok (.bipush 7, 2) := by decide +kernel
theorem dX4_digest_14 : decode cX4_digest 14 = .ok (.if_icmp .ge 22, 3) := by decide +kernel
theorem dX4_digest_17 : decode cX4_digest 17 = .ok (.lload_n 1, 1) := by decide +kernel
theorem dX4_digest_18 : decode cX4_digest 18 = .ok (.ldc2_w 146, 3) := by decide +kernel
theorem dX4_digest_21 : decode cX4_digest 21 = .ok (.lmul, 1) := by decide +kernel
theorem dX4_digest_22 : decode cX4_digest 22 = .ok (.aload_n 0, 1) := by decide +kernel
theorem dX4_digest_23 : decode cX4_digest 23 = .ok (.iload_n 3, 1) := by decide +kernel
theorem dX4_digest_24 : decode cX4_digest 24 = .ok (.invokevirtual 98, 3) := by decide +kernel
theorem dX4_digest_27 : decode cX4_digest 27 = .ok (.i2l, 1) := by decide +kernel
theorem dX4_digest_28 : decode cX4_digest 28 = .ok (.ladd, 1) := by decide +kernel
theorem dX4_digest_29 : decode cX4_digest 29 = .ok (.lstore_n 1, 1) := by decide +kernel
theorem dX4_digest_30 : decode cX4_digest 30 = .ok (.iinc 3 1, 3) := by decide +kernel
theorem dX4_digest_33 : decode cX4_digest 33 = .ok (.goto (-22), 3) := by decide +kernel
theorem dX4_digest_36 : decode cX4_digest 36 = .ok (.iconst 0, 1) := by decide +kernel
theorem dX4_digest_37 : decode cX4_digest 37 = .ok (.istore_n 3, 1) := by decide +kernel
theorem dX4_digest_38 : decode cX4_digest 38 = .ok (.iload_n 3, 1) := by decide +kernel
theorem dX4_digest_39 : decode cX4_digest 39 = .ok (.iconst 3, 1) := by decide +kernel
theorem dX4_digest_40 : decode cX4_digest 40 = .ok (.if_icmp .ge 40, 3) := by decide +kernel
theorem dX4_digest_43 : decode cX4_digest 43 = .ok (.iconst 0, 1) := by decide +kernel
theorem dX4_digest_44 : decode cX4_digest 44 = .ok (.istore 4, 2) := by decide +kernel
theorem dX4_digest_46 : decode cX4_digest 46 = .ok (.iload 4, 2) := by decide +kernel
theorem dX4_digest_48 : decode cX4_digest 48 = .ok (.bipush 6, 2) := by decide +kernel
theorem dX4_digest_50 : decode cX4_digest 50 = .ok (.if_icmp .ge 24, 3) := by decide +kernel
theorem dX4_digest_53 : decode cX4_digest 53 = .ok (.lload_n 1, 1) := by decide +kernel
theorem dX4_digest_54 : decode cX4_digest 54 = .ok (.ldc2_w 146, 3) := by decide +kernel
theorem dX4_digest_57 : decode cX4_digest 57 = .ok (.lmul, 1) := by decide +kernel
theorem dX4_digest_58 : decode cX4_digest 58 = .ok (.aload_n 0, 1) := by decide +kernel
theorem dX4_digest_59 : decode cX4_digest 59 = .ok (.iload_n 3, 1) := by decide +kernel
theorem dX4_digest_60 : decode cX4_digest 60 = .ok (.iload 4, 2) := by decide +kernel
theorem dX4_digest_62 : decode cX4_digest 62 = .ok (.invokevirtual 95, 3) := by decide +kernel
theorem dX4_digest_65 : decode cX4_digest 65 = .ok (.i2l, 1) := by decide +kernel
theorem dX4_digest_66 : decode cX4_digest 66 = .ok (.ladd, 1) := by decide +kernel
theorem dX4_digest_67 : decode cX4_digest 67 = .ok (.lstore_n 1, 1) := by decide +kernel
theorem dX4_digest_68 : decode cX4_digest 68 = .ok (.iinc 4 1, 3) := by decide +kernel
theorem dX4_digest_71 : decode cX4_digest 71 = .ok (.goto (-25), 3) := by decide +kernel
theorem dX4_digest_74 : decode cX4_digest 74 = .ok (.iinc 3 1, 3) := by decide +kernel
theorem dX4_digest_77 : decode cX4_digest 77 = .ok (.goto (-39), 3) := by decide +kernel
theorem dX4_digest_80 : decode cX4_digest 80 = .ok (.iconst 0, 1) := by decide +kernel
theorem dX4_digest_81 : decode cX4_digest 81 = .ok (.istore_n 3, 1) := by decide +kernel
theorem dX4_digest_82 : decode cX4_digest 82 = .ok (.iload_n 3, 1) := by decide +kernel
theorem dX4_digest_83 : decode cX4_digest 83 = .ok (.aload_n 0, 1) := by decide +kernel
theorem dX4_digest_84 : decode cX4_digest 84 = .ok (.getfield 23, 3) := by decide +kernel
theorem dX4_digest_87 : decode cX4_digest 87 = .ok (.if_icmp .ge 76, 3) := by decide +kernel
theorem dX4_digest_90 : decode cX4_digest 90 = .ok (.iconst 0, 1) := by decide +kernel
theorem dX4_digest_91 : decode cX4_digest 91 = .ok (.istore 4, 2) := by decide +kernel
theorem dX4_digest_93 : decode cX4_digest 93 = .ok (.iload 4, 2) := by decide +kernel
theorem dX4_digest_95 : decode cX4_digest 95 = .ok (.bipush 6, 2) := by decide +kernel
theorem dX4_digest_97 : decode cX4_digest 97 = .ok (.if_icmp .ge 24, 3) := by decide +kernel
theorem dX4_digest_100 : decode cX4_digest 100 = .ok (.lload_n 1, 1) := by decide +kernel
theorem dX4_digest_101 : decode cX4_digest 101 = .ok (.ldc2_w 146, 3) := by decide +kernel
theorem dX4_digest_104 : decode cX4_digest 104 = .ok (.lmul, 1) := by decide +kernel
theorem dX4_digest_105 : decode cX4_digest 105 = .ok (.aload_n 0, 1) := by decide +kernel
theorem dX4_digest_106 : decode cX4_digest 106 = .ok (.iload_n 3, 1) := by decide +kernel
theorem dX4_digest_107 : decode cX4_digest 107 = .ok (.iload 4, 2) := by decide +kernel
theorem dX4_digest_109 : decode cX4_digest 109 = .ok (.invokevirtual 92, 3) := by decide +kernel
theorem dX4_digest_112 : decode cX4_digest 112 = .ok (.i2l, 1) := by decide +kernel
theorem dX4_digest_113 : decode cX4_digest 113 = .ok (.ladd, 1) := by decide +kernel
theorem dX4_digest_114 : decode cX4_digest 114 = .ok (.lstore_n 1, 1) := by decide +kernel
theorem dX4_digest_115 : decode cX4_digest 115 = .ok (.iinc 4 1, 3) := by decide +kernel
theorem dX4_digest_118 : decode cX4_digest 118 = .ok (.goto (-25), 3) := by decide +kernel
theorem dX4_digest_121 : decode cX4_digest 121 = .ok (.iconst 0, 1) := by decide +kernel
theorem dX4_digest_122 : decode cX4_digest 122 = .ok (.istore 4, 2) := by decide +kernel
theorem dX4_digest_124 : decode cX4_digest 124 = .ok (.iload 4, 2) := by decide +kernel
theorem dX4_digest_126 : decode cX4_digest 126 = .ok (.bipush 24, 2) := by decide +kernel
theorem dX4_digest_128 : decode cX4_digest 128 = .ok (.if_icmp .ge 29, 3) := by decide +kernel
theorem dX4_digest_131 : decode cX4_digest 131 = .ok (.lload_n 1, 1) := by decide +kernel
theorem dX4_digest_132 : decode cX4_digest 132 = .ok (.ldc2_w 146, 3) := by decide +kernel
theorem dX4_digest_135 : decode cX4_digest 135 = .ok (.lmul, 1) := by decide +kernel
theorem dX4_digest_136 : decode cX4_digest 136 = .ok (.aload_n 0, 1) := by decide +kernel
theorem dX4_digest_137 : decode cX4_digest 137 = .ok (.getfield 13, 3) := by decide +kernel
theorem dX4_digest_140 : decode cX4_digest 140 = .ok (.bipush 24, 2) := by decide +kernel
theorem dX4_digest_142 : decode cX4_digest 142 = .ok (.iload_n 3, 1) := by decide +kernel
theorem dX4_digest_143 : decode cX4_digest 143 = .ok (.imul, 1) := by decide +kernel
theorem dX4_digest_144 : decode cX4_digest 144 = .ok (.iload 4, 2) := by decide +kernel
theorem dX4_digest_146 : decode cX4_digest 146 = .ok (.iadd, 1) := by decide +kernel
theorem dX4_digest_147 : decode cX4_digest 147 = .ok (.iaload, 1) := by decide +kernel
theorem dX4_digest_148 : decode cX4_digest 148 = .ok (.i2l, 1) := by decide +kernel
theorem dX4_digest_149 : decode cX4_digest 149 = .ok (.ladd, 1) := by decide +kernel
theorem dX4_digest_150 : decode cX4_digest 150 = .ok (.lstore_n 1, 1) := by decide +kernel
theorem dX4_digest_151 : decode cX4_digest 151 = .ok (.iinc 4 1, 3) := by decide +kernel
theorem dX4_digest_154 : decode cX4_digest 154 = .ok (.goto (-30), 3) := by decide +kernel
theorem dX4_digest_157 : decode cX4_digest 157 = .ok (.iinc 3 1, 3) := by decide +kernel
theorem dX4_digest_160 : decode cX4_digest 160 = .ok (.goto (-78), 3) := by decide +kernel
theorem dX4_digest_163 : decode cX4_digest 163 = .ok (.lload_n 1, 1) := by decide +kernel
theorem dX4_digest_164 : decode cX4_digest 164 = .ok (.lreturn, 1) := by decide +kernel
theorem dJ9_abs_0f7a4_0 : decode cJ9_abs_0f7a4 0 = .ok (.iload_n 0, 1) := by decide +kernel
theorem dJ9_abs_0f7a4_1 : decode cJ9_abs_0f7a4 1 = .ok (.ifCond .ge 8, 3) := by decide +kernel
theorem dJ9_abs_0f7a4_4 : decode cJ9_abs_0f7a4 4 = .ok (.iload_n 0, 1) := by decide +kernel
theorem dJ9_abs_0f7a4_5 : decode cJ9_abs_0f7a4 5 = .ok (.ineg, 1) := by decide +kernel
theorem dJ9_abs_0f7a4_6 : decode cJ9_abs_0f7a4 6 = .ok (.goto 4, 3) := by decide +kernel
theorem dJ9_abs_0f7a4_9 : decode cJ9_abs_0f7a4 9 = .ok (.iload_n 0, 1) := by decide +kernel
theorem dJ9_abs_0f7a4_10 : decode cJ9_abs_0f7a4 10 = .ok (.ireturn, 1) := by decide +kernel
theorem dJ9_max_7cf53_0 : decode cJ9_max_7cf53 0 = .ok (.iload_n 0, 1) := by decide +kernel
theorem dJ9_max_7cf53_1 : decode cJ9_max_7cf53 1 = .ok (.iload_n 1, 1) := by decide +kernel
theorem dJ9_max_7cf53_2 : decode cJ9_max_7cf53 2 = .ok (.if_icmp .lt 7, 3) := by decide +kernel
theorem dJ9_max_7cf53_5 : decode cJ9_max_7cf53 5 = .ok (.iload_n 0, 1) := by decide +kernel
theorem dJ9_max_7cf53_6 : decode cJ9_max_7cf53 6 = .ok (.goto 4, 3) := by decide +kernel
theorem dJ9_max_7cf53_9 : decode cJ9_max_7cf53 9 = .ok (.iload_n 1, 1) := by decide +kernel
theorem dJ9_max_7cf53_10 : decode cJ9_max_7cf53 10 = .ok (.ireturn, 1) := by decide +kernel
theorem dJ9_min_7cf53_0 : decode cJ9_min_7cf53 0 = .ok (.iload_n 0, 1) := by decide +kernel
theorem dJ9_min_7cf53_1 : decode cJ9_min_7cf53 1 = .ok (.iload_n 1, 1) := by decide +kernel
theorem dJ9_min_7cf53_2 : decode cJ9_min_7cf53 2 = .ok (.if_icmp .gt 7, 3) := by decide +kernel
theorem dJ9_min_7cf53_5 : decode cJ9_min_7cf53 5 = .ok (.iload_n 0, 1) := by decide +kernel
theorem dJ9_min_7cf53_6 : decode cJ9_min_7cf53 6 = .ok (.goto 4, 3) := by decide +kernel
theorem dJ9_min_7cf53_9 : decode cJ9_min_7cf53 9 = .ok (.iload_n 1, 1) := by decide +kernel
theorem dJ9_min_7cf53_10 : decode cJ9_min_7cf53 10 = .ok (.ireturn, 1) := by decide +kernel
theorem dJxa1e45_init_da8c8_0 : decode cJxa1e45_init_da8c8 0 = .ok (.aload_n 0, 1) := by decide +kernel
theorem dJxa1e45_init_da8c8_1 : decode cJxa1e45_init_da8c8 1 = .ok (.invokespecial 1, 3) := by decide +kernel
theorem dJxa1e45_init_da8c8_4 : decode cJxa1e45_init_da8c8 4 = .ok (.return_, 1) := by decide +kernel
theorem dJxc12de_init_da8c8_0 : decode cJxc12de_init_da8c8 0 = .ok (.aload_n 0, 1) := by decide +kernel
theorem dJxc12de_init_da8c8_1 : decode cJxc12de_init_da8c8 1 = .ok (.invokespecial 1, 3) := by decide +kernel
theorem dJxc12de_init_da8c8_4 : decode cJxc12de_init_da8c8 4 = .ok (.aload_n 0, 1) := by decide +kernel
theorem dJxc12de_init_da8c8_5 : decode cJxc12de_init_da8c8 5 = .ok (.iconst 0, 1) := by decide +kernel
theorem dJxc12de_init_da8c8_6 : decode cJxc12de_init_da8c8 6 = .ok (.putfield 7, 3) := by decide +kernel
theorem dJxc12de_init_da8c8_9 : decode cJxc12de_init_da8c8 9 = .ok (.return_, 1) := by decide +kernel
theorem dJx4a65c_init_da8c8_0 : decode cJx4a65c_init_da8c8 0 = .ok (.aload_n 0, 1) := by decide +kernel
theorem dJx4a65c_init_da8c8_1 : decode cJx4a65c_init_da8c8 1 = .ok (.invokespecial 1, 3) := by decide +kernel
theorem dJx4a65c_init_da8c8_4 : decode cJx4a65c_init_da8c8 4 = .ok (.aload_n 0, 1) := by decide +kernel
theorem dJx4a65c_init_da8c8_5 : decode cJx4a65c_init_da8c8 5 = .ok (.getstatic 39, 3) := by decide +kernel
theorem dJx4a65c_init_da8c8_8 : decode cJx4a65c_init_da8c8 8 = .ok (.putfield 9, 3) := by decide +kernel
theorem dJx4a65c_init_da8c8_11 : decode cJx4a65c_init_da8c8 11 = .ok (.return_, 1) := by decide +kernel
theorem dJx4a65c_grow_92f84_0 : decode cJx4a65c_grow_92f84 0 = .ok (.aload_n 0, 1) := by decide +kernel
theorem dJx4a65c_grow_92f84_1 : decode cJx4a65c_grow_92f84 1 = .ok (.getfield 9, 3) := by decide +kernel
theorem dJx4a65c_grow_92f84_4 : decode cJx4a65c_grow_92f84 4 = .ok (.arraylength, 1) := by decide +kernel
theorem dJx4a65c_grow_92f84_5 : decode cJx4a65c_grow_92f84 5 = .ok (.istore_n 2, 1) := by decide +kernel
theorem dJx4a65c_grow_92f84_6 : decode cJx4a65c_grow_92f84 6 = .ok (.iload_n 2, 1) := by decide +kernel
theorem dJx4a65c_grow_92f84_7 : decode cJx4a65c_grow_92f84 7 = .ok (.ifCond .gt 13, 3) := by decide +kernel
theorem dJx4a65c_grow_92f84_10 : decode cJx4a65c_grow_92f84 10 = .ok (.aload_n 0, 1) := by decide +kernel
theorem dJx4a65c_grow_92f84_11 : decode cJx4a65c_grow_92f84 11 = .ok (.getfield 9, 3) := by decide +kernel
theorem dJx4a65c_grow_92f84_14 : decode cJx4a65c_grow_92f84 14 = .ok (.getstatic 39, 3) := by decide +kernel
theorem dJx4a65c_grow_92f84_17 : decode cJx4a65c_grow_92f84 17 = .ok (.if_acmp .eq 28, 3) := by decide +kernel
theorem dJx4a65c_grow_92f84_20 : decode cJx4a65c_grow_92f84 20 = .ok (.iload_n 2, 1) := by decide +kernel
theorem dJx4a65c_grow_92f84_21 : decode cJx4a65c_grow_92f84 21 = .ok (.iload_n 1, 1) := by decide +kernel
theorem dJx4a65c_grow_92f84_22 : decode cJx4a65c_grow_92f84 22 = .ok (.iload_n 2, 1) := by decide +kernel
theorem dJx4a65c_grow_92f84_23 : decode cJx4a65c_grow_92f84 23 = .ok (.isub, 1) := by decide +kernel
theorem dJx4a65c_grow_92f84_24 : decode cJx4a65c_grow_92f84 24 = .ok (.iload_n 2, 1) := by decide +kernel
theorem dJx4a65c_grow_92f84_25 : decode cJx4a65c_grow_92f84 25 = .ok (.iconst 1, 1) := by decide +kernel
theorem dJx4a65c_grow_92f84_26 : decode cJx4a65c_grow_92f84 26 = .ok (.ishr, 1) := by decide +kernel
theorem dJx4a65c_grow_92f84_27 : decode cJx4a65c_grow_92f84 27 = .ok (.invokestatic 73, 3) := by decide +kernel
theorem dJx4a65c_grow_92f84_30 : decode cJx4a65c_grow_92f84 30 = .ok (.istore_n 3, 1) := by decide +kernel
theorem dJx4a65c_grow_92f84_31 : decode cJx4a65c_grow_92f84 31 = .ok (.aload_n 0, 1) := by decide +kernel
theorem dJx4a65c_grow_92f84_32 : decode cJx4a65c_grow_92f84 32 = .ok (.aload_n 0, 1) := by decide +kernel
theorem dJx4a65c_grow_92f84_33 : decode cJx4a65c_grow_92f84 33 = .ok (.getfield 9, 3) := by decide +kernel
theorem dJx4a65c_grow_92f84_36 : decode cJx4a65c_grow_92f84 36 = .ok (.iload_n 3, 1) := by decide +kernel
theorem dJx4a65c_grow_92f84_37 : decode cJx4a65c_grow_92f84 37 = .ok (.invokestatic 66, 3) := by decide +kernel
theorem dJx4a65c_grow_92f84_40 : decode cJx4a65c_grow_92f84 40 = .ok (.dup_x1, 1) := by decide +kernel
theorem dJx4a65c_grow_92f84_41 : decode cJx4a65c_grow_92f84 41 = .ok (.putfield 9, 3) := by decide +kernel
theorem dJx4a65c_grow_92f84_44 : decode cJx4a65c_grow_92f84 44 = .ok (.areturn, 1) := by decide +kernel
theorem dJx4a65c_grow_92f84_45 : decode cJx4a65c_grow_92f84 45 = .ok (.aload_n 0, 1) := by decide +kernel
theorem dJx4a65c_grow_92f84_46 : decode cJx4a65c_grow_92f84 46 = .ok (.bipush 10, 2) := by decide +kernel
theorem dJx4a65c_grow_92f84_48 : decode cJx4a65c_grow_92f84 48 = .ok (.iload_n 1, 1) := by decide +kernel
theorem dJx4a65c_grow_92f84_49 : decode cJx4a65c_grow_92f84 49 = .ok (.invokestatic 79, 3) := by decide +kernel
theorem dJx4a65c_grow_92f84_52 : decode cJx4a65c_grow_92f84 52 = .ok (.anewarray 7, 3) := by decide +kernel
theorem dJx4a65c_grow_92f84_55 : decode cJx4a65c_grow_92f84 55 = .ok (.dup_x1, 1) := by decide +kernel
theorem dJx4a65c_grow_92f84_56 : decode cJx4a65c_grow_92f84 56 = .ok (.putfield 9, 3) := by decide +kernel
theorem dJx4a65c_grow_92f84_59 : decode cJx4a65c_grow_92f84 59 = .ok (.areturn, 1) := by decide +kernel
theorem dJx4a65c_grow_d5877_0 : decode cJx4a65c_grow_d5877 0 = .ok (.aload_n 0, 1) := by decide +kernel
theorem dJx4a65c_grow_d5877_1 : decode cJx4a65c_grow_d5877 1 = .ok (.aload_n 0, 1) := by decide +kernel
theorem dJx4a65c_grow_d5877_2 : decode cJx4a65c_grow_d5877 2 = .ok (.getfield 48, 3) := by decide +kernel
theorem dJx4a65c_grow_d5877_5 : decode cJx4a65c_grow_d5877 5 = .ok (.iconst 1, 1) := by decide +kernel
theorem dJx4a65c_grow_d5877_6 : decode cJx4a65c_grow_d5877 6 = .ok (.iadd, 1) := by decide +kernel
theorem dJx4a65c_grow_d5877_7 : decode cJx4a65c_grow_d5877 7 = .ok (.invokevirtual 69, 3) := by decide +kernel
theorem dJx4a65c_grow_d5877_10 : decode cJx4a65c_grow_d5877 10 = .ok (.areturn, 1) := by decide +kernel
theorem dJx4a65c_size_8abf5_0 : decode cJx4a65c_size_8abf5 0 = .ok (.aload_n 0, 1) := by decide +kernel
theorem dJx4a65c_size_8abf5_1 : decode cJx4a65c_size_8abf5 1 = .ok (.getfield 48, 3) := by decide +kernel
theorem dJx4a65c_size_8abf5_4 : decode cJx4a65c_size_8abf5 4 = .ok (.ireturn, 1) := by decide +kernel
theorem dJx4a65c_elementData_915e3_0 : decode cJx4a65c_elementData_915e3 0 = .ok (.aload_n 0, 1) := by decide +kernel
theorem dJx4a65c_elementData_915e3_1 : decode cJx4a65c_elementData_915e3 1 = .ok (.getfield 9, 3) := by decide +kernel
theorem dJx4a65c_elementData_915e3_4 : decode cJx4a65c_elementData_915e3 4 = .ok (.iload_n 1, 1) := by decide +kernel
theorem dJx4a65c_elementData_915e3_5 : decode cJx4a65c_elementData_915e3 5 = .ok (.aaload, 1) := by decide +kernel
theorem dJx4a65c_elementData_915e3_6 : decode cJx4a65c_elementData_915e3 6 = .ok (.areturn, 1) := by decide +kernel
theorem dJx4a65c_get_915e3_0 : decode cJx4a65c_get_915e3 0 = .ok (.iload_n 1, 1) := by decide +kernel
theorem dJx4a65c_get_915e3_1 : decode cJx4a65c_get_915e3 1 = .ok (.aload_n 0, 1) := by decide +kernel
theorem dJx4a65c_get_915e3_2 : decode cJx4a65c_get_915e3 2 = .ok (.getfield 48, 3) := by decide +kernel
theorem dJx4a65c_get_915e3_5 : decode cJx4a65c_get_915e3 5 = .ok (.invokestatic 118, 3) := by decide +kernel
theorem dJx4a65c_get_915e3_8 : decode cJx4a65c_get_915e3 8 = .ok (.pop, 1) := by decide +kernel
theorem dJx4a65c_get_915e3_9 : decode cJx4a65c_get_915e3 9 = .ok (.aload_n 0, 1) := by decide +kernel
theorem dJx4a65c_get_915e3_10 : decode cJx4a65c_get_915e3 10 = .ok (.iload_n 1, 1) := by decide +kernel
theorem dJx4a65c_get_915e3_11 : decode cJx4a65c_get_915e3 11 = .ok (.invokevirtual 123, 3) := by decide +kernel
theorem dJx4a65c_get_915e3_14 : decode cJx4a65c_get_915e3 14 = .ok (.areturn, 1) := by decide +kernel
theorem dJx4a65c_add_72be8_0 : decode cJx4a65c_add_72be8 0 = .ok (.iload_n 3, 1) := by decide +kernel
theorem dJx4a65c_add_72be8_1 : decode cJx4a65c_add_72be8 1 = .ok (.aload_n 2, 1) := by decide +kernel
theorem dJx4a65c_add_72be8_2 : decode cJx4a65c_add_72be8 2 = .ok (.arraylength, 1) := by decide +kernel
theorem dJx4a65c_add_72be8_3 : decode cJx4a65c_add_72be8 3 = .ok (.if_icmp .ne 8, 3) := by decide +kernel
theorem dJx4a65c_add_72be8_6 : decode cJx4a65c_add_72be8 6 = .ok (.aload_n 0, 1) := by decide +kernel
theorem dJx4a65c_add_72be8_7 : decode cJx4a65c_add_72be8 7 = .ok (.invokevirtual 129, 3) := by decide +kernel
theorem dJx4a65c_add_72be8_10 : decode cJx4a65c_add_72be8 10 = .ok (.astore_n 2, 1) := by decide +kernel
theorem dJx4a65c_add_72be8_11 : decode cJx4a65c_add_72be8 11 = .ok (.aload_n 2, 1) := by decide +kernel
theorem dJx4a65c_add_72be8_12 : decode cJx4a65c_add_72be8 12 = .ok (.iload_n 3, 1) := by decide +kernel
theorem dJx4a65c_add_72be8_13 : decode cJx4a65c_add_72be8 13 = .ok (.aload_n 1, 1) := by decide +kernel
theorem dJx4a65c_add_72be8_14 : decode cJx4a65c_add_72be8 14 = .ok (.aastore, 1) := by decide +kernel
theorem dJx4a65c_add_72be8_15 : decode cJx4a65c_add_72be8 15 = .ok (.aload_n 0, 1) := by decide +kernel
theorem dJx4a65c_add_72be8_16 : decode cJx4a65c_add_72be8 16 = .ok (.iload_n 3, 1) := by decide +kernel
theorem dJx4a65c_add_72be8_17 : decode cJx4a65c_add_72be8 17 = .ok (.iconst 1, 1) := by decide +kernel
theorem dJx4a65c_add_72be8_18 : decode cJx4a65c_add_72be8 18 = .ok (.iadd, 1) := by decide +kernel
theorem dJx4a65c_add_72be8_19 : decode cJx4a65c_add_72be8 19 = .ok (.putfield 48, 3) := by decide +kernel
theorem dJx4a65c_add_72be8_22 : decode cJx4a65c_add_72be8 22 = .ok (.return_, 1) := by decide +kernel
theorem dJx4a65c_add_9ea2d_0 : decode cJx4a65c_add_9ea2d 0 = .ok (.aload_n 0, 1) := by decide +kernel
theorem dJx4a65c_add_9ea2d_1 : decode cJx4a65c_add_9ea2d 1 = .ok (.dup, 1) := by decide +kernel
theorem dJx4a65c_add_9ea2d_2 : decode cJx4a65c_add_9ea2d 2 = .ok (.getfield 63, 3) := by decide +kernel
theorem dJx4a65c_add_9ea2d_5 : decode cJx4a65c_add_9ea2d 5 = .ok (.iconst 1, 1) := by decide +kernel
theorem dJx4a65c_add_9ea2d_6 : decode cJx4a65c_add_9ea2d 6 = .ok (.iadd, 1) := by decide +kernel
theorem dJx4a65c_add_9ea2d_7 : decode cJx4a65c_add_9ea2d 7 = .ok (.putfield 63, 3) := by decide +kernel
theorem dJx4a65c_add_9ea2d_10 : decode cJx4a65c_add_9ea2d 10 = .ok (.aload_n 0, 1) := by decide +kernel
theorem dJx4a65c_add_9ea2d_11 : decode cJx4a65c_add_9ea2d 11 = .ok (.aload_n 1, 1) := by decide +kernel
theorem dJx4a65c_add_9ea2d_12 : decode cJx4a65c_add_9ea2d 12 = .ok (.aload_n 0, 1) := by decide +kernel
theorem dJx4a65c_add_9ea2d_13 : decode cJx4a65c_add_9ea2d 13 = .ok (.getfield 9, 3) := by decide +kernel
theorem dJx4a65c_add_9ea2d_16 : decode cJx4a65c_add_9ea2d 16 = .ok (.aload_n 0, 1) := by decide +kernel
theorem dJx4a65c_add_9ea2d_17 : decode cJx4a65c_add_9ea2d 17 = .ok (.getfield 48, 3) := by decide +kernel
theorem dJx4a65c_add_9ea2d_20 : decode cJx4a65c_add_9ea2d 20 = .ok (.invokevirtual 131, 3) := by decide +kernel
theorem dJx4a65c_add_9ea2d_23 : decode cJx4a65c_add_9ea2d 23 = .ok (.iconst 1, 1) := by decide +kernel
theorem dJx4a65c_add_9ea2d_24 : decode cJx4a65c_add_9ea2d 24 = .ok (.ireturn, 1) := by decide +kernel
theorem dJ7_copyOf_1904c_0 : decode cJ7_copyOf_1904c 0 = .ok (.aload_n 0, 1) := by decide +kernel
theorem dJ7_copyOf_1904c_1 : decode cJ7_copyOf_1904c 1 = .ok (.iload_n 1, 1) := by decide +kernel
theorem dJ7_copyOf_1904c_2 : decode cJ7_copyOf_1904c 2 = .ok (.aload_n 0, 1) := by decide +kernel
theorem dJ7_copyOf_1904c_3 : decode cJ7_copyOf_1904c 3 = .ok (.invokevirtual 86, 3) := by decide +kernel
theorem dJ7_copyOf_1904c_6 : decode cJ7_copyOf_1904c 6 = .ok (.invokestatic 300, 3) := by decide +kernel
theorem dJ7_copyOf_1904c_9 : decode cJ7_copyOf_1904c 9 = .ok (.areturn, 1) := by decide +kernel
theorem dJ7_copyOf_6403c_0 : decode cJ7_copyOf_6403c 0 = .ok (.aload_n 2, 1) := by decide +kernel
theorem dJ7_copyOf_6403c_1 : decode cJ7_copyOf_6403c 1 = .ok (.ldc 110, 2) := by decide +kernel
theorem dJ7_copyOf_6403c_3 : decode cJ7_copyOf_6403c 3 = .ok (.if_acmp .ne 10, 3) := by decide +kernel
theorem dJ7_copyOf_6403c_6 : decode cJ7_copyOf_6403c 6 = .ok (.iload_n 1, 1) := by decide +kernel
theorem dJ7_copyOf_6403c_7 : decode cJ7_copyOf_6403c 7 = .ok (.anewarray 2, 3) := by decide +kernel
theorem dJ7_copyOf_6403c_10 : decode cJ7_copyOf_6403c 10 = .ok (.goto 14, 3) := by decide +kernel
theorem dJ7_copyOf_6403c_13 : decode cJ7_copyOf_6403c 13 = .ok (.aload_n 2, 1) := by decide +kernel
theorem dJ7_copyOf_6403c_14 : decode cJ7_copyOf_6403c 14 = .ok (.invokevirtual 90, 3) := by decide +kernel
theorem dJ7_copyOf_6403c_17 : decode cJ7_copyOf_6403c 17 = .ok (.iload_n 1, 1) := by decide +kernel
theorem dJ7_copyOf_6403c_18 : decode cJ7_copyOf_6403c 18 = .ok (.invokestatic 95, 3) := by decide +kernel
theorem dJ7_copyOf_6403c_21 : decode cJ7_copyOf_6403c 21 = .ok (.checkcast 110, 3) := by decide +kernel
theorem dJ7_copyOf_6403c_24 : decode cJ7_copyOf_6403c 24 = .ok (.astore_n 3, 1) := by decide +kernel
theorem dJ7_copyOf_6403c_25 : decode cJ7_copyOf_6403c 25 = .ok (.aload_n 0, 1) := by decide +kernel
theorem dJ7_copyOf_6403c_26 : decode cJ7_copyOf_6403c 26 = .ok (.iconst 0, 1) := by decide +kernel
theorem dJ7_copyOf_6403c_27 : decode cJ7_copyOf_6403c 27 = .ok (.aload_n 3, 1) := by decide +kernel
theorem dJ7_copyOf_6403c_28 : decode cJ7_copyOf_6403c 28 = .ok (.iconst 0, 1) := by decide +kernel
theorem dJ7_copyOf_6403c_29 : decode cJ7_copyOf_6403c 29 = .ok (.aload_n 0, 1) := by decide +kernel
theorem dJ7_copyOf_6403c_30 : decode cJ7_copyOf_6403c 30 = .ok (.arraylength, 1) := by decide +kernel
theorem dJ7_copyOf_6403c_31 : decode cJ7_copyOf_6403c 31 = .ok (.iload_n 1, 1) := by decide +kernel
theorem dJ7_copyOf_6403c_32 : decode cJ7_copyOf_6403c 32 = .ok (.invokestatic 304, 3) := by decide +kernel
theorem dJ7_copyOf_6403c_35 : decode cJ7_copyOf_6403c 35 = .ok (.invokestatic 150, 3) := by decide +kernel
theorem dJ7_copyOf_6403c_38 : decode cJ7_copyOf_6403c 38 = .ok (.aload_n 3, 1) := by decide +kernel
theorem dJ7_copyOf_6403c_39 : decode cJ7_copyOf_6403c 39 = .ok (.areturn, 1) := by decide +kernel
theorem dJ15_checkIndex_7cf53_0 : decode cJ15_checkIndex_7cf53 0 = .ok (.iload_n 0, 1) := by decide +kernel
theorem dJ15_checkIndex_7cf53_1 : decode cJ15_checkIndex_7cf53 1 = .ok (.iload_n 1, 1) := by decide +kernel
theorem dJ15_checkIndex_7cf53_2 : decode cJ15_checkIndex_7cf53 2 = .ok (.aconst_null, 1) := by decide +kernel
theorem dJ15_checkIndex_7cf53_3 : decode cJ15_checkIndex_7cf53 3 = .ok (.invokestatic 105, 3) := by decide +kernel
theorem dJ15_checkIndex_7cf53_6 : decode cJ15_checkIndex_7cf53 6 = .ok (.ireturn, 1) := by decide +kernel
theorem dJ8_newLength_cabcc_0 : decode cJ8_newLength_cabcc 0 = .ok (.iload_n 0, 1) := by decide +kernel
theorem dJ8_newLength_cabcc_1 : decode cJ8_newLength_cabcc 1 = .ok (.iload_n 1, 1) := by decide +kernel
theorem dJ8_newLength_cabcc_2 : decode cJ8_newLength_cabcc 2 = .ok (.iload_n 2, 1) := by decide +kernel
theorem dJ8_newLength_cabcc_3 : decode cJ8_newLength_cabcc 3 = .ok (.invokestatic 194, 3) := by decide +kernel
theorem dJ8_newLength_cabcc_6 : decode cJ8_newLength_cabcc 6 = .ok (.iadd, 1) := by decide +kernel
theorem dJ8_newLength_cabcc_7 : decode cJ8_newLength_cabcc 7 = .ok (.istore_n 3, 1) := by decide +kernel
theorem dJ8_newLength_cabcc_8 : decode cJ8_newLength_cabcc 8 = .ok (.iconst 0, 1) := by decide +kernel
theorem dJ8_newLength_cabcc_9 : decode cJ8_newLength_cabcc 9 = .ok (.iload_n 3, 1) := by decide +kernel
theorem dJ8_newLength_cabcc_10 : decode cJ8_newLength_cabcc 10 = .ok (.if_icmp .ge 11, 3) := by decide +kernel
theorem dJ8_newLength_cabcc_13 : decode cJ8_newLength_cabcc 13 = .ok (.iload_n 3, 1) := by decide +kernel
theorem dJ8_newLength_cabcc_14 : decode cJ8_newLength_cabcc 14 = .ok (.ldc 200, 2) := by decide +kernel
theorem dJ8_newLength_cabcc_16 : decode cJ8_newLength_cabcc 16 = .ok (.if_icmp .gt 5, 3) := by decide +kernel
theorem dJ8_newLength_cabcc_19 : decode cJ8_newLength_cabcc 19 = .ok (.iload_n 3, 1) := by decide +kernel
theorem dJ8_newLength_cabcc_20 : decode cJ8_newLength_cabcc 20 = .ok (.ireturn, 1) := by decide +kernel
theorem dJ8_newLength_cabcc_21 : decode cJ8_newLength_cabcc 21 = .ok (.iload_n 0, 1) := by decide +kernel
theorem dJ8_newLength_cabcc_22 : decode cJ8_newLength_cabcc 22 = .ok (.iload_n 1, 1) := by decide +kernel
theorem dJ8_newLength_cabcc_23 : decode cJ8_newLength_cabcc 23 = .ok (.invokestatic 201, 3) := by decide +kernel
theorem dJ8_newLength_cabcc_26 : decode cJ8_newLength_cabcc 26 = .ok (.ireturn, 1) := by decide +kernel
theorem dJ8_hugeLength_7cf53_0 : decode cJ8_hugeLength_7cf53 0 = .ok (.iload_n 0, 1) := by decide +kernel
theorem dJ8_hugeLength_7cf53_1 : decode cJ8_hugeLength_7cf53 1 = .ok (.iload_n 1, 1) := by decide +kernel
theorem dJ8_hugeLength_7cf53_2 : decode cJ8_hugeLength_7cf53 2 = .ok (.iadd, 1) := by decide +kernel
theorem dJ8_hugeLength_7cf53_3 : decode cJ8_hugeLength_7cf53 3 = .ok (.istore_n 2, 1) := by decide +kernel
theorem dJ8_hugeLength_7cf53_4 : decode cJ8_hugeLength_7cf53 4 = .ok (.iload_n 2, 1) := by decide +kernel
theorem dJ8_hugeLength_7cf53_5 : decode cJ8_hugeLength_7cf53 5 = .ok (.ifCond .ge 44, 3) := by decide +kernel
theorem dJ8_hugeLength_7cf53_8 : decode cJ8_hugeLength_7cf53 8 = .ok (.new 204, 3) := by decide +kernel
theorem dJ8_hugeLength_7cf53_11 : decode cJ8_hugeLength_7cf53 11 = .ok (.dup, 1) := by decide +kernel
theorem dJ8_hugeLength_7cf53_12 : decode cJ8_hugeLength_7cf53 12 = .ok (.new 89, 3) := by decide +kernel
theorem dJ8_hugeLength_7cf53_15 : decode cJ8_hugeLength_7cf53 15 = .ok (.dup, 1) := by decide +kernel
theorem dJ8_hugeLength_7cf53_16 : decode cJ8_hugeLength_7cf53 16 = .ok (.invokespecial 91, 3) := by decide +kernel
theorem dJ8_hugeLength_7cf53_19 : decode cJ8_hugeLength_7cf53 19 = .ok (.ldc 206, 2) := by decide +kernel
theorem dJ8_hugeLength_7cf53_21 : decode cJ8_hugeLength_7cf53 21 = .ok (.invokevirtual 94, 3) := by decide +kernel
theorem dJ8_hugeLength_7cf53_24 : decode cJ8_hugeLength_7cf53 24 = .ok (.iload_n 0, 1) := by decide +kernel
theorem dJ8_hugeLength_7cf53_25 : decode cJ8_hugeLength_7cf53 25 = .ok (.invokevirtual 98, 3) := by decide +kernel
theorem dJ8_hugeLength_7cf53_28 : decode cJ8_hugeLength_7cf53 28 = .ok (.ldc 208, 2) := by decide +kernel
theorem dJ8_hugeLength_7cf53_30 : decode cJ8_hugeLength_7cf53 30 = .ok (.invokevirtual 94, 3) := by decide +kernel
theorem dJ8_hugeLength_7cf53_33 : decode cJ8_hugeLength_7cf53 33 = .ok (.iload_n 1, 1) := by decide +kernel
theorem dJ8_hugeLength_7cf53_34 : decode cJ8_hugeLength_7cf53 34 = .ok (.invokevirtual 98, 3) := by decide +kernel
theorem dJ8_hugeLength_7cf53_37 : decode cJ8_hugeLength_7cf53 37 = .ok (.ldc 210, 2) := by decide +kernel
theorem dJ8_hugeLength_7cf53_39 : decode cJ8_hugeLength_7cf53 39 = .ok (.invokevirtual 94, 3) := by decide +kernel
theorem dJ8_hugeLength_7cf53_42 : decode cJ8_hugeLength_7cf53 42 = .ok (.invokevirtual 101, 3) := by decide +kernel
theorem dJ8_hugeLength_7cf53_45 : decode cJ8_hugeLength_7cf53 45 = .ok (.invokespecial 212, 3) := by decide +kernel
theorem dJ8_hugeLength_7cf53_48 : decode cJ8_hugeLength_7cf53 48 = .ok (.athrow, 1) := by decide +kernel
theorem dJ8_hugeLength_7cf53_49 : decode cJ8_hugeLength_7cf53 49 = .ok (.iload_n 2, 1) := by decide +kernel
theorem dJ8_hugeLength_7cf53_50 : decode cJ8_hugeLength_7cf53 50 = .ok (.ldc 200, 2) := by decide +kernel
theorem dJ8_hugeLength_7cf53_52 : decode cJ8_hugeLength_7cf53 52 = .ok (.if_icmp .gt 6, 3) := by decide +kernel
theorem dJ8_hugeLength_7cf53_55 : decode cJ8_hugeLength_7cf53 55 = .ok (.ldc 200, 2) := by decide +kernel
theorem dJ8_hugeLength_7cf53_57 : decode cJ8_hugeLength_7cf53 57 = .ok (.ireturn, 1) := by decide +kernel
theorem dJ8_hugeLength_7cf53_58 : decode cJ8_hugeLength_7cf53 58 = .ok (.iload_n 2, 1) := by decide +kernel
theorem dJ8_hugeLength_7cf53_59 : decode cJ8_hugeLength_7cf53 59 = .ok (.ireturn, 1) := by decide +kernel
theorem dJ3_checkIndex_8e157_0 : decode cJ3_checkIndex_8e157 0 = .ok (.iload_n 0, 1) := by decide +kernel
theorem dJ3_checkIndex_8e157_1 : decode cJ3_checkIndex_8e157 1 = .ok (.ifCond .lt 8, 3) := by decide +kernel
theorem dJ3_checkIndex_8e157_4 : decode cJ3_checkIndex_8e157 4 = .ok (.iload_n 0, 1) := by decide +kernel
theorem dJ3_checkIndex_8e157_5 : decode cJ3_checkIndex_8e157 5 = .ok (.iload_n 1, 1) := by decide +kernel
theorem dJ3_checkIndex_8e157_6 : decode cJ3_checkIndex_8e157 6 = .ok (.if_icmp .lt 10, 3) := by decide +kernel
theorem dJ3_checkIndex_8e157_9 : decode cJ3_checkIndex_8e157 9 = .ok (.aload_n 2, 1) := by decide +kernel
theorem dJ3_checkIndex_8e157_10 : decode cJ3_checkIndex_8e157 10 = .ok (.iload_n 0, 1) := by decide +kernel
theorem dJ3_checkIndex_8e157_11 : decode cJ3_checkIndex_8e157 11 = .ok (.iload_n 1, 1) := by decide +kernel
theorem dJ3_checkIndex_8e157_12 : decode cJ3_checkIndex_8e157 12 = .ok (.invokestatic 95, 3) := by decide +kernel
theorem dJ3_checkIndex_8e157_15 : decode cJ3_checkIndex_8e157 15 = .ok (.athrow, 1) := by decide +kernel
theorem dJ3_checkIndex_8e157_16 : decode cJ3_checkIndex_8e157 16 = .ok (.iload_n 0, 1) := by decide +kernel
theorem dJ3_checkIndex_8e157_17 : decode cJ3_checkIndex_8e157 17 = .ok (.ireturn, 1) := by decide +kernel
theorem dL_lock_0 : decode cL_lock 0 = .ok (.aload_n 2, 1) := by decide +kernel
theorem dL_lock_1 : decode cL_lock 1 = .ok (.iconst 0, 1) := by decide +kernel
theorem dL_lock_2 : decode cL_lock 2 = .ok (.aload_n 0, 1) := by decide +kernel
theorem dL_lock_3 : decode cL_lock 3 = .ok (.iload_n 1, 1) := by decide +kernel
theorem dL_lock_4 : decode cL_lock 4 = .ok (.invokevirtual 7, 3) := by decide +kernel
theorem dL_lock_7 : decode cL_lock 7 = .ok (.i2l, 1) := by decide +kernel
theorem dL_lock_8 : decode cL_lock 8 = .ok (.lastore, 1) := by decide +kernel
theorem dL_lock_9 : decode cL_lock 9 = .ok (.goto 9, 3) := by decide +kernel
theorem dL_lock_12 : decode cL_lock 12 = .ok (.astore_n 3, 1) := by decide +kernel
theorem dL_lock_13 : decode cL_lock 13 = .ok (.iconst 1, 1) := by decide +kernel
theorem dL_lock_14 : decode cL_lock 14 = .ok (.ireturn, 1) := by decide +kernel
theorem dL_lock_15 : decode cL_lock 15 = .ok (.astore_n 3, 1) := by decide +kernel
theorem dL_lock_16 : decode cL_lock 16 = .ok (.iconst 2, 1) := by decide +kernel
theorem dL_lock_17 : decode cL_lock 17 = .ok (.ireturn, 1) := by decide +kernel
theorem dL_lock_18 : decode cL_lock 18 = .ok (.iconst 0, 1) := by decide +kernel
theorem dL_lock_19 : decode cL_lock 19 = .ok (.ireturn, 1) := by decide +kernel
theorem dL_turn_0 : decode cL_turn 0 = .ok (.aload 4, 2) := by decide +kernel
theorem dL_turn_2 : decode cL_turn 2 = .ok (.iconst 0, 1) := by decide +kernel
theorem dL_turn_3 : decode cL_turn 3 = .ok (.aload_n 0, 1) := by decide +kernel
theorem dL_turn_4 : decode cL_turn 4 = .ok (.iload_n 1, 1) := by decide +kernel
theorem dL_turn_5 : decode cL_turn 5 = .ok (.iload_n 2, 1) := by decide +kernel
theorem dL_turn_6 : decode cL_turn 6 = .ok (.iload_n 3, 1) := by decide +kernel
theorem dL_turn_7 : decode cL_turn 7 = .ok (.invokevirtual 17, 3) := by decide +kernel
theorem dL_turn_10 : decode cL_turn 10 = .ok (.i2l, 1) := by decide +kernel
theorem dL_turn_11 : decode cL_turn 11 = .ok (.lastore, 1) := by decide +kernel
theorem dL_turn_12 : decode cL_turn 12 = .ok (.goto 11, 3) := by decide +kernel
theorem dL_turn_15 : decode cL_turn 15 = .ok (.astore 5, 2) := by decide +kernel
theorem dL_turn_17 : decode cL_turn 17 = .ok (.iconst 1, 1) := by decide +kernel
theorem dL_turn_18 : decode cL_turn 18 = .ok (.ireturn, 1) := by decide +kernel
theorem dL_turn_19 : decode cL_turn 19 = .ok (.astore 5, 2) := by decide +kernel
theorem dL_turn_21 : decode cL_turn 21 = .ok (.iconst 2, 1) := by decide +kernel
theorem dL_turn_22 : decode cL_turn 22 = .ok (.ireturn, 1) := by decide +kernel
theorem dL_turn_23 : decode cL_turn 23 = .ok (.iconst 0, 1) := by decide +kernel
theorem dL_turn_24 : decode cL_turn 24 = .ok (.ireturn, 1) := by decide +kernel
theorem dL_open_0 : decode cL_open 0 = .ok (.aload_n 2, 1) := by decide +kernel
theorem dL_open_1 : decode cL_open 1 = .ok (.iconst 0, 1) := by decide +kernel
theorem dL_open_2 : decode cL_open 2 = .ok (.aload_n 0, 1) := by decide +kernel
theorem dL_open_3 : decode cL_open 3 = .ok (.iload_n 1, 1) := by decide +kernel
theorem dL_open_4 : decode cL_open 4 = .ok (.invokevirtual 23, 3) := by decide +kernel
theorem dL_open_7 : decode cL_open 7 = .ok (.ifCond .eq 7, 3) := by decide +kernel
theorem dL_open_10 : decode cL_open 10 = .ok (.lconst 1, 1) := by decide +kernel
theorem dL_open_11 : decode cL_open 11 = .ok (.goto 4, 3) := by decide +kernel
theorem dL_open_14 : decode cL_open 14 = .ok (.lconst 0, 1) := by decide +kernel
theorem dL_open_15 : decode cL_open 15 = .ok (.lastore, 1) := by decide +kernel
theorem dL_open_16 : decode cL_open 16 = .ok (.goto 6, 3) := by decide +kernel
theorem dL_open_19 : decode cL_open 19 = .ok (.astore_n 3, 1) := by decide +kernel
theorem dL_open_20 : decode cL_open 20 = .ok (.iconst 1, 1) := by decide +kernel
theorem dL_open_21 : decode cL_open 21 = .ok (.ireturn, 1) := by decide +kernel
theorem dL_open_22 : decode cL_open 22 = .ok (.iconst 0, 1) := by decide +kernel
theorem dL_open_23 : decode cL_open 23 = .ok (.ireturn, 1) := by decide +kernel
theorem dL_shut_0 : decode cL_shut 0 = .ok (.aload_n 2, 1) := by decide +kernel
theorem dL_shut_1 : decode cL_shut 1 = .ok (.iconst 0, 1) := by decide +kernel
theorem dL_shut_2 : decode cL_shut 2 = .ok (.aload_n 0, 1) := by decide +kernel
theorem dL_shut_3 : decode cL_shut 3 = .ok (.iload_n 1, 1) := by decide +kernel
theorem dL_shut_4 : decode cL_shut 4 = .ok (.invokevirtual 27, 3) := by decide +kernel
theorem dL_shut_7 : decode cL_shut 7 = .ok (.i2l, 1) := by decide +kernel
theorem dL_shut_8 : decode cL_shut 8 = .ok (.lastore, 1) := by decide +kernel
theorem dL_shut_9 : decode cL_shut 9 = .ok (.goto 9, 3) := by decide +kernel
theorem dL_shut_12 : decode cL_shut 12 = .ok (.astore_n 3, 1) := by decide +kernel
theorem dL_shut_13 : decode cL_shut 13 = .ok (.iconst 1, 1) := by decide +kernel
theorem dL_shut_14 : decode cL_shut 14 = .ok (.ireturn, 1) := by decide +kernel
theorem dL_shut_15 : decode cL_shut 15 = .ok (.astore_n 3, 1) := by decide +kernel
theorem dL_shut_16 : decode cL_shut 16 = .ok (.iconst 2, 1) := by decide +kernel
theorem dL_shut_17 : decode cL_shut 17 = .ok (.ireturn, 1) := by decide +kernel
theorem dL_shut_18 : decode cL_shut 18 = .ok (.iconst 0, 1) := by decide +kernel
theorem dL_shut_19 : decode cL_shut 19 = .ok (.ireturn, 1) := by decide +kernel
theorem dL_rename_0 : decode cL_rename 0 = .ok (.aload_n 3, 1) := by decide +kernel
theorem dL_rename_1 : decode cL_rename 1 = .ok (.iconst 0, 1) := by decide +kernel
theorem dL_rename_2 : decode cL_rename 2 = .ok (.aload_n 0, 1) := by decide +kernel
theorem dL_rename_3 : decode cL_rename 3 = .ok (.iload_n 1, 1) := by decide +kernel
theorem dL_rename_4 : decode cL_rename 4 = .ok (.iload_n 2, 1) := by decide +kernel
theorem dL_rename_5 : decode cL_rename 5 = .ok (.invokevirtual 30, 3) := by decide +kernel
theorem dL_rename_8 : decode cL_rename 8 = .ok (.i2l, 1) := by decide +kernel
theorem dL_rename_9 : decode cL_rename 9 = .ok (.lastore, 1) := by decide +kernel
theorem dL_rename_10 : decode cL_rename 10 = .ok (.goto 15, 3) := by decide +kernel
theorem dL_rename_13 : decode cL_rename 13 = .ok (.astore 4, 2) := by decide +kernel
theorem dL_rename_15 : decode cL_rename 15 = .ok (.iconst 1, 1) := by decide +kernel
theorem dL_rename_16 : decode cL_rename 16 = .ok (.ireturn, 1) := by decide +kernel
theorem dL_rename_17 : decode cL_rename 17 = .ok (.astore 4, 2) := by decide +kernel
theorem dL_rename_19 : decode cL_rename 19 = .ok (.iconst 2, 1) := by decide +kernel
theorem dL_rename_20 : decode cL_rename 20 = .ok (.ireturn, 1) := by decide +kernel
theorem dL_rename_21 : decode cL_rename 21 = .ok (.astore 4, 2) := by decide +kernel
theorem dL_rename_23 : decode cL_rename 23 = .ok (.iconst 3, 1) := by decide +kernel
theorem dL_rename_24 : decode cL_rename 24 = .ok (.ireturn, 1) := by decide +kernel
theorem dL_rename_25 : decode cL_rename 25 = .ok (.iconst 0, 1) := by decide +kernel
theorem dL_rename_26 : decode cL_rename 26 = .ok (.ireturn, 1) := by decide +kernel
theorem dL_lose_0 : decode cL_lose 0 = .ok (.aload_n 3, 1) := by decide +kernel
theorem dL_lose_1 : decode cL_lose 1 = .ok (.iconst 0, 1) := by decide +kernel
theorem dL_lose_2 : decode cL_lose 2 = .ok (.aload_n 0, 1) := by decide +kernel
theorem dL_lose_3 : decode cL_lose 3 = .ok (.iload_n 1, 1) := by decide +kernel
theorem dL_lose_4 : decode cL_lose 4 = .ok (.iload_n 2, 1) := by decide +kernel
theorem dL_lose_5 : decode cL_lose 5 = .ok (.invokevirtual 34, 3) := by decide +kernel
theorem dL_lose_8 : decode cL_lose 8 = .ok (.ifCond .eq 7, 3) := by decide +kernel
theorem dL_lose_11 : decode cL_lose 11 = .ok (.lconst 1, 1) := by decide +kernel
theorem dL_lose_12 : decode cL_lose 12 = .ok (.goto 4, 3) := by decide +kernel
theorem dL_lose_15 : decode cL_lose 15 = .ok (.lconst 0, 1) := by decide +kernel
theorem dL_lose_16 : decode cL_lose 16 = .ok (.lastore, 1) := by decide +kernel
theorem dL_lose_17 : decode cL_lose 17 = .ok (.goto 7, 3) := by decide +kernel
theorem dL_lose_20 : decode cL_lose 20 = .ok (.astore 4, 2) := by decide +kernel
theorem dL_lose_22 : decode cL_lose 22 = .ok (.iconst 1, 1) := by decide +kernel
theorem dL_lose_23 : decode cL_lose 23 = .ok (.ireturn, 1) := by decide +kernel
theorem dL_lose_24 : decode cL_lose 24 = .ok (.iconst 0, 1) := by decide +kernel
theorem dL_lose_25 : decode cL_lose 25 = .ok (.ireturn, 1) := by decide +kernel
theorem dL_setPlaces_0 : decode cL_setPlaces 0 = .ok (.aload_n 3, 1) := by decide +kernel
theorem dL_setPlaces_1 : decode cL_setPlaces 1 = .ok (.iconst 0, 1) := by decide +kernel
theorem dL_setPlaces_2 : decode cL_setPlaces 2 = .ok (.aload_n 0, 1) := by decide +kernel
theorem dL_setPlaces_3 : decode cL_setPlaces 3 = .ok (.iload_n 1, 1) := by decide +kernel
theorem dL_setPlaces_4 : decode cL_setPlaces 4 = .ok (.iload_n 2, 1) := by decide +kernel
theorem dL_setPlaces_5 : decode cL_setPlaces 5 = .ok (.invokevirtual 38, 3) := by decide +kernel
theorem dL_setPlaces_8 : decode cL_setPlaces 8 = .ok (.i2l, 1) := by decide +kernel
theorem dL_setPlaces_9 : decode cL_setPlaces 9 = .ok (.lastore, 1) := by decide +kernel
theorem dL_setPlaces_10 : decode cL_setPlaces 10 = .ok (.goto 15, 3) := by decide +kernel
theorem dL_setPlaces_13 : decode cL_setPlaces 13 = .ok (.astore 4, 2) := by decide +kernel
theorem dL_setPlaces_15 : decode cL_setPlaces 15 = .ok (.iconst 1, 1) := by decide +kernel
theorem dL_setPlaces_16 : decode cL_setPlaces 16 = .ok (.ireturn, 1) := by decide +kernel
theorem dL_setPlaces_17 : decode cL_setPlaces 17 = .ok (.astore 4, 2) := by decide +kernel
theorem dL_setPlaces_19 : decode cL_setPlaces 19 = .ok (.iconst 2, 1) := by decide +kernel
theorem dL_setPlaces_20 : decode cL_setPlaces 20 = .ok (.ireturn, 1) := by decide +kernel
theorem dL_setPlaces_21 : decode cL_setPlaces 21 = .ok (.astore 4, 2) := by decide +kernel
theorem dL_setPlaces_23 : decode cL_setPlaces 23 = .ok (.iconst 3, 1) := by decide +kernel
theorem dL_setPlaces_24 : decode cL_setPlaces 24 = .ok (.ireturn, 1) := by decide +kernel
theorem dL_setPlaces_25 : decode cL_setPlaces 25 = .ok (.iconst 0, 1) := by decide +kernel
theorem dL_setPlaces_26 : decode cL_setPlaces 26 = .ok (.ireturn, 1) := by decide +kernel
theorem dL_setHours_0 : decode cL_setHours 0 = .ok (.aload 4, 2) := by decide +kernel
theorem dL_setHours_2 : decode cL_setHours 2 = .ok (.iconst 0, 1) := by decide +kernel
theorem dL_setHours_3 : decode cL_setHours 3 = .ok (.aload_n 0, 1) := by decide +kernel
theorem dL_setHours_4 : decode cL_setHours 4 = .ok (.iload_n 1, 1) := by decide +kernel
theorem dL_setHours_5 : decode cL_setHours 5 = .ok (.iload_n 2, 1) := by decide +kernel
theorem dL_setHours_6 : decode cL_setHours 6 = .ok (.iload_n 3, 1) := by decide +kernel
theorem dL_setHours_7 : decode cL_setHours 7 = .ok (.invokevirtual 41, 3) := by decide +kernel
theorem dL_setHours_10 : decode cL_setHours 10 = .ok (.i2l, 1) := by decide +kernel
theorem dL_setHours_11 : decode cL_setHours 11 = .ok (.lastore, 1) := by decide +kernel
theorem dL_setHours_12 : decode cL_setHours 12 = .ok (.goto 11, 3) := by decide +kernel
theorem dL_setHours_15 : decode cL_setHours 15 = .ok (.astore 5, 2) := by decide +kernel
theorem dL_setHours_17 : decode cL_setHours 17 = .ok (.iconst 1, 1) := by decide +kernel
theorem dL_setHours_18 : decode cL_setHours 18 = .ok (.ireturn, 1) := by decide +kernel
theorem dL_setHours_19 : decode cL_setHours 19 = .ok (.astore 5, 2) := by decide +kernel
theorem dL_setHours_21 : decode cL_setHours 21 = .ok (.iconst 2, 1) := by decide +kernel
theorem dL_setHours_22 : decode cL_setHours 22 = .ok (.ireturn, 1) := by decide +kernel
theorem dL_setHours_23 : decode cL_setHours 23 = .ok (.iconst 0, 1) := by decide +kernel
theorem dL_setHours_24 : decode cL_setHours 24 = .ok (.ireturn, 1) := by decide +kernel
theorem dL_put_0 : decode cL_put 0 = .ok (.aload_n 3, 1) := by decide +kernel
theorem dL_put_1 : decode cL_put 1 = .ok (.iconst 0, 1) := by decide +kernel
theorem dL_put_2 : decode cL_put 2 = .ok (.aload_n 0, 1) := by decide +kernel
theorem dL_put_3 : decode cL_put 3 = .ok (.iload_n 1, 1) := by decide +kernel
theorem dL_put_4 : decode cL_put 4 = .ok (.iload_n 2, 1) := by decide +kernel
theorem dL_put_5 : decode cL_put 5 = .ok (.invokevirtual 44, 3) := by decide +kernel
theorem dL_put_8 : decode cL_put 8 = .ok (.i2l, 1) := by decide +kernel
theorem dL_put_9 : decode cL_put 9 = .ok (.lastore, 1) := by decide +kernel
theorem dL_put_10 : decode cL_put 10 = .ok (.goto 11, 3) := by decide +kernel
theorem dL_put_13 : decode cL_put 13 = .ok (.astore 4, 2) := by decide +kernel
theorem dL_put_15 : decode cL_put 15 = .ok (.iconst 1, 1) := by decide +kernel
theorem dL_put_16 : decode cL_put 16 = .ok (.ireturn, 1) := by decide +kernel
theorem dL_put_17 : decode cL_put 17 = .ok (.astore 4, 2) := by decide +kernel
theorem dL_put_19 : decode cL_put 19 = .ok (.iconst 2, 1) := by decide +kernel
theorem dL_put_20 : decode cL_put 20 = .ok (.ireturn, 1) := by decide +kernel
theorem dL_put_21 : decode cL_put 21 = .ok (.iconst 0, 1) := by decide +kernel
theorem dL_put_22 : decode cL_put 22 = .ok (.ireturn, 1) := by decide +kernel
theorem dL_told_0 : decode cL_told 0 = .ok (.aload_n 3, 1) := by decide +kernel
theorem dL_told_1 : decode cL_told 1 = .ok (.iconst 0, 1) := by decide +kernel
theorem dL_told_2 : decode cL_told 2 = .ok (.aload_n 0, 1) := by decide +kernel
theorem dL_told_3 : decode cL_told 3 = .ok (.iload_n 1, 1) := by decide +kernel
theorem dL_told_4 : decode cL_told 4 = .ok (.iload_n 2, 1) := by decide +kernel
theorem dL_told_5 : decode cL_told 5 = .ok (.invokevirtual 47, 3) := by decide +kernel
theorem dL_told_8 : decode cL_told 8 = .ok (.i2l, 1) := by decide +kernel
theorem dL_told_9 : decode cL_told 9 = .ok (.lastore, 1) := by decide +kernel
theorem dL_told_10 : decode cL_told 10 = .ok (.goto 7, 3) := by decide +kernel
theorem dL_told_13 : decode cL_told 13 = .ok (.astore 4, 2) := by decide +kernel
theorem dL_told_15 : decode cL_told 15 = .ok (.iconst 1, 1) := by decide +kernel
theorem dL_told_16 : decode cL_told 16 = .ok (.ireturn, 1) := by decide +kernel
theorem dL_told_17 : decode cL_told 17 = .ok (.iconst 0, 1) := by decide +kernel
theorem dL_told_18 : decode cL_told 18 = .ok (.ireturn, 1) := by decide +kernel
theorem dL_wear_0 : decode cL_wear 0 = .ok (.aload 4, 2) := by decide +kernel
theorem dL_wear_2 : decode cL_wear 2 = .ok (.iconst 0, 1) := by decide +kernel
theorem dL_wear_3 : decode cL_wear 3 = .ok (.aload_n 0, 1) := by decide +kernel
theorem dL_wear_4 : decode cL_wear 4 = .ok (.iload_n 1, 1) := by decide +kernel
theorem dL_wear_5 : decode cL_wear 5 = .ok (.iload_n 2, 1) := by decide +kernel
theorem dL_wear_6 : decode cL_wear 6 = .ok (.iload_n 3, 1) := by decide +kernel
theorem dL_wear_7 : decode cL_wear 7 = .ok (.invokevirtual 50, 3) := by decide +kernel
theorem dL_wear_10 : decode cL_wear 10 = .ok (.i2l, 1) := by decide +kernel
theorem dL_wear_11 : decode cL_wear 11 = .ok (.lastore, 1) := by decide +kernel
theorem dL_wear_12 : decode cL_wear 12 = .ok (.goto 7, 3) := by decide +kernel
theorem dL_wear_15 : decode cL_wear 15 = .ok (.astore 5, 2) := by decide +kernel
theorem dL_wear_17 : decode cL_wear 17 = .ok (.iconst 1, 1) := by decide +kernel
theorem dL_wear_18 : decode cL_wear 18 = .ok (.ireturn, 1) := by decide +kernel
theorem dL_wear_19 : decode cL_wear 19 = .ok (.iconst 0, 1) := by decide +kernel
theorem dL_wear_20 : decode cL_wear 20 = .ok (.ireturn, 1) := by decide +kernel
theorem dL_rack_0 : decode cL_rack 0 = .ok (.aload_n 3, 1) := by decide +kernel
theorem dL_rack_1 : decode cL_rack 1 = .ok (.iconst 0, 1) := by decide +kernel
theorem dL_rack_2 : decode cL_rack 2 = .ok (.aload_n 0, 1) := by decide +kernel
theorem dL_rack_3 : decode cL_rack 3 = .ok (.iload_n 1, 1) := by decide +kernel
theorem dL_rack_4 : decode cL_rack 4 = .ok (.iload_n 2, 1) := by decide +kernel
theorem dL_rack_5 : decode cL_rack 5 = .ok (.invokevirtual 53, 3) := by decide +kernel
theorem dL_rack_8 : decode cL_rack 8 = .ok (.i2l, 1) := by decide +kernel
theorem dL_rack_9 : decode cL_rack 9 = .ok (.lastore, 1) := by decide +kernel
theorem dL_rack_10 : decode cL_rack 10 = .ok (.goto 7, 3) := by decide +kernel
theorem dL_rack_13 : decode cL_rack 13 = .ok (.astore 4, 2) := by decide +kernel
theorem dL_rack_15 : decode cL_rack 15 = .ok (.iconst 1, 1) := by decide +kernel
theorem dL_rack_16 : decode cL_rack 16 = .ok (.ireturn, 1) := by decide +kernel
theorem dL_rack_17 : decode cL_rack 17 = .ok (.iconst 0, 1) := by decide +kernel
theorem dL_rack_18 : decode cL_rack 18 = .ok (.ireturn, 1) := by decide +kernel
theorem dL_count_0 : decode cL_count 0 = .ok (.aload_n 2, 1) := by decide +kernel
theorem dL_count_1 : decode cL_count 1 = .ok (.iconst 0, 1) := by decide +kernel
theorem dL_count_2 : decode cL_count 2 = .ok (.aload_n 0, 1) := by decide +kernel
theorem dL_count_3 : decode cL_count 3 = .ok (.iload_n 1, 1) := by decide +kernel
theorem dL_count_4 : decode cL_count 4 = .ok (.invokevirtual 56, 3) := by decide +kernel
theorem dL_count_7 : decode cL_count 7 = .ok (.i2l, 1) := by decide +kernel
theorem dL_count_8 : decode cL_count 8 = .ok (.lastore, 1) := by decide +kernel
theorem dL_count_9 : decode cL_count 9 = .ok (.goto 6, 3) := by decide +kernel
theorem dL_count_12 : decode cL_count 12 = .ok (.astore_n 3, 1) := by decide +kernel
theorem dL_count_13 : decode cL_count 13 = .ok (.iconst 1, 1) := by decide +kernel
theorem dL_count_14 : decode cL_count 14 = .ok (.ireturn, 1) := by decide +kernel
theorem dL_count_15 : decode cL_count 15 = .ok (.iconst 0, 1) := by decide +kernel
theorem dL_count_16 : decode cL_count 16 = .ok (.ireturn, 1) := by decide +kernel
theorem dL_apart_0 : decode cL_apart 0 = .ok (.aload_n 3, 1) := by decide +kernel
theorem dL_apart_1 : decode cL_apart 1 = .ok (.iconst 0, 1) := by decide +kernel
theorem dL_apart_2 : decode cL_apart 2 = .ok (.aload_n 0, 1) := by decide +kernel
theorem dL_apart_3 : decode cL_apart 3 = .ok (.iload_n 1, 1) := by decide +kernel
theorem dL_apart_4 : decode cL_apart 4 = .ok (.iload_n 2, 1) := by decide +kernel
theorem dL_apart_5 : decode cL_apart 5 = .ok (.invokevirtual 59, 3) := by decide +kernel
theorem dL_apart_8 : decode cL_apart 8 = .ok (.i2l, 1) := by decide +kernel
theorem dL_apart_9 : decode cL_apart 9 = .ok (.lastore, 1) := by decide +kernel
theorem dL_apart_10 : decode cL_apart 10 = .ok (.goto 7, 3) := by decide +kernel
theorem dL_apart_13 : decode cL_apart 13 = .ok (.astore 4, 2) := by decide +kernel
theorem dL_apart_15 : decode cL_apart 15 = .ok (.iconst 1, 1) := by decide +kernel
theorem dL_apart_16 : decode cL_apart 16 = .ok (.ireturn, 1) := by decide +kernel
theorem dL_apart_17 : decode cL_apart 17 = .ok (.iconst 0, 1) := by decide +kernel
theorem dL_apart_18 : decode cL_apart 18 = .ok (.ireturn, 1) := by decide +kernel
theorem dL_trial_0 : decode cL_trial 0 = .ok (.aload_n 3, 1) := by decide +kernel
theorem dL_trial_1 : decode cL_trial 1 = .ok (.iconst 0, 1) := by decide +kernel
theorem dL_trial_2 : decode cL_trial 2 = .ok (.aload_n 0, 1) := by decide +kernel
theorem dL_trial_3 : decode cL_trial 3 = .ok (.iload_n 1, 1) := by decide +kernel
theorem dL_trial_4 : decode cL_trial 4 = .ok (.iload_n 2, 1) := by decide +kernel
theorem dL_trial_5 : decode cL_trial 5 = .ok (.invokevirtual 62, 3) := by decide +kernel
theorem dL_trial_8 : decode cL_trial 8 = .ok (.i2l, 1) := by decide +kernel
theorem dL_trial_9 : decode cL_trial 9 = .ok (.lastore, 1) := by decide +kernel
theorem dL_trial_10 : decode cL_trial 10 = .ok (.goto 11, 3) := by decide +kernel
theorem dL_trial_13 : decode cL_trial 13 = .ok (.astore 4, 2) := by decide +kernel
theorem dL_trial_15 : decode cL_trial 15 = .ok (.iconst 1, 1) := by decide +kernel
theorem dL_trial_16 : decode cL_trial 16 = .ok (.ireturn, 1) := by decide +kernel
theorem dL_trial_17 : decode cL_trial 17 = .ok (.astore 4, 2) := by decide +kernel
theorem dL_trial_19 : decode cL_trial 19 = .ok (.iconst 2, 1) := by decide +kernel
theorem dL_trial_20 : decode cL_trial 20 = .ok (.ireturn, 1) := by decide +kernel
theorem dL_trial_21 : decode cL_trial 21 = .ok (.iconst 0, 1) := by decide +kernel
theorem dL_trial_22 : decode cL_trial 22 = .ok (.ireturn, 1) := by decide +kernel
theorem dL_safe_0 : decode cL_safe 0 = .ok (.aload_n 2, 1) := by decide +kernel
theorem dL_safe_1 : decode cL_safe 1 = .ok (.iconst 0, 1) := by decide +kernel
theorem dL_safe_2 : decode cL_safe 2 = .ok (.aload_n 0, 1) := by decide +kernel
theorem dL_safe_3 : decode cL_safe 3 = .ok (.iload_n 1, 1) := by decide +kernel
theorem dL_safe_4 : decode cL_safe 4 = .ok (.invokevirtual 65, 3) := by decide +kernel
theorem dL_safe_7 : decode cL_safe 7 = .ok (.i2l, 1) := by decide +kernel
theorem dL_safe_8 : decode cL_safe 8 = .ok (.lastore, 1) := by decide +kernel
theorem dL_safe_9 : decode cL_safe 9 = .ok (.goto 6, 3) := by decide +kernel
theorem dL_safe_12 : decode cL_safe 12 = .ok (.astore_n 3, 1) := by decide +kernel
theorem dL_safe_13 : decode cL_safe 13 = .ok (.iconst 1, 1) := by decide +kernel
theorem dL_safe_14 : decode cL_safe 14 = .ok (.ireturn, 1) := by decide +kernel
theorem dL_safe_15 : decode cL_safe 15 = .ok (.iconst 0, 1) := by decide +kernel
theorem dL_safe_16 : decode cL_safe 16 = .ok (.ireturn, 1) := by decide +kernel
theorem dL_pass_0 : decode cL_pass 0 = .ok (.aload_n 2, 1) := by decide +kernel
theorem dL_pass_1 : decode cL_pass 1 = .ok (.iconst 0, 1) := by decide +kernel
theorem dL_pass_2 : decode cL_pass 2 = .ok (.aload_n 0, 1) := by decide +kernel
theorem dL_pass_3 : decode cL_pass 3 = .ok (.iload_n 1, 1) := by decide +kernel
theorem dL_pass_4 : decode cL_pass 4 = .ok (.invokevirtual 68, 3) := by decide +kernel
theorem dL_pass_7 : decode cL_pass 7 = .ok (.i2l, 1) := by decide +kernel
theorem dL_pass_8 : decode cL_pass 8 = .ok (.lastore, 1) := by decide +kernel
theorem dL_pass_9 : decode cL_pass 9 = .ok (.goto 6, 3) := by decide +kernel
theorem dL_pass_12 : decode cL_pass 12 = .ok (.astore_n 3, 1) := by decide +kernel
theorem dL_pass_13 : decode cL_pass 13 = .ok (.iconst 1, 1) := by decide +kernel
theorem dL_pass_14 : decode cL_pass 14 = .ok (.ireturn, 1) := by decide +kernel
theorem dL_pass_15 : decode cL_pass 15 = .ok (.iconst 0, 1) := by decide +kernel
theorem dL_pass_16 : decode cL_pass 16 = .ok (.ireturn, 1) := by decide +kernel
theorem dL_foresee_0 : decode cL_foresee 0 = .ok (.aload_n 3, 1) := by decide +kernel
theorem dL_foresee_1 : decode cL_foresee 1 = .ok (.iconst 0, 1) := by decide +kernel
theorem dL_foresee_2 : decode cL_foresee 2 = .ok (.aload_n 0, 1) := by decide +kernel
theorem dL_foresee_3 : decode cL_foresee 3 = .ok (.iload_n 1, 1) := by decide +kernel
theorem dL_foresee_4 : decode cL_foresee 4 = .ok (.iload_n 2, 1) := by decide +kernel
theorem dL_foresee_5 : decode cL_foresee 5 = .ok (.invokevirtual 71, 3) := by decide +kernel
theorem dL_foresee_8 : decode cL_foresee 8 = .ok (.i2l, 1) := by decide +kernel
theorem dL_foresee_9 : decode cL_foresee 9 = .ok (.lastore, 1) := by decide +kernel
theorem dL_foresee_10 : decode cL_foresee 10 = .ok (.goto 11, 3) := by decide +kernel
theorem dL_foresee_13 : decode cL_foresee 13 = .ok (.astore 4, 2) := by decide +kernel
theorem dL_foresee_15 : decode cL_foresee 15 = .ok (.iconst 1, 1) := by decide +kernel
theorem dL_foresee_16 : decode cL_foresee 16 = .ok (.ireturn, 1) := by decide +kernel
theorem dL_foresee_17 : decode cL_foresee 17 = .ok (.astore 4, 2) := by decide +kernel
theorem dL_foresee_19 : decode cL_foresee 19 = .ok (.iconst 2, 1) := by decide +kernel
theorem dL_foresee_20 : decode cL_foresee 20 = .ok (.ireturn, 1) := by decide +kernel
theorem dL_foresee_21 : decode cL_foresee 21 = .ok (.iconst 0, 1) := by decide +kernel
theorem dL_foresee_22 : decode cL_foresee 22 = .ok (.ireturn, 1) := by decide +kernel
theorem dL_until_0 : decode cL_until 0 = .ok (.aload_n 2, 1) := by decide +kernel
theorem dL_until_1 : decode cL_until 1 = .ok (.iconst 0, 1) := by decide +kernel
theorem dL_until_2 : decode cL_until 2 = .ok (.aload_n 0, 1) := by decide +kernel
theorem dL_until_3 : decode cL_until 3 = .ok (.iload_n 1, 1) := by decide +kernel
theorem dL_until_4 : decode cL_until 4 = .ok (.invokevirtual 74, 3) := by decide +kernel
theorem dL_until_7 : decode cL_until 7 = .ok (.i2l, 1) := by decide +kernel
theorem dL_until_8 : decode cL_until 8 = .ok (.lastore, 1) := by decide +kernel
theorem dL_until_9 : decode cL_until 9 = .ok (.goto 6, 3) := by decide +kernel
theorem dL_until_12 : decode cL_until 12 = .ok (.astore_n 3, 1) := by decide +kernel
theorem dL_until_13 : decode cL_until 13 = .ok (.iconst 1, 1) := by decide +kernel
theorem dL_until_14 : decode cL_until 14 = .ok (.ireturn, 1) := by decide +kernel
theorem dL_until_15 : decode cL_until 15 = .ok (.iconst 0, 1) := by decide +kernel
theorem dL_until_16 : decode cL_until 16 = .ok (.ireturn, 1) := by decide +kernel
theorem dL_law_0 : decode cL_law 0 = .ok (.new 8, 3) := by decide +kernel
theorem dL_law_3 : decode cL_law 3 = .ok (.dup, 1) := by decide +kernel
theorem dL_law_4 : decode cL_law 4 = .ok (.invokespecial 77, 3) := by decide +kernel
theorem dL_law_7 : decode cL_law 7 = .ok (.astore_n 1, 1) := by decide +kernel
theorem dL_law_8 : decode cL_law 8 = .ok (.new 78, 3) := by decide +kernel
theorem dL_law_11 : decode cL_law 11 = .ok (.dup, 1) := by decide +kernel
theorem dL_law_12 : decode cL_law 12 = .ok (.invokespecial 80, 3) := by decide +kernel
theorem dL_law_15 : decode cL_law 15 = .ok (.astore_n 2, 1) := by decide +kernel
theorem dL_law_16 : decode cL_law 16 = .ok (.iconst 1, 1) := by decide +kernel
theorem dL_law_17 : decode cL_law 17 = .ok (.newarray .long, 2) := by decide +kernel
theorem dL_law_19 : decode cL_law 19 = .ok (.astore_n 3, 1) := by decide +kernel
theorem dL_law_20 : decode cL_law 20 = .ok (.iconst 0, 1) := by decide +kernel
theorem dL_law_21 : decode cL_law 21 = .ok (.istore 4, 2) := by decide +kernel
theorem dL_law_23 : decode cL_law 23 = .ok (.iload 4, 2) := by decide +kernel
theorem dL_law_25 : decode cL_law 25 = .ok (.aload_n 0, 1) := by decide +kernel
theorem dL_law_26 : decode cL_law 26 = .ok (.arraylength, 1) := by decide +kernel
theorem dL_law_27 : decode cL_law 27 = .ok (.iconst 4, 1) := by decide +kernel
theorem dL_law_28 : decode cL_law 28 = .ok (.isub, 1) := by decide +kernel
theorem dL_law_29 : decode cL_law 29 = .ok (.if_icmp .gt 1459, 3) := by decide +kernel
theorem dL_law_32 : decode cL_law 32 = .ok (.aload_n 0, 1) := by decide +kernel
theorem dL_law_33 : decode cL_law 33 = .ok (.iload 4, 2) := by decide +kernel
theorem dL_law_35 : decode cL_law 35 = .ok (.iaload, 1) := by decide +kernel
theorem dL_law_36 : decode cL_law 36 = .ok (.bipush 31, 2) := by decide +kernel
theorem dL_law_38 : decode cL_law 38 = .ok (.iand, 1) := by decide +kernel
theorem dL_law_39 : decode cL_law 39 = .ok (.tableswitch 1443 0 21 #[101, 157, 237, 300, 356, 424, 515, 583, 663, 731, 799, 879, 947, 1003, 1071, 1139, 1195, 1251, 1319, 1375, 1388, 1429], 101) := by decide +kernel
theorem dL_law_140 : decode cL_law 140 = .ok (.aload_n 1, 1) := by decide +kernel
theorem dL_law_141 : decode cL_law 141 = .ok (.aload_n 0, 1) := by decide +kernel
theorem dL_law_142 : decode cL_law 142 = .ok (.iload 4, 2) := by decide +kernel
theorem dL_law_144 : decode cL_law 144 = .ok (.iconst 1, 1) := by decide +kernel
theorem dL_law_145 : decode cL_law 145 = .ok (.iadd, 1) := by decide +kernel
theorem dL_law_146 : decode cL_law 146 = .ok (.iaload, 1) := by decide +kernel
theorem dL_law_147 : decode cL_law 147 = .ok (.aload_n 3, 1) := by decide +kernel
theorem dL_law_148 : decode cL_law 148 = .ok (.invokestatic 81, 3) := by decide +kernel
theorem dL_law_151 : decode cL_law 151 = .ok (.istore 5, 2) := by decide +kernel
theorem dL_law_153 : decode cL_law 153 = .ok (.aload_n 2, 1) := by decide +kernel
theorem dL_law_154 : decode cL_law 154 = .ok (.aload_n 0, 1) := by decide +kernel
theorem dL_law_155 : decode cL_law 155 = .ok (.iload 4, 2) := by decide +kernel
theorem dL_law_157 : decode cL_law 157 = .ok (.iconst 1, 1) := by decide +kernel
theorem dL_law_158 : decode cL_law 158 = .ok (.iadd, 1) := by decide +kernel
theorem dL_law_159 : decode cL_law 159 = .ok (.iaload, 1) := by decide +kernel
theorem dL_law_160 : decode cL_law 160 = .ok (.invokevirtual 86, 3) := by decide +kernel
theorem dL_law_163 : decode cL_law 163 = .ok (.istore 6, 2) := by decide +kernel
theorem dL_law_165 : decode cL_law 165 = .ok (.aload_n 2, 1) := by decide +kernel
theorem dL_law_166 : decode cL_law 166 = .ok (.invokevirtual 87, 3) := by decide +kernel
theorem dL_law_169 : decode cL_law 169 = .ok (.iload 5, 2) := by decide +kernel
theorem dL_law_171 : decode cL_law 171 = .ok (.if_icmp .eq 5, 3) := by decide +kernel
theorem dL_law_174 : decode cL_law 174 = .ok (.iconst 0, 1) := by decide +kernel
theorem dL_law_175 : decode cL_law 175 = .ok (.ireturn, 1) := by decide +kernel
theorem dL_law_176 : decode cL_law 176 = .ok (.iload 5, 2) := by decide +kernel
theorem dL_law_178 : decode cL_law 178 = .ok (.ifCond .ne 15, 3) := by decide +kernel
theorem dL_law_181 : decode cL_law 181 = .ok (.aload_n 3, 1) := by decide +kernel
theorem dL_law_182 : decode cL_law 182 = .ok (.iconst 0, 1) := by decide +kernel
theorem dL_law_183 : decode cL_law 183 = .ok (.laload, 1) := by decide +kernel
theorem dL_law_184 : decode cL_law 184 = .ok (.iload 6, 2) := by decide +kernel
theorem dL_law_186 : decode cL_law 186 = .ok (.i2l, 1) := by decide +kernel
theorem dL_law_187 : decode cL_law 187 = .ok (.lcmp, 1) := by decide +kernel
theorem dL_law_188 : decode cL_law 188 = .ok (.ifCond .eq 5, 3) := by decide +kernel
theorem dL_law_191 : decode cL_law 191 = .ok (.iconst 0, 1) := by decide +kernel
theorem dL_law_192 : decode cL_law 192 = .ok (.ireturn, 1) := by decide +kernel
theorem dL_law_193 : decode cL_law 193 = .ok (.goto 1289, 3) := by decide +kernel
theorem dL_law_196 : decode cL_law 196 = .ok (.aload_n 1, 1) := by decide +kernel
theorem dL_law_197 : decode cL_law 197 = .ok (.aload_n 0, 1) := by decide +kernel
theorem dL_law_198 : decode cL_law 198 = .ok (.iload 4, 2) := by decide +kernel
theorem dL_law_200 : decode cL_law 200 = .ok (.iconst 1, 1) := by decide +kernel
theorem dL_law_201 : decode cL_law 201 = .ok (.iadd, 1) := by decide +kernel
theorem dL_law_202 : decode cL_law 202 = .ok (.iaload, 1) := by decide +kernel
theorem dL_law_203 : decode cL_law 203 = .ok (.aload_n 0, 1) := by decide +kernel
theorem dL_law_204 : decode cL_law 204 = .ok (.iload 4, 2) := by decide +kernel
theorem dL_law_206 : decode cL_law 206 = .ok (.iconst 2, 1) := by decide +kernel
theorem dL_law_207 : decode cL_law 207 = .ok (.iadd, 1) := by decide +kernel
theorem dL_law_208 : decode cL_law 208 = .ok (.iaload, 1) := by decide +kernel
theorem dL_law_209 : decode cL_law 209 = .ok (.aload_n 0, 1) := by decide +kernel
theorem dL_law_210 : decode cL_law 210 = .ok (.iload 4, 2) := by decide +kernel
theorem dL_law_212 : decode cL_law 212 = .ok (.iconst 3, 1) := by decide +kernel
theorem dL_law_213 : decode cL_law 213 = .ok (.iadd, 1) := by decide +kernel
theorem dL_law_214 : decode cL_law 214 = .ok (.iaload, 1) := by decide +kernel
theorem dL_law_215 : decode cL_law 215 = .ok (.aload_n 3, 1) := by decide +kernel
theorem dL_law_216 : decode cL_law 216 = .ok (.invokestatic 91, 3) := by decide +kernel
theorem dL_law_219 : decode cL_law 219 = .ok (.istore 5, 2) := by decide +kernel
theorem dL_law_221 : decode cL_law 221 = .ok (.aload_n 2, 1) := by decide +kernel
theorem dL_law_222 : decode cL_law 222 = .ok (.aload_n 0, 1) := by decide +kernel
theorem dL_law_223 : decode cL_law 223 = .ok (.iload 4, 2) := by decide +kernel
theorem dL_law_225 : decode cL_law 225 = .ok (.iconst 1, 1) := by decide +kernel
theorem dL_law_226 : decode cL_law 226 = .ok (.iadd, 1) := by decide +kernel
theorem dL_law_227 : decode cL_law 227 = .ok (.iaload, 1) := by decide +kernel
theorem dL_law_228 : decode cL_law 228 = .ok (.aload_n 0, 1) := by decide +kernel
theorem dL_law_229 : decode cL_law 229 = .ok (.iload 4, 2) := by decide +kernel
theorem dL_law_231 : decode cL_law 231 = .ok (.iconst 2, 1) := by decide +kernel
theorem dL_law_232 : decode cL_law 232 = .ok (.iadd, 1) := by decide +kernel
theorem dL_law_233 : decode cL_law 233 = .ok (.iaload, 1) := by decide +kernel
theorem dL_law_234 : decode cL_law 234 = .ok (.aload_n 0, 1) := by decide +kernel
theorem dL_law_235 : decode cL_law 235 = .ok (.iload 4, 2) := by decide +kernel
theorem dL_law_237 : decode cL_law 237 = .ok (.iconst 3, 1) := by decide +kernel
theorem dL_law_238 : decode cL_law 238 = .ok (.iadd, 1) := by decide +kernel
theorem dL_law_239 : decode cL_law 239 = .ok (.iaload, 1) := by decide +kernel
theorem dL_law_240 : decode cL_law 240 = .ok (.invokevirtual 94, 3) := by decide +kernel
theorem dL_law_243 : decode cL_law 243 = .ok (.istore 6, 2) := by decide +kernel
theorem dL_law_245 : decode cL_law 245 = .ok (.aload_n 2, 1) := by decide +kernel
theorem dL_law_246 : decode cL_law 246 = .ok (.invokevirtual 87, 3) := by decide +kernel
theorem dL_law_249 : decode cL_law 249 = .ok (.iload 5, 2) := by decide +kernel
theorem dL_law_251 : decode cL_law 251 = .ok (.if_icmp .eq 5, 3) := by decide +kernel
theorem dL_law_254 : decode cL_law 254 = .ok (.iconst 0, 1) := by decide +kernel
theorem dL_law_255 : decode cL_law 255 = .ok (.ireturn, 1) := by decide +kernel
theorem dL_law_256 : decode cL_law 256 = .ok (.iload 5, 2) := by decide +kernel
theorem dL_law_258 : decode cL_law 258 = .ok (.ifCond .ne 15, 3) := by decide +kernel
theorem dL_law_261 : decode cL_law 261 = .ok (.aload_n 3, 1) := by decide +kernel
theorem dL_law_262 : decode cL_law 262 = .ok (.iconst 0, 1) := by decide +kernel
theorem dL_law_263 : decode cL_law 263 = .ok (.laload, 1) := by decide +kernel
theorem dL_law_264 : decode cL_law 264 = .ok (.iload 6, 2) := by decide +kernel
theorem dL_law_266 : decode cL_law 266 = .ok (.i2l, 1) := by decide +kernel
theorem dL_law_267 : decode cL_law 267 = .ok (.lcmp, 1) := by decide +kernel
theorem dL_law_268 : decode cL_law 268 = .ok (.ifCond .eq 5, 3) := by decide +kernel
theorem dL_law_271 : decode cL_law 271 = .ok (.iconst 0, 1) := by decide +kernel
theorem dL_law_272 : decode cL_law 272 = .ok (.ireturn, 1) := by decide +kernel
theorem dL_law_273 : decode cL_law 273 = .ok (.goto 1209, 3) := by decide +kernel
theorem dL_law_276 : decode cL_law 276 = .ok (.aload_n 1, 1) := by decide +kernel
theorem dL_law_277 : decode cL_law 277 = .ok (.aload_n 0, 1) := by decide +kernel
theorem dL_law_278 : decode cL_law 278 = .ok (.iload 4, 2) := by decide +kernel
theorem dL_law_280 : decode cL_law 280 = .ok (.iconst 1, 1) := by decide +kernel
theorem dL_law_281 : decode cL_law 281 = .ok (.iadd, 1) := by decide +kernel
theorem dL_law_282 : decode cL_law 282 = .ok (.iaload, 1) := by decide +kernel
theorem dL_law_283 : decode cL_law 283 = .ok (.aload_n 3, 1) := by decide +kernel
theorem dL_law_284 : decode cL_law 284 = .ok (.invokestatic 95, 3) := by decide +kernel
theorem dL_law_287 : decode cL_law 287 = .ok (.istore 5, 2) := by decide +kernel
theorem dL_law_289 : decode cL_law 289 = .ok (.aload_n 2, 1) := by decide +kernel
theorem dL_law_290 : decode cL_law 290 = .ok (.aload_n 0, 1) := by decide +kernel
theorem dL_law_291 : decode cL_law 291 = .ok (.iload 4, 2) := by decide +kernel
theorem dL_law_293 : decode cL_law 293 = .ok (.iconst 1, 1) := by decide +kernel
theorem dL_law_294 : decode cL_law 294 = .ok (.iadd, 1) := by decide +kernel
theorem dL_law_295 : decode cL_law 295 = .ok (.iaload, 1) := by decide +kernel
theorem dL_law_296 : decode cL_law 296 = .ok (.invokevirtual 97, 3) := by decide +kernel
theorem dL_law_299 : decode cL_law 299 = .ok (.istore 6, 2) := by decide +kernel
theorem dL_law_301 : decode cL_law 301 = .ok (.aload_n 2, 1) := by decide +kernel
theorem dL_law_302 : decode cL_law 302 = .ok (.invokevirtual 87, 3) := by decide +kernel
theorem dL_law_305 : decode cL_law 305 = .ok (.iload 5, 2) := by decide +kernel
theorem dL_law_307 : decode cL_law 307 = .ok (.if_icmp .eq 5, 3) := by decide +kernel
theorem dL_law_310 : decode cL_law 310 = .ok (.iconst 0, 1) := by decide +kernel
theorem dL_law_311 : decode cL_law 311 = .ok (.ireturn, 1) := by decide +kernel
theorem dL_law_312 : decode cL_law 312 = .ok (.iload 5, 2) := by decide +kernel
theorem dL_law_314 : decode cL_law 314 = .ok (.ifCond .ne 22, 3) := by decide +kernel
theorem dL_law_317 : decode cL_law 317 = .ok (.aload_n 3, 1) := by decide +kernel
theorem dL_law_318 : decode cL_law 318 = .ok (.iconst 0, 1) := by decide +kernel
theorem dL_law_319 : decode cL_law 319 = .ok (.laload, 1) := by decide +kernel
theorem dL_law_320 : decode cL_law 320 = .ok (.iload 6, 2) := by decide +kernel
theorem dL_law_322 : decode cL_law 322 = .ok (.ifCond .eq 7, 3) := by decide +kernel
theorem dL_law_325 : decode cL_law 325 = .ok (.lconst 1, 1) := by decide +kernel
theorem dL_law_326 : decode cL_law 326 = .ok (.goto 4, 3) := by decide +kernel
theorem dL_law_329 : decode cL_law 329 = .ok (.lconst 0, 1) := by decide +kernel
theorem dL_law_330 : decode cL_law 330 = .ok (.lcmp, 1) := by decide +kernel
theorem dL_law_331 : decode cL_law 331 = .ok (.ifCond .eq 5, 3) := by decide +kernel
theorem dL_law_334 : decode cL_law 334 = .ok (.iconst 0, 1) := by decide +kernel
theorem dL_law_335 : decode cL_law 335 = .ok (.ireturn, 1) := by decide +kernel
theorem dL_law_336 : decode cL_law 336 = .ok (.goto 1146, 3) := by decide +kernel
theorem dL_law_339 : decode cL_law 339 = .ok (.aload_n 1, 1) := by decide +kernel
theorem dL_law_340 : decode cL_law 340 = .ok (.aload_n 0, 1) := by decide +kernel
theorem dL_law_341 : decode cL_law 341 = .ok (.iload 4, 2) := by decide +kernel
theorem dL_law_343 : decode cL_law 343 = .ok (.iconst 1, 1) := by decide +kernel
theorem dL_law_344 : decode cL_law 344 = .ok (.iadd, 1) := by decide +kernel
theorem dL_law_345 : decode cL_law 345 = .ok (.iaload, 1) := by decide +kernel
theorem dL_law_346 : decode cL_law 346 = .ok (.aload_n 3, 1) := by decide +kernel
theorem dL_law_347 : decode cL_law 347 = .ok (.invokestatic 98, 3) := by decide +kernel
theorem dL_law_350 : decode cL_law 350 = .ok (.istore 5, 2) := by decide +kernel
theorem dL_law_352 : decode cL_law 352 = .ok (.aload_n 2, 1) := by decide +kernel
theorem dL_law_353 : decode cL_law 353 = .ok (.aload_n 0, 1) := by decide +kernel
theorem dL_law_354 : decode cL_law 354 = .ok (.iload 4, 2) := by decide +kernel
theorem dL_law_356 : decode cL_law 356 = .ok (.iconst 1, 1) := by decide +kernel
theorem dL_law_357 : decode cL_law 357 = .ok (.iadd, 1) := by decide +kernel
theorem dL_law_358 : decode cL_law 358 = .ok (.iaload, 1) := by decide +kernel
theorem dL_law_359 : decode cL_law 359 = .ok (.invokevirtual 100, 3) := by decide +kernel
theorem dL_law_362 : decode cL_law 362 = .ok (.istore 6, 2) := by decide +kernel
theorem dL_law_364 : decode cL_law 364 = .ok (.aload_n 2, 1) := by decide +kernel
theorem dL_law_365 : decode cL_law 365 = .ok (.invokevirtual 87, 3) := by decide +kernel
theorem dL_law_368 : decode cL_law 368 = .ok (.iload 5, 2) := by decide +kernel
theorem dL_law_370 : decode cL_law 370 = .ok (.if_icmp .eq 5, 3) := by decide +kernel
theorem dL_law_373 : decode cL_law 373 = .ok (.iconst 0, 1) := by decide +kernel
theorem dL_law_374 : decode cL_law 374 = .ok (.ireturn, 1) := by decide +kernel
theorem dL_law_375 : decode cL_law 375 = .ok (.iload 5, 2) := by decide +kernel
theorem dL_law_377 : decode cL_law 377 = .ok (.ifCond .ne 15, 3) := by decide +kernel
theorem dL_law_380 : decode cL_law 380 = .ok (.aload_n 3, 1) := by decide +kernel
theorem dL_law_381 : decode cL_law 381 = .ok (.iconst 0, 1) := by decide +kernel
theorem dL_law_382 : decode cL_law 382 = .ok (.laload, 1) := by decide +kernel
theorem dL_law_383 : decode cL_law 383 = .ok (.iload 6, 2) := by decide +kernel
theorem dL_law_385 : decode cL_law 385 = .ok (.i2l, 1) := by decide +kernel
theorem dL_law_386 : decode cL_law 386 = .ok (.lcmp, 1) := by decide +kernel
theorem dL_law_387 : decode cL_law 387 = .ok (.ifCond .eq 5, 3) := by decide +kernel
theorem dL_law_390 : decode cL_law 390 = .ok (.iconst 0, 1) := by decide +kernel
theorem dL_law_391 : decode cL_law 391 = .ok (.ireturn, 1) := by decide +kernel
theorem dL_law_392 : decode cL_law 392 = .ok (.goto 1090, 3) := by decide +kernel
theorem dL_law_395 : decode cL_law 395 = .ok (.aload_n 1, 1) := by decide +kernel
theorem dL_law_396 : decode cL_law 396 = .ok (.aload_n 0, 1) := by decide +kernel
theorem dL_law_397 : decode cL_law 397 = .ok (.iload 4, 2) := by decide +kernel
theorem dL_law_399 : decode cL_law 399 = .ok (.iconst 1, 1) := by decide +kernel
theorem dL_law_400 : decode cL_law 400 = .ok (.iadd, 1) := by decide +kernel
theorem dL_law_401 : decode cL_law 401 = .ok (.iaload, 1) := by decide +kernel
theorem dL_law_402 : decode cL_law 402 = .ok (.aload_n 0, 1) := by decide +kernel
theorem dL_law_403 : decode cL_law 403 = .ok (.iload 4, 2) := by decide +kernel
theorem dL_law_405 : decode cL_law 405 = .ok (.iconst 2, 1) := by decide +kernel
theorem dL_law_406 : decode cL_law 406 = .ok (.iadd, 1) := by decide +kernel
theorem dL_law_407 : decode cL_law 407 = .ok (.iaload, 1) := by decide +kernel
theorem dL_law_408 : decode cL_law 408 = .ok (.aload_n 3, 1) := by decide +kernel
theorem dL_law_409 : decode cL_law 409 = .ok (.invokestatic 101, 3) := by decide +kernel
theorem dL_law_412 : decode cL_law 412 = .ok (.istore 5, 2) := by decide +kernel
theorem dL_law_414 : decode cL_law 414 = .ok (.aload_n 2, 1) := by decide +kernel
theorem dL_law_415 : decode cL_law 415 = .ok (.aload_n 0, 1) := by decide +kernel
theorem dL_law_416 : decode cL_law 416 = .ok (.iload 4, 2) := by decide +kernel
theorem dL_law_418 : decode cL_law 418 = .ok (.iconst 1, 1) := by decide +kernel
theorem dL_law_419 : decode cL_law 419 = .ok (.iadd, 1) := by decide +kernel
theorem dL_law_420 : decode cL_law 420 = .ok (.iaload, 1) := by decide +kernel
theorem dL_law_421 : decode cL_law 421 = .ok (.aload_n 0, 1) := by decide +kernel
theorem dL_law_422 : decode cL_law 422 = .ok (.iload 4, 2) := by decide +kernel
theorem dL_law_424 : decode cL_law 424 = .ok (.iconst 2, 1) := by decide +kernel
theorem dL_law_425 : decode cL_law 425 = .ok (.iadd, 1) := by decide +kernel
theorem dL_law_426 : decode cL_law 426 = .ok (.iaload, 1) := by decide +kernel
theorem dL_law_427 : decode cL_law 427 = .ok (.invokevirtual 104, 3) := by decide +kernel
theorem dL_law_430 : decode cL_law 430 = .ok (.istore 6, 2) := by decide +kernel
theorem dL_law_432 : decode cL_law 432 = .ok (.aload_n 2, 1) := by decide +kernel
theorem dL_law_433 : decode cL_law 433 = .ok (.invokevirtual 87, 3) := by decide +kernel
theorem dL_law_436 : decode cL_law 436 = .ok (.iload 5, 2) := by decide +kernel
theorem dL_law_438 : decode cL_law 438 = .ok (.if_icmp .eq 5, 3) := by decide +kernel
theorem dL_law_441 : decode cL_law 441 = .ok (.iconst 0, 1) := by decide +kernel
theorem dL_law_442 : decode cL_law 442 = .ok (.ireturn, 1) := by decide +kernel
theorem dL_law_443 : decode cL_law 443 = .ok (.iload 5, 2) := by decide +kernel
theorem dL_law_445 : decode cL_law 445 = .ok (.ifCond .ne 15, 3) := by decide +kernel
theorem dL_law_448 : decode cL_law 448 = .ok (.aload_n 3, 1) := by decide +kernel
theorem dL_law_449 : decode cL_law 449 = .ok (.iconst 0, 1) := by decide +kernel
theorem dL_law_450 : decode cL_law 450 = .ok (.laload, 1) := by decide +kernel
theorem dL_law_451 : decode cL_law 451 = .ok (.iload 6, 2) := by decide +kernel
theorem dL_law_453 : decode cL_law 453 = .ok (.i2l, 1) := by decide +kernel
theorem dL_law_454 : decode cL_law 454 = .ok (.lcmp, 1) := by decide +kernel
theorem dL_law_455 : decode cL_law 455 = .ok (.ifCond .eq 5, 3) := by decide +kernel
theorem dL_law_458 : decode cL_law 458 = .ok (.iconst 0, 1) := by decide +kernel
theorem dL_law_459 : decode cL_law 459 = .ok (.ireturn, 1) := by decide +kernel
theorem dL_law_460 : decode cL_law 460 = .ok (.goto 1022, 3) := by decide +kernel
theorem dL_law_463 : decode cL_law 463 = .ok (.aload_n 1, 1) := by decide +kernel
theorem dL_law_464 : decode cL_law 464 = .ok (.aload_n 0, 1) := by decide +kernel
theorem dL_law_465 : decode cL_law 465 = .ok (.iload 4, 2) := by decide +kernel
theorem dL_law_467 : decode cL_law 467 = .ok (.iconst 1, 1) := by decide +kernel
theorem dL_law_468 : decode cL_law 468 = .ok (.iadd, 1) := by decide +kernel
theorem dL_law_469 : decode cL_law 469 = .ok (.iaload, 1) := by decide +kernel
theorem dL_law_470 : decode cL_law 470 = .ok (.aload_n 0, 1) := by decide +kernel
theorem dL_law_471 : decode cL_law 471 = .ok (.iload 4, 2) := by decide +kernel
theorem dL_law_473 : decode cL_law 473 = .ok (.iconst 2, 1) := by decide +kernel
theorem dL_law_474 : decode cL_law 474 = .ok (.iadd, 1) := by decide +kernel
theorem dL_law_475 : decode cL_law 475 = .ok (.iaload, 1) := by decide +kernel
theorem dL_law_476 : decode cL_law 476 = .ok (.ifCond .eq 7, 3) := by decide +kernel
theorem dL_law_479 : decode cL_law 479 = .ok (.iconst 1, 1) := by decide +kernel
theorem dL_law_480 : decode cL_law 480 = .ok (.goto 4, 3) := by decide +kernel
theorem dL_law_483 : decode cL_law 483 = .ok (.iconst 0, 1) := by decide +kernel
theorem dL_law_484 : decode cL_law 484 = .ok (.aload_n 3, 1) := by decide +kernel
theorem dL_law_485 : decode cL_law 485 = .ok (.invokestatic 105, 3) := by decide +kernel
theorem dL_law_488 : decode cL_law 488 = .ok (.istore 5, 2) := by decide +kernel
theorem dL_law_490 : decode cL_law 490 = .ok (.aload_n 2, 1) := by decide +kernel
theorem dL_law_491 : decode cL_law 491 = .ok (.aload_n 0, 1) := by decide +kernel
theorem dL_law_492 : decode cL_law 492 = .ok (.iload 4, 2) := by decide +kernel
theorem dL_law_494 : decode cL_law 494 = .ok (.iconst 1, 1) := by decide +kernel
theorem dL_law_495 : decode cL_law 495 = .ok (.iadd, 1) := by decide +kernel
theorem dL_law_496 : decode cL_law 496 = .ok (.iaload, 1) := by decide +kernel
theorem dL_law_497 : decode cL_law 497 = .ok (.aload_n 0, 1) := by decide +kernel
theorem dL_law_498 : decode cL_law 498 = .ok (.iload 4, 2) := by decide +kernel
theorem dL_law_500 : decode cL_law 500 = .ok (.iconst 2, 1) := by decide +kernel
theorem dL_law_501 : decode cL_law 501 = .ok (.iadd, 1) := by decide +kernel
theorem dL_law_502 : decode cL_law 502 = .ok (.iaload, 1) := by decide +kernel
theorem dL_law_503 : decode cL_law 503 = .ok (.ifCond .eq 7, 3) := by decide +kernel
theorem dL_law_506 : decode cL_law 506 = .ok (.iconst 1, 1) := by decide +kernel
theorem dL_law_507 : decode cL_law 507 = .ok (.goto 4, 3) := by decide +kernel
theorem dL_law_510 : decode cL_law 510 = .ok (.iconst 0, 1) := by decide +kernel
theorem dL_law_511 : decode cL_law 511 = .ok (.invokevirtual 108, 3) := by decide +kernel
theorem dL_law_514 : decode cL_law 514 = .ok (.istore 6, 2) := by decide +kernel
theorem dL_law_516 : decode cL_law 516 = .ok (.aload_n 2, 1) := by decide +kernel
theorem dL_law_517 : decode cL_law 517 = .ok (.invokevirtual 87, 3) := by decide +kernel
theorem dL_law_520 : decode cL_law 520 = .ok (.iload 5, 2) := by decide +kernel
theorem dL_law_522 : decode cL_law 522 = .ok (.if_icmp .eq 5, 3) := by decide +kernel
theorem dL_law_525 : decode cL_law 525 = .ok (.iconst 0, 1) := by decide +kernel
theorem dL_law_526 : decode cL_law 526 = .ok (.ireturn, 1) := by decide +kernel
theorem dL_law_527 : decode cL_law 527 = .ok (.iload 5, 2) := by decide +kernel
theorem dL_law_529 : decode cL_law 529 = .ok (.ifCond .ne 22, 3) := by decide +kernel
theorem dL_law_532 : decode cL_law 532 = .ok (.aload_n 3, 1) := by decide +kernel
theorem dL_law_533 : decode cL_law 533 = .ok (.iconst 0, 1) := by decide +kernel
theorem dL_law_534 : decode cL_law 534 = .ok (.laload, 1) := by decide +kernel
theorem dL_law_535 : decode cL_law 535 = .ok (.iload 6, 2) := by decide +kernel
theorem dL_law_537 : decode cL_law 537 = .ok (.ifCond .eq 7, 3) := by decide +kernel
theorem dL_law_540 : decode cL_law 540 = .ok (.lconst 1, 1) := by decide +kernel
theorem dL_law_541 : decode cL_law 541 = .ok (.goto 4, 3) := by decide +kernel
theorem dL_law_544 : decode cL_law 544 = .ok (.lconst 0, 1) := by decide +kernel
theorem dL_law_545 : decode cL_law 545 = .ok (.lcmp, 1) := by decide +kernel
theorem dL_law_546 : decode cL_law 546 = .ok (.ifCond .eq 5, 3) := by decide +kernel
theorem dL_law_549 : decode cL_law 549 = .ok (.iconst 0, 1) := by decide +kernel
theorem dL_law_550 : decode cL_law 550 = .ok (.ireturn, 1) := by decide +kernel
theorem dL_law_551 : decode cL_law 551 = .ok (.goto 931, 3) := by decide +kernel
theorem dL_law_554 : decode cL_law 554 = .ok (.aload_n 1, 1) := by decide +kernel
theorem dL_law_555 : decode cL_law 555 = .ok (.aload_n 0, 1) := by decide +kernel
theorem dL_law_556 : decode cL_law 556 = .ok (.iload 4, 2) := by decide +kernel
theorem dL_law_558 : decode cL_law 558 = .ok (.iconst 1, 1) := by decide +kernel
theorem dL_law_559 : decode cL_law 559 = .ok (.iadd, 1) := by decide +kernel
theorem dL_law_560 : decode cL_law 560 = .ok (.iaload, 1) := by decide +kernel
theorem dL_law_561 : decode cL_law 561 = .ok (.aload_n 0, 1) := by decide +kernel
theorem dL_law_562 : decode cL_law 562 = .ok (.iload 4, 2) := by decide +kernel
theorem dL_law_564 : decode cL_law 564 = .ok (.iconst 2, 1) := by decide +kernel
theorem dL_law_565 : decode cL_law 565 = .ok (.iadd, 1) := by decide +kernel
theorem dL_law_566 : decode cL_law 566 = .ok (.iaload, 1) := by decide +kernel
theorem dL_law_567 : decode cL_law 567 = .ok (.aload_n 3, 1) := by decide +kernel
theorem dL_law_568 : decode cL_law 568 = .ok (.invokestatic 109, 3) := by decide +kernel
theorem dL_law_571 : decode cL_law 571 = .ok (.istore 5, 2) := by decide +kernel
theorem dL_law_573 : decode cL_law 573 = .ok (.aload_n 2, 1) := by decide +kernel
theorem dL_law_574 : decode cL_law 574 = .ok (.aload_n 0, 1) := by decide +kernel
theorem dL_law_575 : decode cL_law 575 = .ok (.iload 4, 2) := by decide +kernel
theorem dL_law_577 : decode cL_law 577 = .ok (.iconst 1, 1) := by decide +kernel
theorem dL_law_578 : decode cL_law 578 = .ok (.iadd, 1) := by decide +kernel
theorem dL_law_579 : decode cL_law 579 = .ok (.iaload, 1) := by decide +kernel
theorem dL_law_580 : decode cL_law 580 = .ok (.aload_n 0, 1) := by decide +kernel
theorem dL_law_581 : decode cL_law 581 = .ok (.iload 4, 2) := by decide +kernel
theorem dL_law_583 : decode cL_law 583 = .ok (.iconst 2, 1) := by decide +kernel
theorem dL_law_584 : decode cL_law 584 = .ok (.iadd, 1) := by decide +kernel
theorem dL_law_585 : decode cL_law 585 = .ok (.iaload, 1) := by decide +kernel
theorem dL_law_586 : decode cL_law 586 = .ok (.invokevirtual 111, 3) := by decide +kernel
theorem dL_law_589 : decode cL_law 589 = .ok (.istore 6, 2) := by decide +kernel
theorem dL_law_591 : decode cL_law 591 = .ok (.aload_n 2, 1) := by decide +kernel
theorem dL_law_592 : decode cL_law 592 = .ok (.invokevirtual 87, 3) := by decide +kernel
theorem dL_law_595 : decode cL_law 595 = .ok (.iload 5, 2) := by decide +kernel
theorem dL_law_597 : decode cL_law 597 = .ok (.if_icmp .eq 5, 3) := by decide +kernel
theorem dL_law_600 : decode cL_law 600 = .ok (.iconst 0, 1) := by decide +kernel
theorem dL_law_601 : decode cL_law 601 = .ok (.ireturn, 1) := by decide +kernel
theorem dL_law_602 : decode cL_law 602 = .ok (.iload 5, 2) := by decide +kernel
theorem dL_law_604 : decode cL_law 604 = .ok (.ifCond .ne 15, 3) := by decide +kernel
theorem dL_law_607 : decode cL_law 607 = .ok (.aload_n 3, 1) := by decide +kernel
theorem dL_law_608 : decode cL_law 608 = .ok (.iconst 0, 1) := by decide +kernel
theorem dL_law_609 : decode cL_law 609 = .ok (.laload, 1) := by decide +kernel
theorem dL_law_610 : decode cL_law 610 = .ok (.iload 6, 2) := by decide +kernel
theorem dL_law_612 : decode cL_law 612 = .ok (.i2l, 1) := by decide +kernel
theorem dL_law_613 : decode cL_law 613 = .ok (.lcmp, 1) := by decide +kernel
theorem dL_law_614 : decode cL_law 614 = .ok (.ifCond .eq 5, 3) := by decide +kernel
theorem dL_law_617 : decode cL_law 617 = .ok (.iconst 0, 1) := by decide +kernel
theorem dL_law_618 : decode cL_law 618 = .ok (.ireturn, 1) := by decide +kernel
theorem dL_law_619 : decode cL_law 619 = .ok (.goto 863, 3) := by decide +kernel
theorem dL_law_622 : decode cL_law 622 = .ok (.aload_n 1, 1) := by decide +kernel
theorem dL_law_623 : decode cL_law 623 = .ok (.aload_n 0, 1) := by decide +kernel
theorem dL_law_624 : decode cL_law 624 = .ok (.iload 4, 2) := by decide +kernel
theorem dL_law_626 : decode cL_law 626 = .ok (.iconst 1, 1) := by decide +kernel
theorem dL_law_627 : decode cL_law 627 = .ok (.iadd, 1) := by decide +kernel
theorem dL_law_628 : decode cL_law 628 = .ok (.iaload, 1) := by decide +kernel
theorem dL_law_629 : decode cL_law 629 = .ok (.aload_n 0, 1) := by decide +kernel
theorem dL_law_630 : decode cL_law 630 = .ok (.iload 4, 2) := by decide +kernel
theorem dL_law_632 : decode cL_law 632 = .ok (.iconst 2, 1) := by decide +kernel
theorem dL_law_633 : decode cL_law 633 = .ok (.iadd, 1) := by decide +kernel
theorem dL_law_634 : decode cL_law 634 = .ok (.iaload, 1) := by decide +kernel
theorem dL_law_635 : decode cL_law 635 = .ok (.aload_n 0, 1) := by decide +kernel
theorem dL_law_636 : decode cL_law 636 = .ok (.iload 4, 2) := by decide +kernel
theorem dL_law_638 : decode cL_law 638 = .ok (.iconst 3, 1) := by decide +kernel
theorem dL_law_639 : decode cL_law 639 = .ok (.iadd, 1) := by decide +kernel
theorem dL_law_640 : decode cL_law 640 = .ok (.iaload, 1) := by decide +kernel
theorem dL_law_641 : decode cL_law 641 = .ok (.aload_n 3, 1) := by decide +kernel
theorem dL_law_642 : decode cL_law 642 = .ok (.invokestatic 112, 3) := by decide +kernel
theorem dL_law_645 : decode cL_law 645 = .ok (.istore 5, 2) := by decide +kernel
theorem dL_law_647 : decode cL_law 647 = .ok (.aload_n 2, 1) := by decide +kernel
theorem dL_law_648 : decode cL_law 648 = .ok (.aload_n 0, 1) := by decide +kernel
theorem dL_law_649 : decode cL_law 649 = .ok (.iload 4, 2) := by decide +kernel
theorem dL_law_651 : decode cL_law 651 = .ok (.iconst 1, 1) := by decide +kernel
theorem dL_law_652 : decode cL_law 652 = .ok (.iadd, 1) := by decide +kernel
theorem dL_law_653 : decode cL_law 653 = .ok (.iaload, 1) := by decide +kernel
theorem dL_law_654 : decode cL_law 654 = .ok (.aload_n 0, 1) := by decide +kernel
theorem dL_law_655 : decode cL_law 655 = .ok (.iload 4, 2) := by decide +kernel
theorem dL_law_657 : decode cL_law 657 = .ok (.iconst 2, 1) := by decide +kernel
theorem dL_law_658 : decode cL_law 658 = .ok (.iadd, 1) := by decide +kernel
theorem dL_law_659 : decode cL_law 659 = .ok (.iaload, 1) := by decide +kernel
theorem dL_law_660 : decode cL_law 660 = .ok (.aload_n 0, 1) := by decide +kernel
theorem dL_law_661 : decode cL_law 661 = .ok (.iload 4, 2) := by decide +kernel
theorem dL_law_663 : decode cL_law 663 = .ok (.iconst 3, 1) := by decide +kernel
theorem dL_law_664 : decode cL_law 664 = .ok (.iadd, 1) := by decide +kernel
theorem dL_law_665 : decode cL_law 665 = .ok (.iaload, 1) := by decide +kernel
theorem dL_law_666 : decode cL_law 666 = .ok (.invokevirtual 114, 3) := by decide +kernel
theorem dL_law_669 : decode cL_law 669 = .ok (.istore 6, 2) := by decide +kernel
theorem dL_law_671 : decode cL_law 671 = .ok (.aload_n 2, 1) := by decide +kernel
theorem dL_law_672 : decode cL_law 672 = .ok (.invokevirtual 87, 3) := by decide +kernel
theorem dL_law_675 : decode cL_law 675 = .ok (.iload 5, 2) := by decide +kernel
theorem dL_law_677 : decode cL_law 677 = .ok (.if_icmp .eq 5, 3) := by decide +kernel
theorem dL_law_680 : decode cL_law 680 = .ok (.iconst 0, 1) := by decide +kernel
theorem dL_law_681 : decode cL_law 681 = .ok (.ireturn, 1) := by decide +kernel
theorem dL_law_682 : decode cL_law 682 = .ok (.iload 5, 2) := by decide +kernel
theorem dL_law_684 : decode cL_law 684 = .ok (.ifCond .ne 15, 3) := by decide +kernel
theorem dL_law_687 : decode cL_law 687 = .ok (.aload_n 3, 1) := by decide +kernel
theorem dL_law_688 : decode cL_law 688 = .ok (.iconst 0, 1) := by decide +kernel
theorem dL_law_689 : decode cL_law 689 = .ok (.laload, 1) := by decide +kernel
theorem dL_law_690 : decode cL_law 690 = .ok (.iload 6, 2) := by decide +kernel
theorem dL_law_692 : decode cL_law 692 = .ok (.i2l, 1) := by decide +kernel
theorem dL_law_693 : decode cL_law 693 = .ok (.lcmp, 1) := by decide +kernel
theorem dL_law_694 : decode cL_law 694 = .ok (.ifCond .eq 5, 3) := by decide +kernel
theorem dL_law_697 : decode cL_law 697 = .ok (.iconst 0, 1) := by decide +kernel
theorem dL_law_698 : decode cL_law 698 = .ok (.ireturn, 1) := by decide +kernel
theorem dL_law_699 : decode cL_law 699 = .ok (.goto 783, 3) := by decide +kernel
theorem dL_law_702 : decode cL_law 702 = .ok (.aload_n 1, 1) := by decide +kernel
theorem dL_law_703 : decode cL_law 703 = .ok (.aload_n 0, 1) := by decide +kernel
theorem dL_law_704 : decode cL_law 704 = .ok (.iload 4, 2) := by decide +kernel
theorem dL_law_706 : decode cL_law 706 = .ok (.iconst 1, 1) := by decide +kernel
theorem dL_law_707 : decode cL_law 707 = .ok (.iadd, 1) := by decide +kernel
theorem dL_law_708 : decode cL_law 708 = .ok (.iaload, 1) := by decide +kernel
theorem dL_law_709 : decode cL_law 709 = .ok (.aload_n 0, 1) := by decide +kernel
theorem dL_law_710 : decode cL_law 710 = .ok (.iload 4, 2) := by decide +kernel
theorem dL_law_712 : decode cL_law 712 = .ok (.iconst 2, 1) := by decide +kernel
theorem dL_law_713 : decode cL_law 713 = .ok (.iadd, 1) := by decide +kernel
theorem dL_law_714 : decode cL_law 714 = .ok (.iaload, 1) := by decide +kernel
theorem dL_law_715 : decode cL_law 715 = .ok (.aload_n 3, 1) := by decide +kernel
theorem dL_law_716 : decode cL_law 716 = .ok (.invokestatic 115, 3) := by decide +kernel
theorem dL_law_719 : decode cL_law 719 = .ok (.istore 5, 2) := by decide +kernel
theorem dL_law_721 : decode cL_law 721 = .ok (.aload_n 2, 1) := by decide +kernel
theorem dL_law_722 : decode cL_law 722 = .ok (.aload_n 0, 1) := by decide +kernel
theorem dL_law_723 : decode cL_law 723 = .ok (.iload 4, 2) := by decide +kernel
theorem dL_law_725 : decode cL_law 725 = .ok (.iconst 1, 1) := by decide +kernel
theorem dL_law_726 : decode cL_law 726 = .ok (.iadd, 1) := by decide +kernel
theorem dL_law_727 : decode cL_law 727 = .ok (.iaload, 1) := by decide +kernel
theorem dL_law_728 : decode cL_law 728 = .ok (.aload_n 0, 1) := by decide +kernel
theorem dL_law_729 : decode cL_law 729 = .ok (.iload 4, 2) := by decide +kernel
theorem dL_law_731 : decode cL_law 731 = .ok (.iconst 2, 1) := by decide +kernel
theorem dL_law_732 : decode cL_law 732 = .ok (.iadd, 1) := by decide +kernel
theorem dL_law_733 : decode cL_law 733 = .ok (.iaload, 1) := by decide +kernel
theorem dL_law_734 : decode cL_law 734 = .ok (.invokevirtual 117, 3) := by decide +kernel
theorem dL_law_737 : decode cL_law 737 = .ok (.istore 6, 2) := by decide +kernel
theorem dL_law_739 : decode cL_law 739 = .ok (.aload_n 2, 1) := by decide +kernel
theorem dL_law_740 : decode cL_law 740 = .ok (.invokevirtual 87, 3) := by decide +kernel
theorem dL_law_743 : decode cL_law 743 = .ok (.iload 5, 2) := by decide +kernel
theorem dL_law_745 : decode cL_law 745 = .ok (.if_icmp .eq 5, 3) := by decide +kernel
theorem dL_law_748 : decode cL_law 748 = .ok (.iconst 0, 1) := by decide +kernel
theorem dL_law_749 : decode cL_law 749 = .ok (.ireturn, 1) := by decide +kernel
theorem dL_law_750 : decode cL_law 750 = .ok (.iload 5, 2) := by decide +kernel
theorem dL_law_752 : decode cL_law 752 = .ok (.ifCond .ne 15, 3) := by decide +kernel
theorem dL_law_755 : decode cL_law 755 = .ok (.aload_n 3, 1) := by decide +kernel
theorem dL_law_756 : decode cL_law 756 = .ok (.iconst 0, 1) := by decide +kernel
theorem dL_law_757 : decode cL_law 757 = .ok (.laload, 1) := by decide +kernel
theorem dL_law_758 : decode cL_law 758 = .ok (.iload 6, 2) := by decide +kernel
theorem dL_law_760 : decode cL_law 760 = .ok (.i2l, 1) := by decide +kernel
theorem dL_law_761 : decode cL_law 761 = .ok (.lcmp, 1) := by decide +kernel
theorem dL_law_762 : decode cL_law 762 = .ok (.ifCond .eq 5, 3) := by decide +kernel
theorem dL_law_765 : decode cL_law 765 = .ok (.iconst 0, 1) := by decide +kernel
theorem dL_law_766 : decode cL_law 766 = .ok (.ireturn, 1) := by decide +kernel
theorem dL_law_767 : decode cL_law 767 = .ok (.goto 715, 3) := by decide +kernel
theorem dL_law_770 : decode cL_law 770 = .ok (.aload_n 1, 1) := by decide +kernel
theorem dL_law_771 : decode cL_law 771 = .ok (.aload_n 0, 1) := by decide +kernel
theorem dL_law_772 : decode cL_law 772 = .ok (.iload 4, 2) := by decide +kernel
theorem dL_law_774 : decode cL_law 774 = .ok (.iconst 1, 1) := by decide +kernel
theorem dL_law_775 : decode cL_law 775 = .ok (.iadd, 1) := by decide +kernel
theorem dL_law_776 : decode cL_law 776 = .ok (.iaload, 1) := by decide +kernel
theorem dL_law_777 : decode cL_law 777 = .ok (.aload_n 0, 1) := by decide +kernel
theorem dL_law_778 : decode cL_law 778 = .ok (.iload 4, 2) := by decide +kernel
theorem dL_law_780 : decode cL_law 780 = .ok (.iconst 2, 1) := by decide +kernel
theorem dL_law_781 : decode cL_law 781 = .ok (.iadd, 1) := by decide +kernel
theorem dL_law_782 : decode cL_law 782 = .ok (.iaload, 1) := by decide +kernel
theorem dL_law_783 : decode cL_law 783 = .ok (.aload_n 3, 1) := by decide +kernel
theorem dL_law_784 : decode cL_law 784 = .ok (.invokestatic 118, 3) := by decide +kernel
theorem dL_law_787 : decode cL_law 787 = .ok (.istore 5, 2) := by decide +kernel
theorem dL_law_789 : decode cL_law 789 = .ok (.aload_n 2, 1) := by decide +kernel
theorem dL_law_790 : decode cL_law 790 = .ok (.aload_n 0, 1) := by decide +kernel
theorem dL_law_791 : decode cL_law 791 = .ok (.iload 4, 2) := by decide +kernel
theorem dL_law_793 : decode cL_law 793 = .ok (.iconst 1, 1) := by decide +kernel
theorem dL_law_794 : decode cL_law 794 = .ok (.iadd, 1) := by decide +kernel
theorem dL_law_795 : decode cL_law 795 = .ok (.iaload, 1) := by decide +kernel
theorem dL_law_796 : decode cL_law 796 = .ok (.aload_n 0, 1) := by decide +kernel
theorem dL_law_797 : decode cL_law 797 = .ok (.iload 4, 2) := by decide +kernel
theorem dL_law_799 : decode cL_law 799 = .ok (.iconst 2, 1) := by decide +kernel
theorem dL_law_800 : decode cL_law 800 = .ok (.iadd, 1) := by decide +kernel
theorem dL_law_801 : decode cL_law 801 = .ok (.iaload, 1) := by decide +kernel
theorem dL_law_802 : decode cL_law 802 = .ok (.invokevirtual 120, 3) := by decide +kernel
theorem dL_law_805 : decode cL_law 805 = .ok (.istore 6, 2) := by decide +kernel
theorem dL_law_807 : decode cL_law 807 = .ok (.aload_n 2, 1) := by decide +kernel
theorem dL_law_808 : decode cL_law 808 = .ok (.invokevirtual 87, 3) := by decide +kernel
theorem dL_law_811 : decode cL_law 811 = .ok (.iload 5, 2) := by decide +kernel
theorem dL_law_813 : decode cL_law 813 = .ok (.if_icmp .eq 5, 3) := by decide +kernel
theorem dL_law_816 : decode cL_law 816 = .ok (.iconst 0, 1) := by decide +kernel
theorem dL_law_817 : decode cL_law 817 = .ok (.ireturn, 1) := by decide +kernel
theorem dL_law_818 : decode cL_law 818 = .ok (.iload 5, 2) := by decide +kernel
theorem dL_law_820 : decode cL_law 820 = .ok (.ifCond .ne 15, 3) := by decide +kernel
theorem dL_law_823 : decode cL_law 823 = .ok (.aload_n 3, 1) := by decide +kernel
theorem dL_law_824 : decode cL_law 824 = .ok (.iconst 0, 1) := by decide +kernel
theorem dL_law_825 : decode cL_law 825 = .ok (.laload, 1) := by decide +kernel
theorem dL_law_826 : decode cL_law 826 = .ok (.iload 6, 2) := by decide +kernel
theorem dL_law_828 : decode cL_law 828 = .ok (.i2l, 1) := by decide +kernel
theorem dL_law_829 : decode cL_law 829 = .ok (.lcmp, 1) := by decide +kernel
theorem dL_law_830 : decode cL_law 830 = .ok (.ifCond .eq 5, 3) := by decide +kernel
theorem dL_law_833 : decode cL_law 833 = .ok (.iconst 0, 1) := by decide +kernel
theorem dL_law_834 : decode cL_law 834 = .ok (.ireturn, 1) := by decide +kernel
theorem dL_law_835 : decode cL_law 835 = .ok (.goto 647, 3) := by decide +kernel
theorem dL_law_838 : decode cL_law 838 = .ok (.aload_n 1, 1) := by decide +kernel
theorem dL_law_839 : decode cL_law 839 = .ok (.aload_n 0, 1) := by decide +kernel
theorem dL_law_840 : decode cL_law 840 = .ok (.iload 4, 2) := by decide +kernel
theorem dL_law_842 : decode cL_law 842 = .ok (.iconst 1, 1) := by decide +kernel
theorem dL_law_843 : decode cL_law 843 = .ok (.iadd, 1) := by decide +kernel
theorem dL_law_844 : decode cL_law 844 = .ok (.iaload, 1) := by decide +kernel
theorem dL_law_845 : decode cL_law 845 = .ok (.aload_n 0, 1) := by decide +kernel
theorem dL_law_846 : decode cL_law 846 = .ok (.iload 4, 2) := by decide +kernel
theorem dL_law_848 : decode cL_law 848 = .ok (.iconst 2, 1) := by decide +kernel
theorem dL_law_849 : decode cL_law 849 = .ok (.iadd, 1) := by decide +kernel
theorem dL_law_850 : decode cL_law 850 = .ok (.iaload, 1) := by decide +kernel
theorem dL_law_851 : decode cL_law 851 = .ok (.aload_n 0, 1) := by decide +kernel
theorem dL_law_852 : decode cL_law 852 = .ok (.iload 4, 2) := by decide +kernel
theorem dL_law_854 : decode cL_law 854 = .ok (.iconst 3, 1) := by decide +kernel
theorem dL_law_855 : decode cL_law 855 = .ok (.iadd, 1) := by decide +kernel
theorem dL_law_856 : decode cL_law 856 = .ok (.iaload, 1) := by decide +kernel
theorem dL_law_857 : decode cL_law 857 = .ok (.aload_n 3, 1) := by decide +kernel
theorem dL_law_858 : decode cL_law 858 = .ok (.invokestatic 121, 3) := by decide +kernel
theorem dL_law_861 : decode cL_law 861 = .ok (.istore 5, 2) := by decide +kernel
theorem dL_law_863 : decode cL_law 863 = .ok (.aload_n 2, 1) := by decide +kernel
theorem dL_law_864 : decode cL_law 864 = .ok (.aload_n 0, 1) := by decide +kernel
theorem dL_law_865 : decode cL_law 865 = .ok (.iload 4, 2) := by decide +kernel
theorem dL_law_867 : decode cL_law 867 = .ok (.iconst 1, 1) := by decide +kernel
theorem dL_law_868 : decode cL_law 868 = .ok (.iadd, 1) := by decide +kernel
theorem dL_law_869 : decode cL_law 869 = .ok (.iaload, 1) := by decide +kernel
theorem dL_law_870 : decode cL_law 870 = .ok (.aload_n 0, 1) := by decide +kernel
theorem dL_law_871 : decode cL_law 871 = .ok (.iload 4, 2) := by decide +kernel
theorem dL_law_873 : decode cL_law 873 = .ok (.iconst 2, 1) := by decide +kernel
theorem dL_law_874 : decode cL_law 874 = .ok (.iadd, 1) := by decide +kernel
theorem dL_law_875 : decode cL_law 875 = .ok (.iaload, 1) := by decide +kernel
theorem dL_law_876 : decode cL_law 876 = .ok (.aload_n 0, 1) := by decide +kernel
theorem dL_law_877 : decode cL_law 877 = .ok (.iload 4, 2) := by decide +kernel
theorem dL_law_879 : decode cL_law 879 = .ok (.iconst 3, 1) := by decide +kernel
theorem dL_law_880 : decode cL_law 880 = .ok (.iadd, 1) := by decide +kernel
theorem dL_law_881 : decode cL_law 881 = .ok (.iaload, 1) := by decide +kernel
theorem dL_law_882 : decode cL_law 882 = .ok (.invokevirtual 123, 3) := by decide +kernel
theorem dL_law_885 : decode cL_law 885 = .ok (.istore 6, 2) := by decide +kernel
theorem dL_law_887 : decode cL_law 887 = .ok (.aload_n 2, 1) := by decide +kernel
theorem dL_law_888 : decode cL_law 888 = .ok (.invokevirtual 87, 3) := by decide +kernel
theorem dL_law_891 : decode cL_law 891 = .ok (.iload 5, 2) := by decide +kernel
theorem dL_law_893 : decode cL_law 893 = .ok (.if_icmp .eq 5, 3) := by decide +kernel
theorem dL_law_896 : decode cL_law 896 = .ok (.iconst 0, 1) := by decide +kernel
theorem dL_law_897 : decode cL_law 897 = .ok (.ireturn, 1) := by decide +kernel
theorem dL_law_898 : decode cL_law 898 = .ok (.iload 5, 2) := by decide +kernel
theorem dL_law_900 : decode cL_law 900 = .ok (.ifCond .ne 15, 3) := by decide +kernel
theorem dL_law_903 : decode cL_law 903 = .ok (.aload_n 3, 1) := by decide +kernel
theorem dL_law_904 : decode cL_law 904 = .ok (.iconst 0, 1) := by decide +kernel
theorem dL_law_905 : decode cL_law 905 = .ok (.laload, 1) := by decide +kernel
theorem dL_law_906 : decode cL_law 906 = .ok (.iload 6, 2) := by decide +kernel
theorem dL_law_908 : decode cL_law 908 = .ok (.i2l, 1) := by decide +kernel
theorem dL_law_909 : decode cL_law 909 = .ok (.lcmp, 1) := by decide +kernel
theorem dL_law_910 : decode cL_law 910 = .ok (.ifCond .eq 5, 3) := by decide +kernel
theorem dL_law_913 : decode cL_law 913 = .ok (.iconst 0, 1) := by decide +kernel
theorem dL_law_914 : decode cL_law 914 = .ok (.ireturn, 1) := by decide +kernel
theorem dL_law_915 : decode cL_law 915 = .ok (.goto 567, 3) := by decide +kernel
theorem dL_law_918 : decode cL_law 918 = .ok (.aload_n 1, 1) := by decide +kernel
theorem dL_law_919 : decode cL_law 919 = .ok (.aload_n 0, 1) := by decide +kernel
theorem dL_law_920 : decode cL_law 920 = .ok (.iload 4, 2) := by decide +kernel
theorem dL_law_922 : decode cL_law 922 = .ok (.iconst 1, 1) := by decide +kernel
theorem dL_law_923 : decode cL_law 923 = .ok (.iadd, 1) := by decide +kernel
theorem dL_law_924 : decode cL_law 924 = .ok (.iaload, 1) := by decide +kernel
theorem dL_law_925 : decode cL_law 925 = .ok (.aload_n 0, 1) := by decide +kernel
theorem dL_law_926 : decode cL_law 926 = .ok (.iload 4, 2) := by decide +kernel
theorem dL_law_928 : decode cL_law 928 = .ok (.iconst 2, 1) := by decide +kernel
theorem dL_law_929 : decode cL_law 929 = .ok (.iadd, 1) := by decide +kernel
theorem dL_law_930 : decode cL_law 930 = .ok (.iaload, 1) := by decide +kernel
theorem dL_law_931 : decode cL_law 931 = .ok (.aload_n 3, 1) := by decide +kernel
theorem dL_law_932 : decode cL_law 932 = .ok (.invokestatic 124, 3) := by decide +kernel
theorem dL_law_935 : decode cL_law 935 = .ok (.istore 5, 2) := by decide +kernel
theorem dL_law_937 : decode cL_law 937 = .ok (.aload_n 2, 1) := by decide +kernel
theorem dL_law_938 : decode cL_law 938 = .ok (.aload_n 0, 1) := by decide +kernel
theorem dL_law_939 : decode cL_law 939 = .ok (.iload 4, 2) := by decide +kernel
theorem dL_law_941 : decode cL_law 941 = .ok (.iconst 1, 1) := by decide +kernel
theorem dL_law_942 : decode cL_law 942 = .ok (.iadd, 1) := by decide +kernel
theorem dL_law_943 : decode cL_law 943 = .ok (.iaload, 1) := by decide +kernel
theorem dL_law_944 : decode cL_law 944 = .ok (.aload_n 0, 1) := by decide +kernel
theorem dL_law_945 : decode cL_law 945 = .ok (.iload 4, 2) := by decide +kernel
theorem dL_law_947 : decode cL_law 947 = .ok (.iconst 2, 1) := by decide +kernel
theorem dL_law_948 : decode cL_law 948 = .ok (.iadd, 1) := by decide +kernel
theorem dL_law_949 : decode cL_law 949 = .ok (.iaload, 1) := by decide +kernel
theorem dL_law_950 : decode cL_law 950 = .ok (.invokevirtual 126, 3) := by decide +kernel
theorem dL_law_953 : decode cL_law 953 = .ok (.istore 6, 2) := by decide +kernel
theorem dL_law_955 : decode cL_law 955 = .ok (.aload_n 2, 1) := by decide +kernel
theorem dL_law_956 : decode cL_law 956 = .ok (.invokevirtual 87, 3) := by decide +kernel
theorem dL_law_959 : decode cL_law 959 = .ok (.iload 5, 2) := by decide +kernel
theorem dL_law_961 : decode cL_law 961 = .ok (.if_icmp .eq 5, 3) := by decide +kernel
theorem dL_law_964 : decode cL_law 964 = .ok (.iconst 0, 1) := by decide +kernel
theorem dL_law_965 : decode cL_law 965 = .ok (.ireturn, 1) := by decide +kernel
theorem dL_law_966 : decode cL_law 966 = .ok (.iload 5, 2) := by decide +kernel
theorem dL_law_968 : decode cL_law 968 = .ok (.ifCond .ne 15, 3) := by decide +kernel
theorem dL_law_971 : decode cL_law 971 = .ok (.aload_n 3, 1) := by decide +kernel
theorem dL_law_972 : decode cL_law 972 = .ok (.iconst 0, 1) := by decide +kernel
theorem dL_law_973 : decode cL_law 973 = .ok (.laload, 1) := by decide +kernel
theorem dL_law_974 : decode cL_law 974 = .ok (.iload 6, 2) := by decide +kernel
theorem dL_law_976 : decode cL_law 976 = .ok (.i2l, 1) := by decide +kernel
theorem dL_law_977 : decode cL_law 977 = .ok (.lcmp, 1) := by decide +kernel
theorem dL_law_978 : decode cL_law 978 = .ok (.ifCond .eq 5, 3) := by decide +kernel
theorem dL_law_981 : decode cL_law 981 = .ok (.iconst 0, 1) := by decide +kernel
theorem dL_law_982 : decode cL_law 982 = .ok (.ireturn, 1) := by decide +kernel
theorem dL_law_983 : decode cL_law 983 = .ok (.goto 499, 3) := by decide +kernel
theorem dL_law_986 : decode cL_law 986 = .ok (.aload_n 1, 1) := by decide +kernel
theorem dL_law_987 : decode cL_law 987 = .ok (.aload_n 0, 1) := by decide +kernel
theorem dL_law_988 : decode cL_law 988 = .ok (.iload 4, 2) := by decide +kernel
theorem dL_law_990 : decode cL_law 990 = .ok (.iconst 1, 1) := by decide +kernel
theorem dL_law_991 : decode cL_law 991 = .ok (.iadd, 1) := by decide +kernel
theorem dL_law_992 : decode cL_law 992 = .ok (.iaload, 1) := by decide +kernel
theorem dL_law_993 : decode cL_law 993 = .ok (.aload_n 3, 1) := by decide +kernel
theorem dL_law_994 : decode cL_law 994 = .ok (.invokestatic 127, 3) := by decide +kernel
theorem dL_law_997 : decode cL_law 997 = .ok (.istore 5, 2) := by decide +kernel
theorem dL_law_999 : decode cL_law 999 = .ok (.aload_n 2, 1) := by decide +kernel
theorem dL_law_1000 : decode cL_law 1000 = .ok (.aload_n 0, 1) := by decide +kernel
theorem dL_law_1001 : decode cL_law 1001 = .ok (.iload 4, 2) := by decide +kernel
theorem dL_law_1003 : decode cL_law 1003 = .ok (.iconst 1, 1) := by decide +kernel
theorem dL_law_1004 : decode cL_law 1004 = .ok (.iadd, 1) := by decide +kernel
theorem dL_law_1005 : decode cL_law 1005 = .ok (.iaload, 1) := by decide +kernel
theorem dL_law_1006 : decode cL_law 1006 = .ok (.invokevirtual 129, 3) := by decide +kernel
theorem dL_law_1009 : decode cL_law 1009 = .ok (.istore 6, 2) := by decide +kernel
theorem dL_law_1011 : decode cL_law 1011 = .ok (.aload_n 2, 1) := by decide +kernel
theorem dL_law_1012 : decode cL_law 1012 = .ok (.invokevirtual 87, 3) := by decide +kernel
theorem dL_law_1015 : decode cL_law 1015 = .ok (.iload 5, 2) := by decide +kernel
theorem dL_law_1017 : decode cL_law 1017 = .ok (.if_icmp .eq 5, 3) := by decide +kernel
theorem dL_law_1020 : decode cL_law 1020 = .ok (.iconst 0, 1) := by decide +kernel
theorem dL_law_1021 : decode cL_law 1021 = .ok (.ireturn, 1) := by decide +kernel
theorem dL_law_1022 : decode cL_law 1022 = .ok (.iload 5, 2) := by decide +kernel
theorem dL_law_1024 : decode cL_law 1024 = .ok (.ifCond .ne 15, 3) := by decide +kernel
theorem dL_law_1027 : decode cL_law 1027 = .ok (.aload_n 3, 1) := by decide +kernel
theorem dL_law_1028 : decode cL_law 1028 = .ok (.iconst 0, 1) := by decide +kernel
theorem dL_law_1029 : decode cL_law 1029 = .ok (.laload, 1) := by decide +kernel
theorem dL_law_1030 : decode cL_law 1030 = .ok (.iload 6, 2) := by decide +kernel
theorem dL_law_1032 : decode cL_law 1032 = .ok (.i2l, 1) := by decide +kernel
theorem dL_law_1033 : decode cL_law 1033 = .ok (.lcmp, 1) := by decide +kernel
theorem dL_law_1034 : decode cL_law 1034 = .ok (.ifCond .eq 5, 3) := by decide +kernel
theorem dL_law_1037 : decode cL_law 1037 = .ok (.iconst 0, 1) := by decide +kernel
theorem dL_law_1038 : decode cL_law 1038 = .ok (.ireturn, 1) := by decide +kernel
theorem dL_law_1039 : decode cL_law 1039 = .ok (.goto 443, 3) := by decide +kernel
theorem dL_law_1042 : decode cL_law 1042 = .ok (.aload_n 1, 1) := by decide +kernel
theorem dL_law_1043 : decode cL_law 1043 = .ok (.aload_n 0, 1) := by decide +kernel
theorem dL_law_1044 : decode cL_law 1044 = .ok (.iload 4, 2) := by decide +kernel
theorem dL_law_1046 : decode cL_law 1046 = .ok (.iconst 1, 1) := by decide +kernel
theorem dL_law_1047 : decode cL_law 1047 = .ok (.iadd, 1) := by decide +kernel
theorem dL_law_1048 : decode cL_law 1048 = .ok (.iaload, 1) := by decide +kernel
theorem dL_law_1049 : decode cL_law 1049 = .ok (.aload_n 0, 1) := by decide +kernel
theorem dL_law_1050 : decode cL_law 1050 = .ok (.iload 4, 2) := by decide +kernel
theorem dL_law_1052 : decode cL_law 1052 = .ok (.iconst 2, 1) := by decide +kernel
theorem dL_law_1053 : decode cL_law 1053 = .ok (.iadd, 1) := by decide +kernel
theorem dL_law_1054 : decode cL_law 1054 = .ok (.iaload, 1) := by decide +kernel
theorem dL_law_1055 : decode cL_law 1055 = .ok (.aload_n 3, 1) := by decide +kernel
theorem dL_law_1056 : decode cL_law 1056 = .ok (.invokestatic 130, 3) := by decide +kernel
theorem dL_law_1059 : decode cL_law 1059 = .ok (.istore 5, 2) := by decide +kernel
theorem dL_law_1061 : decode cL_law 1061 = .ok (.aload_n 2, 1) := by decide +kernel
theorem dL_law_1062 : decode cL_law 1062 = .ok (.aload_n 0, 1) := by decide +kernel
theorem dL_law_1063 : decode cL_law 1063 = .ok (.iload 4, 2) := by decide +kernel
theorem dL_law_1065 : decode cL_law 1065 = .ok (.iconst 1, 1) := by decide +kernel
theorem dL_law_1066 : decode cL_law 1066 = .ok (.iadd, 1) := by decide +kernel
theorem dL_law_1067 : decode cL_law 1067 = .ok (.iaload, 1) := by decide +kernel
theorem dL_law_1068 : decode cL_law 1068 = .ok (.aload_n 0, 1) := by decide +kernel
theorem dL_law_1069 : decode cL_law 1069 = .ok (.iload 4, 2) := by decide +kernel
theorem dL_law_1071 : decode cL_law 1071 = .ok (.iconst 2, 1) := by decide +kernel
theorem dL_law_1072 : decode cL_law 1072 = .ok (.iadd, 1) := by decide +kernel
theorem dL_law_1073 : decode cL_law 1073 = .ok (.iaload, 1) := by decide +kernel
theorem dL_law_1074 : decode cL_law 1074 = .ok (.invokevirtual 132, 3) := by decide +kernel
theorem dL_law_1077 : decode cL_law 1077 = .ok (.istore 6, 2) := by decide +kernel
theorem dL_law_1079 : decode cL_law 1079 = .ok (.aload_n 2, 1) := by decide +kernel
theorem dL_law_1080 : decode cL_law 1080 = .ok (.invokevirtual 87, 3) := by decide +kernel
theorem dL_law_1083 : decode cL_law 1083 = .ok (.iload 5, 2) := by decide +kernel
theorem dL_law_1085 : decode cL_law 1085 = .ok (.if_icmp .eq 5, 3) := by decide +kernel
theorem dL_law_1088 : decode cL_law 1088 = .ok (.iconst 0, 1) := by decide +kernel
theorem dL_law_1089 : decode cL_law 1089 = .ok (.ireturn, 1) := by decide +kernel
theorem dL_law_1090 : decode cL_law 1090 = .ok (.iload 5, 2) := by decide +kernel
theorem dL_law_1092 : decode cL_law 1092 = .ok (.ifCond .ne 15, 3) := by decide +kernel
theorem dL_law_1095 : decode cL_law 1095 = .ok (.aload_n 3, 1) := by decide +kernel
theorem dL_law_1096 : decode cL_law 1096 = .ok (.iconst 0, 1) := by decide +kernel
theorem dL_law_1097 : decode cL_law 1097 = .ok (.laload, 1) := by decide +kernel
theorem dL_law_1098 : decode cL_law 1098 = .ok (.iload 6, 2) := by decide +kernel
theorem dL_law_1100 : decode cL_law 1100 = .ok (.i2l, 1) := by decide +kernel
theorem dL_law_1101 : decode cL_law 1101 = .ok (.lcmp, 1) := by decide +kernel
theorem dL_law_1102 : decode cL_law 1102 = .ok (.ifCond .eq 5, 3) := by decide +kernel
theorem dL_law_1105 : decode cL_law 1105 = .ok (.iconst 0, 1) := by decide +kernel
theorem dL_law_1106 : decode cL_law 1106 = .ok (.ireturn, 1) := by decide +kernel
theorem dL_law_1107 : decode cL_law 1107 = .ok (.goto 375, 3) := by decide +kernel
theorem dL_law_1110 : decode cL_law 1110 = .ok (.aload_n 1, 1) := by decide +kernel
theorem dL_law_1111 : decode cL_law 1111 = .ok (.aload_n 0, 1) := by decide +kernel
theorem dL_law_1112 : decode cL_law 1112 = .ok (.iload 4, 2) := by decide +kernel
theorem dL_law_1114 : decode cL_law 1114 = .ok (.iconst 1, 1) := by decide +kernel
theorem dL_law_1115 : decode cL_law 1115 = .ok (.iadd, 1) := by decide +kernel
theorem dL_law_1116 : decode cL_law 1116 = .ok (.iaload, 1) := by decide +kernel
theorem dL_law_1117 : decode cL_law 1117 = .ok (.aload_n 0, 1) := by decide +kernel
theorem dL_law_1118 : decode cL_law 1118 = .ok (.iload 4, 2) := by decide +kernel
theorem dL_law_1120 : decode cL_law 1120 = .ok (.iconst 2, 1) := by decide +kernel
theorem dL_law_1121 : decode cL_law 1121 = .ok (.iadd, 1) := by decide +kernel
theorem dL_law_1122 : decode cL_law 1122 = .ok (.iaload, 1) := by decide +kernel
theorem dL_law_1123 : decode cL_law 1123 = .ok (.aload_n 3, 1) := by decide +kernel
theorem dL_law_1124 : decode cL_law 1124 = .ok (.invokestatic 133, 3) := by decide +kernel
theorem dL_law_1127 : decode cL_law 1127 = .ok (.istore 5, 2) := by decide +kernel
theorem dL_law_1129 : decode cL_law 1129 = .ok (.aload_n 2, 1) := by decide +kernel
theorem dL_law_1130 : decode cL_law 1130 = .ok (.aload_n 0, 1) := by decide +kernel
theorem dL_law_1131 : decode cL_law 1131 = .ok (.iload 4, 2) := by decide +kernel
theorem dL_law_1133 : decode cL_law 1133 = .ok (.iconst 1, 1) := by decide +kernel
theorem dL_law_1134 : decode cL_law 1134 = .ok (.iadd, 1) := by decide +kernel
theorem dL_law_1135 : decode cL_law 1135 = .ok (.iaload, 1) := by decide +kernel
theorem dL_law_1136 : decode cL_law 1136 = .ok (.aload_n 0, 1) := by decide +kernel
theorem dL_law_1137 : decode cL_law 1137 = .ok (.iload 4, 2) := by decide +kernel
theorem dL_law_1139 : decode cL_law 1139 = .ok (.iconst 2, 1) := by decide +kernel
theorem dL_law_1140 : decode cL_law 1140 = .ok (.iadd, 1) := by decide +kernel
theorem dL_law_1141 : decode cL_law 1141 = .ok (.iaload, 1) := by decide +kernel
theorem dL_law_1142 : decode cL_law 1142 = .ok (.invokevirtual 135, 3) := by decide +kernel
theorem dL_law_1145 : decode cL_law 1145 = .ok (.istore 6, 2) := by decide +kernel
theorem dL_law_1147 : decode cL_law 1147 = .ok (.aload_n 2, 1) := by decide +kernel
theorem dL_law_1148 : decode cL_law 1148 = .ok (.invokevirtual 87, 3) := by decide +kernel
theorem dL_law_1151 : decode cL_law 1151 = .ok (.iload 5, 2) := by decide +kernel
theorem dL_law_1153 : decode cL_law 1153 = .ok (.if_icmp .eq 5, 3) := by decide +kernel
theorem dL_law_1156 : decode cL_law 1156 = .ok (.iconst 0, 1) := by decide +kernel
theorem dL_law_1157 : decode cL_law 1157 = .ok (.ireturn, 1) := by decide +kernel
theorem dL_law_1158 : decode cL_law 1158 = .ok (.iload 5, 2) := by decide +kernel
theorem dL_law_1160 : decode cL_law 1160 = .ok (.ifCond .ne 15, 3) := by decide +kernel
theorem dL_law_1163 : decode cL_law 1163 = .ok (.aload_n 3, 1) := by decide +kernel
theorem dL_law_1164 : decode cL_law 1164 = .ok (.iconst 0, 1) := by decide +kernel
theorem dL_law_1165 : decode cL_law 1165 = .ok (.laload, 1) := by decide +kernel
theorem dL_law_1166 : decode cL_law 1166 = .ok (.iload 6, 2) := by decide +kernel
theorem dL_law_1168 : decode cL_law 1168 = .ok (.i2l, 1) := by decide +kernel
theorem dL_law_1169 : decode cL_law 1169 = .ok (.lcmp, 1) := by decide +kernel
theorem dL_law_1170 : decode cL_law 1170 = .ok (.ifCond .eq 5, 3) := by decide +kernel
theorem dL_law_1173 : decode cL_law 1173 = .ok (.iconst 0, 1) := by decide +kernel
theorem dL_law_1174 : decode cL_law 1174 = .ok (.ireturn, 1) := by decide +kernel
theorem dL_law_1175 : decode cL_law 1175 = .ok (.goto 307, 3) := by decide +kernel
theorem dL_law_1178 : decode cL_law 1178 = .ok (.aload_n 1, 1) := by decide +kernel
theorem dL_law_1179 : decode cL_law 1179 = .ok (.aload_n 0, 1) := by decide +kernel
theorem dL_law_1180 : decode cL_law 1180 = .ok (.iload 4, 2) := by decide +kernel
theorem dL_law_1182 : decode cL_law 1182 = .ok (.iconst 1, 1) := by decide +kernel
theorem dL_law_1183 : decode cL_law 1183 = .ok (.iadd, 1) := by decide +kernel
theorem dL_law_1184 : decode cL_law 1184 = .ok (.iaload, 1) := by decide +kernel
theorem dL_law_1185 : decode cL_law 1185 = .ok (.aload_n 3, 1) := by decide +kernel
theorem dL_law_1186 : decode cL_law 1186 = .ok (.invokestatic 136, 3) := by decide +kernel
theorem dL_law_1189 : decode cL_law 1189 = .ok (.istore 5, 2) := by decide +kernel
theorem dL_law_1191 : decode cL_law 1191 = .ok (.aload_n 2, 1) := by decide +kernel
theorem dL_law_1192 : decode cL_law 1192 = .ok (.aload_n 0, 1) := by decide +kernel
theorem dL_law_1193 : decode cL_law 1193 = .ok (.iload 4, 2) := by decide +kernel
theorem dL_law_1195 : decode cL_law 1195 = .ok (.iconst 1, 1) := by decide +kernel
theorem dL_law_1196 : decode cL_law 1196 = .ok (.iadd, 1) := by decide +kernel
theorem dL_law_1197 : decode cL_law 1197 = .ok (.iaload, 1) := by decide +kernel
theorem dL_law_1198 : decode cL_law 1198 = .ok (.invokevirtual 138, 3) := by decide +kernel
theorem dL_law_1201 : decode cL_law 1201 = .ok (.istore 6, 2) := by decide +kernel
theorem dL_law_1203 : decode cL_law 1203 = .ok (.aload_n 2, 1) := by decide +kernel
theorem dL_law_1204 : decode cL_law 1204 = .ok (.invokevirtual 87, 3) := by decide +kernel
theorem dL_law_1207 : decode cL_law 1207 = .ok (.iload 5, 2) := by decide +kernel
theorem dL_law_1209 : decode cL_law 1209 = .ok (.if_icmp .eq 5, 3) := by decide +kernel
theorem dL_law_1212 : decode cL_law 1212 = .ok (.iconst 0, 1) := by decide +kernel
theorem dL_law_1213 : decode cL_law 1213 = .ok (.ireturn, 1) := by decide +kernel
theorem dL_law_1214 : decode cL_law 1214 = .ok (.iload 5, 2) := by decide +kernel
theorem dL_law_1216 : decode cL_law 1216 = .ok (.ifCond .ne 15, 3) := by decide +kernel
theorem dL_law_1219 : decode cL_law 1219 = .ok (.aload_n 3, 1) := by decide +kernel
theorem dL_law_1220 : decode cL_law 1220 = .ok (.iconst 0, 1) := by decide +kernel
theorem dL_law_1221 : decode cL_law 1221 = .ok (.laload, 1) := by decide +kernel
theorem dL_law_1222 : decode cL_law 1222 = .ok (.iload 6, 2) := by decide +kernel
theorem dL_law_1224 : decode cL_law 1224 = .ok (.i2l, 1) := by decide +kernel
theorem dL_law_1225 : decode cL_law 1225 = .ok (.lcmp, 1) := by decide +kernel
theorem dL_law_1226 : decode cL_law 1226 = .ok (.ifCond .eq 5, 3) := by decide +kernel
theorem dL_law_1229 : decode cL_law 1229 = .ok (.iconst 0, 1) := by decide +kernel
theorem dL_law_1230 : decode cL_law 1230 = .ok (.ireturn, 1) := by decide +kernel
theorem dL_law_1231 : decode cL_law 1231 = .ok (.goto 251, 3) := by decide +kernel
theorem dL_law_1234 : decode cL_law 1234 = .ok (.aload_n 1, 1) := by decide +kernel
theorem dL_law_1235 : decode cL_law 1235 = .ok (.aload_n 0, 1) := by decide +kernel
theorem dL_law_1236 : decode cL_law 1236 = .ok (.iload 4, 2) := by decide +kernel
theorem dL_law_1238 : decode cL_law 1238 = .ok (.iconst 1, 1) := by decide +kernel
theorem dL_law_1239 : decode cL_law 1239 = .ok (.iadd, 1) := by decide +kernel
theorem dL_law_1240 : decode cL_law 1240 = .ok (.iaload, 1) := by decide +kernel
theorem dL_law_1241 : decode cL_law 1241 = .ok (.aload_n 3, 1) := by decide +kernel
theorem dL_law_1242 : decode cL_law 1242 = .ok (.invokestatic 139, 3) := by decide +kernel
theorem dL_law_1245 : decode cL_law 1245 = .ok (.istore 5, 2) := by decide +kernel
theorem dL_law_1247 : decode cL_law 1247 = .ok (.aload_n 2, 1) := by decide +kernel
theorem dL_law_1248 : decode cL_law 1248 = .ok (.aload_n 0, 1) := by decide +kernel
theorem dL_law_1249 : decode cL_law 1249 = .ok (.iload 4, 2) := by decide +kernel
theorem dL_law_1251 : decode cL_law 1251 = .ok (.iconst 1, 1) := by decide +kernel
theorem dL_law_1252 : decode cL_law 1252 = .ok (.iadd, 1) := by decide +kernel
theorem dL_law_1253 : decode cL_law 1253 = .ok (.iaload, 1) := by decide +kernel
theorem dL_law_1254 : decode cL_law 1254 = .ok (.invokevirtual 141, 3) := by decide +kernel
theorem dL_law_1257 : decode cL_law 1257 = .ok (.istore 6, 2) := by decide +kernel
theorem dL_law_1259 : decode cL_law 1259 = .ok (.aload_n 2, 1) := by decide +kernel
theorem dL_law_1260 : decode cL_law 1260 = .ok (.invokevirtual 87, 3) := by decide +kernel
theorem dL_law_1263 : decode cL_law 1263 = .ok (.iload 5, 2) := by decide +kernel
theorem dL_law_1265 : decode cL_law 1265 = .ok (.if_icmp .eq 5, 3) := by decide +kernel
theorem dL_law_1268 : decode cL_law 1268 = .ok (.iconst 0, 1) := by decide +kernel
theorem dL_law_1269 : decode cL_law 1269 = .ok (.ireturn, 1) := by decide +kernel
theorem dL_law_1270 : decode cL_law 1270 = .ok (.iload 5, 2) := by decide +kernel
theorem dL_law_1272 : decode cL_law 1272 = .ok (.ifCond .ne 15, 3) := by decide +kernel
theorem dL_law_1275 : decode cL_law 1275 = .ok (.aload_n 3, 1) := by decide +kernel
theorem dL_law_1276 : decode cL_law 1276 = .ok (.iconst 0, 1) := by decide +kernel
theorem dL_law_1277 : decode cL_law 1277 = .ok (.laload, 1) := by decide +kernel
theorem dL_law_1278 : decode cL_law 1278 = .ok (.iload 6, 2) := by decide +kernel
theorem dL_law_1280 : decode cL_law 1280 = .ok (.i2l, 1) := by decide +kernel
theorem dL_law_1281 : decode cL_law 1281 = .ok (.lcmp, 1) := by decide +kernel
theorem dL_law_1282 : decode cL_law 1282 = .ok (.ifCond .eq 5, 3) := by decide +kernel
theorem dL_law_1285 : decode cL_law 1285 = .ok (.iconst 0, 1) := by decide +kernel
theorem dL_law_1286 : decode cL_law 1286 = .ok (.ireturn, 1) := by decide +kernel
theorem dL_law_1287 : decode cL_law 1287 = .ok (.goto 195, 3) := by decide +kernel
theorem dL_law_1290 : decode cL_law 1290 = .ok (.aload_n 1, 1) := by decide +kernel
theorem dL_law_1291 : decode cL_law 1291 = .ok (.aload_n 0, 1) := by decide +kernel
theorem dL_law_1292 : decode cL_law 1292 = .ok (.iload 4, 2) := by decide +kernel
theorem dL_law_1294 : decode cL_law 1294 = .ok (.iconst 1, 1) := by decide +kernel
theorem dL_law_1295 : decode cL_law 1295 = .ok (.iadd, 1) := by decide +kernel
theorem dL_law_1296 : decode cL_law 1296 = .ok (.iaload, 1) := by decide +kernel
theorem dL_law_1297 : decode cL_law 1297 = .ok (.aload_n 0, 1) := by decide +kernel
theorem dL_law_1298 : decode cL_law 1298 = .ok (.iload 4, 2) := by decide +kernel
theorem dL_law_1300 : decode cL_law 1300 = .ok (.iconst 2, 1) := by decide +kernel
theorem dL_law_1301 : decode cL_law 1301 = .ok (.iadd, 1) := by decide +kernel
theorem dL_law_1302 : decode cL_law 1302 = .ok (.iaload, 1) := by decide +kernel
theorem dL_law_1303 : decode cL_law 1303 = .ok (.aload_n 3, 1) := by decide +kernel
theorem dL_law_1304 : decode cL_law 1304 = .ok (.invokestatic 142, 3) := by decide +kernel
theorem dL_law_1307 : decode cL_law 1307 = .ok (.istore 5, 2) := by decide +kernel
theorem dL_law_1309 : decode cL_law 1309 = .ok (.aload_n 2, 1) := by decide +kernel
theorem dL_law_1310 : decode cL_law 1310 = .ok (.aload_n 0, 1) := by decide +kernel
theorem dL_law_1311 : decode cL_law 1311 = .ok (.iload 4, 2) := by decide +kernel
theorem dL_law_1313 : decode cL_law 1313 = .ok (.iconst 1, 1) := by decide +kernel
theorem dL_law_1314 : decode cL_law 1314 = .ok (.iadd, 1) := by decide +kernel
theorem dL_law_1315 : decode cL_law 1315 = .ok (.iaload, 1) := by decide +kernel
theorem dL_law_1316 : decode cL_law 1316 = .ok (.aload_n 0, 1) := by decide +kernel
theorem dL_law_1317 : decode cL_law 1317 = .ok (.iload 4, 2) := by decide +kernel
theorem dL_law_1319 : decode cL_law 1319 = .ok (.iconst 2, 1) := by decide +kernel
theorem dL_law_1320 : decode cL_law 1320 = .ok (.iadd, 1) := by decide +kernel
theorem dL_law_1321 : decode cL_law 1321 = .ok (.iaload, 1) := by decide +kernel
theorem dL_law_1322 : decode cL_law 1322 = .ok (.invokevirtual 144, 3) := by decide +kernel
theorem dL_law_1325 : decode cL_law 1325 = .ok (.istore 6, 2) := by decide +kernel
theorem dL_law_1327 : decode cL_law 1327 = .ok (.aload_n 2, 1) := by decide +kernel
theorem dL_law_1328 : decode cL_law 1328 = .ok (.invokevirtual 87, 3) := by decide +kernel
theorem dL_law_1331 : decode cL_law 1331 = .ok (.iload 5, 2) := by decide +kernel
theorem dL_law_1333 : decode cL_law 1333 = .ok (.if_icmp .eq 5, 3) := by decide +kernel
theorem dL_law_1336 : decode cL_law 1336 = .ok (.iconst 0, 1) := by decide +kernel
theorem dL_law_1337 : decode cL_law 1337 = .ok (.ireturn, 1) := by decide +kernel
theorem dL_law_1338 : decode cL_law 1338 = .ok (.iload 5, 2) := by decide +kernel
theorem dL_law_1340 : decode cL_law 1340 = .ok (.ifCond .ne 15, 3) := by decide +kernel
theorem dL_law_1343 : decode cL_law 1343 = .ok (.aload_n 3, 1) := by decide +kernel
theorem dL_law_1344 : decode cL_law 1344 = .ok (.iconst 0, 1) := by decide +kernel
theorem dL_law_1345 : decode cL_law 1345 = .ok (.laload, 1) := by decide +kernel
theorem dL_law_1346 : decode cL_law 1346 = .ok (.iload 6, 2) := by decide +kernel
theorem dL_law_1348 : decode cL_law 1348 = .ok (.i2l, 1) := by decide +kernel
theorem dL_law_1349 : decode cL_law 1349 = .ok (.lcmp, 1) := by decide +kernel
theorem dL_law_1350 : decode cL_law 1350 = .ok (.ifCond .eq 5, 3) := by decide +kernel
theorem dL_law_1353 : decode cL_law 1353 = .ok (.iconst 0, 1) := by decide +kernel
theorem dL_law_1354 : decode cL_law 1354 = .ok (.ireturn, 1) := by decide +kernel
theorem dL_law_1355 : decode cL_law 1355 = .ok (.goto 127, 3) := by decide +kernel
theorem dL_law_1358 : decode cL_law 1358 = .ok (.aload_n 1, 1) := by decide +kernel
theorem dL_law_1359 : decode cL_law 1359 = .ok (.aload_n 0, 1) := by decide +kernel
theorem dL_law_1360 : decode cL_law 1360 = .ok (.iload 4, 2) := by decide +kernel
theorem dL_law_1362 : decode cL_law 1362 = .ok (.iconst 1, 1) := by decide +kernel
theorem dL_law_1363 : decode cL_law 1363 = .ok (.iadd, 1) := by decide +kernel
theorem dL_law_1364 : decode cL_law 1364 = .ok (.iaload, 1) := by decide +kernel
theorem dL_law_1365 : decode cL_law 1365 = .ok (.aload_n 3, 1) := by decide +kernel
theorem dL_law_1366 : decode cL_law 1366 = .ok (.invokestatic 145, 3) := by decide +kernel
theorem dL_law_1369 : decode cL_law 1369 = .ok (.istore 5, 2) := by decide +kernel
theorem dL_law_1371 : decode cL_law 1371 = .ok (.aload_n 2, 1) := by decide +kernel
theorem dL_law_1372 : decode cL_law 1372 = .ok (.aload_n 0, 1) := by decide +kernel
theorem dL_law_1373 : decode cL_law 1373 = .ok (.iload 4, 2) := by decide +kernel
theorem dL_law_1375 : decode cL_law 1375 = .ok (.iconst 1, 1) := by decide +kernel
theorem dL_law_1376 : decode cL_law 1376 = .ok (.iadd, 1) := by decide +kernel
theorem dL_law_1377 : decode cL_law 1377 = .ok (.iaload, 1) := by decide +kernel
theorem dL_law_1378 : decode cL_law 1378 = .ok (.invokevirtual 147, 3) := by decide +kernel
theorem dL_law_1381 : decode cL_law 1381 = .ok (.istore 6, 2) := by decide +kernel
theorem dL_law_1383 : decode cL_law 1383 = .ok (.aload_n 2, 1) := by decide +kernel
theorem dL_law_1384 : decode cL_law 1384 = .ok (.invokevirtual 87, 3) := by decide +kernel
theorem dL_law_1387 : decode cL_law 1387 = .ok (.iload 5, 2) := by decide +kernel
theorem dL_law_1389 : decode cL_law 1389 = .ok (.if_icmp .eq 5, 3) := by decide +kernel
theorem dL_law_1392 : decode cL_law 1392 = .ok (.iconst 0, 1) := by decide +kernel
theorem dL_law_1393 : decode cL_law 1393 = .ok (.ireturn, 1) := by decide +kernel
theorem dL_law_1394 : decode cL_law 1394 = .ok (.iload 5, 2) := by decide +kernel
theorem dL_law_1396 : decode cL_law 1396 = .ok (.ifCond .ne 15, 3) := by decide +kernel
theorem dL_law_1399 : decode cL_law 1399 = .ok (.aload_n 3, 1) := by decide +kernel
theorem dL_law_1400 : decode cL_law 1400 = .ok (.iconst 0, 1) := by decide +kernel
theorem dL_law_1401 : decode cL_law 1401 = .ok (.laload, 1) := by decide +kernel
theorem dL_law_1402 : decode cL_law 1402 = .ok (.iload 6, 2) := by decide +kernel
theorem dL_law_1404 : decode cL_law 1404 = .ok (.i2l, 1) := by decide +kernel
theorem dL_law_1405 : decode cL_law 1405 = .ok (.lcmp, 1) := by decide +kernel
theorem dL_law_1406 : decode cL_law 1406 = .ok (.ifCond .eq 5, 3) := by decide +kernel
theorem dL_law_1409 : decode cL_law 1409 = .ok (.iconst 0, 1) := by decide +kernel
theorem dL_law_1410 : decode cL_law 1410 = .ok (.ireturn, 1) := by decide +kernel
theorem dL_law_1411 : decode cL_law 1411 = .ok (.goto 71, 3) := by decide +kernel
theorem dL_law_1414 : decode cL_law 1414 = .ok (.aload_n 1, 1) := by decide +kernel
theorem dL_law_1415 : decode cL_law 1415 = .ok (.invokevirtual 148, 3) := by decide +kernel
theorem dL_law_1418 : decode cL_law 1418 = .ok (.aload_n 2, 1) := by decide +kernel
theorem dL_law_1419 : decode cL_law 1419 = .ok (.invokevirtual 151, 3) := by decide +kernel
theorem dL_law_1422 : decode cL_law 1422 = .ok (.if_icmp .eq 60, 3) := by decide +kernel
theorem dL_law_1425 : decode cL_law 1425 = .ok (.iconst 0, 1) := by decide +kernel
theorem dL_law_1426 : decode cL_law 1426 = .ok (.ireturn, 1) := by decide +kernel
theorem dL_law_1427 : decode cL_law 1427 = .ok (.aload_n 1, 1) := by decide +kernel
theorem dL_law_1428 : decode cL_law 1428 = .ok (.invokevirtual 152, 3) := by decide +kernel
theorem dL_law_1431 : decode cL_law 1431 = .ok (.dstore 5, 2) := by decide +kernel
theorem dL_law_1433 : decode cL_law 1433 = .ok (.aload_n 2, 1) := by decide +kernel
theorem dL_law_1434 : decode cL_law 1434 = .ok (.invokevirtual 156, 3) := by decide +kernel
theorem dL_law_1437 : decode cL_law 1437 = .ok (.dstore 7, 2) := by decide +kernel
theorem dL_law_1439 : decode cL_law 1439 = .ok (.dload 5, 2) := by decide +kernel
theorem dL_law_1441 : decode cL_law 1441 = .ok (.dload 7, 2) := by decide +kernel
theorem dL_law_1443 : decode cL_law 1443 = .ok (.dcmp .l, 1) := by decide +kernel
theorem dL_law_1444 : decode cL_law 1444 = .ok (.ifCond .eq 21, 3) := by decide +kernel
theorem dL_law_1447 : decode cL_law 1447 = .ok (.dload 5, 2) := by decide +kernel
theorem dL_law_1449 : decode cL_law 1449 = .ok (.dload 5, 2) := by decide +kernel
theorem dL_law_1451 : decode cL_law 1451 = .ok (.dcmp .l, 1) := by decide +kernel
theorem dL_law_1452 : decode cL_law 1452 = .ok (.ifCond .eq 11, 3) := by decide +kernel
theorem dL_law_1455 : decode cL_law 1455 = .ok (.dload 7, 2) := by decide +kernel
theorem dL_law_1457 : decode cL_law 1457 = .ok (.dload 7, 2) := by decide +kernel
theorem dL_law_1459 : decode cL_law 1459 = .ok (.dcmp .l, 1) := by decide +kernel
theorem dL_law_1460 : decode cL_law 1460 = .ok (.ifCond .ne 5, 3) := by decide +kernel
theorem dL_law_1463 : decode cL_law 1463 = .ok (.iconst 0, 1) := by decide +kernel
theorem dL_law_1464 : decode cL_law 1464 = .ok (.ireturn, 1) := by decide +kernel
theorem dL_law_1465 : decode cL_law 1465 = .ok (.goto 17, 3) := by decide +kernel
theorem dL_law_1468 : decode cL_law 1468 = .ok (.aload_n 1, 1) := by decide +kernel
theorem dL_law_1469 : decode cL_law 1469 = .ok (.invokevirtual 157, 3) := by decide +kernel
theorem dL_law_1472 : decode cL_law 1472 = .ok (.aload_n 2, 1) := by decide +kernel
theorem dL_law_1473 : decode cL_law 1473 = .ok (.invokevirtual 161, 3) := by decide +kernel
theorem dL_law_1476 : decode cL_law 1476 = .ok (.lcmp, 1) := by decide +kernel
theorem dL_law_1477 : decode cL_law 1477 = .ok (.ifCond .eq 5, 3) := by decide +kernel
theorem dL_law_1480 : decode cL_law 1480 = .ok (.iconst 0, 1) := by decide +kernel
theorem dL_law_1481 : decode cL_law 1481 = .ok (.ireturn, 1) := by decide +kernel
theorem dL_law_1482 : decode cL_law 1482 = .ok (.iinc 4 4, 3) := by decide +kernel
theorem dL_law_1485 : decode cL_law 1485 = .ok (.goto (-1462), 3) := by decide +kernel
theorem dL_law_1488 : decode cL_law 1488 = .ok (.iconst 1, 1) := by decide +kernel
theorem dL_law_1489 : decode cL_law 1489 = .ok (.ireturn, 1) := by decide +kernel
