theorem d_M_seen_0 : decode zm_M_seen.2.2.1 0 = .ok (.aload_n 0, 1) := by decide +kernel
theorem d_M_seen_1 : decode zm_M_seen.2.2.1 1 = .ok (.iload_n 1, 1) := by decide +kernel
theorem d_M_seen_2 : decode zm_M_seen.2.2.1 2 = .ok (.invokevirtual 221, 3) := by decide +kernel
theorem d_M_seen_5 : decode zm_M_seen.2.2.1 5 = .ok (.ifCond .ne 6, 3) := by decide +kernel
theorem d_M_seen_8 : decode zm_M_seen.2.2.1 8 = .ok (.bipush (-101), 2) := by decide +kernel
theorem d_M_seen_10 : decode zm_M_seen.2.2.1 10 = .ok (.ireturn, 1) := by decide +kernel
theorem d_M_seen_11 : decode zm_M_seen.2.2.1 11 = .ok (.iload_n 2, 1) := by decide +kernel
theorem d_M_seen_12 : decode zm_M_seen.2.2.1 12 = .ok (.iconst 0, 1) := by decide +kernel
theorem d_M_seen_13 : decode zm_M_seen.2.2.1 13 = .ok (.iconst 3, 1) := by decide +kernel
theorem d_M_seen_14 : decode zm_M_seen.2.2.1 14 = .ok (.invokestatic 72, 3) := by decide +kernel
theorem d_M_seen_17 : decode zm_M_seen.2.2.1 17 = .ok (.ifCond .eq 12, 3) := by decide +kernel
theorem d_M_seen_20 : decode zm_M_seen.2.2.1 20 = .ok (.aload_n 0, 1) := by decide +kernel
theorem d_M_seen_21 : decode zm_M_seen.2.2.1 21 = .ok (.iload_n 1, 1) := by decide +kernel
theorem d_M_seen_22 : decode zm_M_seen.2.2.1 22 = .ok (.iload_n 2, 1) := by decide +kernel
theorem d_M_seen_23 : decode zm_M_seen.2.2.1 23 = .ok (.invokevirtual 227, 3) := by decide +kernel
theorem d_M_seen_26 : decode zm_M_seen.2.2.1 26 = .ok (.goto 5, 3) := by decide +kernel
theorem d_M_seen_29 : decode zm_M_seen.2.2.1 29 = .ok (.bipush (-102), 2) := by decide +kernel
theorem d_M_seen_31 : decode zm_M_seen.2.2.1 31 = .ok (.ireturn, 1) := by decide +kernel
theorem d_M_has_0 : decode zm_M_has.2.2.1 0 = .ok (.iload_n 0, 1) := by decide +kernel
theorem d_M_has_1 : decode zm_M_has.2.2.1 1 = .ok (.iload_n 1, 1) := by decide +kernel
theorem d_M_has_2 : decode zm_M_has.2.2.1 2 = .ok (.ishr, 1) := by decide +kernel
theorem d_M_has_3 : decode zm_M_has.2.2.1 3 = .ok (.iconst 1, 1) := by decide +kernel
theorem d_M_has_4 : decode zm_M_has.2.2.1 4 = .ok (.iand, 1) := by decide +kernel
theorem d_M_has_5 : decode zm_M_has.2.2.1 5 = .ok (.iconst 1, 1) := by decide +kernel
theorem d_M_has_6 : decode zm_M_has.2.2.1 6 = .ok (.if_icmp .ne 7, 3) := by decide +kernel
theorem d_M_has_9 : decode zm_M_has.2.2.1 9 = .ok (.iconst 1, 1) := by decide +kernel
theorem d_M_has_10 : decode zm_M_has.2.2.1 10 = .ok (.goto 4, 3) := by decide +kernel
theorem d_M_has_13 : decode zm_M_has.2.2.1 13 = .ok (.iconst 0, 1) := by decide +kernel
theorem d_M_has_14 : decode zm_M_has.2.2.1 14 = .ok (.ireturn, 1) := by decide +kernel
theorem d_M_layAhead_0 : decode zm_M_layAhead.2.2.1 0 = .ok (.aload_n 0, 1) := by decide +kernel
theorem d_M_layAhead_1 : decode zm_M_layAhead.2.2.1 1 = .ok (.iconst 0, 1) := by decide +kernel
theorem d_M_layAhead_2 : decode zm_M_layAhead.2.2.1 2 = .ok (.putfield 230, 3) := by decide +kernel
theorem d_M_layAhead_5 : decode zm_M_layAhead.2.2.1 5 = .ok (.iconst 0, 1) := by decide +kernel
theorem d_M_layAhead_6 : decode zm_M_layAhead.2.2.1 6 = .ok (.istore_n 2, 1) := by decide +kernel
theorem d_M_layAhead_7 : decode zm_M_layAhead.2.2.1 7 = .ok (.iload_n 2, 1) := by decide +kernel
theorem d_M_layAhead_8 : decode zm_M_layAhead.2.2.1 8 = .ok (.bipush 6, 2) := by decide +kernel
theorem d_M_layAhead_10 : decode zm_M_layAhead.2.2.1 10 = .ok (.if_icmp .ge 16, 3) := by decide +kernel
theorem d_M_layAhead_13 : decode zm_M_layAhead.2.2.1 13 = .ok (.aload_n 0, 1) := by decide +kernel
theorem d_M_layAhead_14 : decode zm_M_layAhead.2.2.1 14 = .ok (.getfield 60, 3) := by decide +kernel
theorem d_M_layAhead_17 : decode zm_M_layAhead.2.2.1 17 = .ok (.iload_n 2, 1) := by decide +kernel
theorem d_M_layAhead_18 : decode zm_M_layAhead.2.2.1 18 = .ok (.iconst 0, 1) := by decide +kernel
theorem d_M_layAhead_19 : decode zm_M_layAhead.2.2.1 19 = .ok (.iastore, 1) := by decide +kernel
theorem d_M_layAhead_20 : decode zm_M_layAhead.2.2.1 20 = .ok (.iinc 2 1, 3) := by decide +kernel
theorem d_M_layAhead_23 : decode zm_M_layAhead.2.2.1 23 = .ok (.goto (-16), 3) := by decide +kernel
theorem d_M_layAhead_26 : decode zm_M_layAhead.2.2.1 26 = .ok (.iconst 0, 1) := by decide +kernel
theorem d_M_layAhead_27 : decode zm_M_layAhead.2.2.1 27 = .ok (.istore_n 2, 1) := by decide +kernel
theorem d_M_layAhead_28 : decode zm_M_layAhead.2.2.1 28 = .ok (.iload_n 2, 1) := by decide +kernel
theorem d_M_layAhead_29 : decode zm_M_layAhead.2.2.1 29 = .ok (.aload_n 0, 1) := by decide +kernel
theorem d_M_layAhead_30 : decode zm_M_layAhead.2.2.1 30 = .ok (.getfield 215, 3) := by decide +kernel
theorem d_M_layAhead_33 : decode zm_M_layAhead.2.2.1 33 = .ok (.if_icmp .ge 138, 3) := by decide +kernel
theorem d_M_layAhead_36 : decode zm_M_layAhead.2.2.1 36 = .ok (.aload_n 0, 1) := by decide +kernel
theorem d_M_layAhead_37 : decode zm_M_layAhead.2.2.1 37 = .ok (.dup, 1) := by decide +kernel
theorem d_M_layAhead_38 : decode zm_M_layAhead.2.2.1 38 = .ok (.getfield 230, 3) := by decide +kernel
theorem d_M_layAhead_41 : decode zm_M_layAhead.2.2.1 41 = .ok (.iload_n 1, 1) := by decide +kernel
theorem d_M_layAhead_42 : decode zm_M_layAhead.2.2.1 42 = .ok (.iload_n 2, 1) := by decide +kernel
theorem d_M_layAhead_43 : decode zm_M_layAhead.2.2.1 43 = .ok (.invokestatic 233, 3) := by decide +kernel
theorem d_M_layAhead_46 : decode zm_M_layAhead.2.2.1 46 = .ok (.ifCond .eq 14, 3) := by decide +kernel
theorem d_M_layAhead_49 : decode zm_M_layAhead.2.2.1 49 = .ok (.iconst 1, 1) := by decide +kernel
theorem d_M_layAhead_50 : decode zm_M_layAhead.2.2.1 50 = .ok (.aload_n 0, 1) := by decide +kernel
theorem d_M_layAhead_51 : decode zm_M_layAhead.2.2.1 51 = .ok (.getfield 26, 3) := by decide +kernel
theorem d_M_layAhead_54 : decode zm_M_layAhead.2.2.1 54 = .ok (.iload_n 2, 1) := by decide +kernel
theorem d_M_layAhead_55 : decode zm_M_layAhead.2.2.1 55 = .ok (.iaload, 1) := by decide +kernel
theorem d_M_layAhead_56 : decode zm_M_layAhead.2.2.1 56 = .ok (.ishl, 1) := by decide +kernel
theorem d_M_layAhead_57 : decode zm_M_layAhead.2.2.1 57 = .ok (.goto 4, 3) := by decide +kernel
theorem d_M_layAhead_60 : decode zm_M_layAhead.2.2.1 60 = .ok (.iconst 0, 1) := by decide +kernel
theorem d_M_layAhead_61 : decode zm_M_layAhead.2.2.1 61 = .ok (.ior, 1) := by decide +kernel
theorem d_M_layAhead_62 : decode zm_M_layAhead.2.2.1 62 = .ok (.putfield 230, 3) := by decide +kernel
theorem d_M_layAhead_65 : decode zm_M_layAhead.2.2.1 65 = .ok (.iconst 0, 1) := by decide +kernel
theorem d_M_layAhead_66 : decode zm_M_layAhead.2.2.1 66 = .ok (.istore_n 3, 1) := by decide +kernel
theorem d_M_layAhead_67 : decode zm_M_layAhead.2.2.1 67 = .ok (.iload_n 3, 1) := by decide +kernel
theorem d_M_layAhead_68 : decode zm_M_layAhead.2.2.1 68 = .ok (.aload_n 0, 1) := by decide +kernel
theorem d_M_layAhead_69 : decode zm_M_layAhead.2.2.1 69 = .ok (.getfield 215, 3) := by decide +kernel
theorem d_M_layAhead_72 : decode zm_M_layAhead.2.2.1 72 = .ok (.if_icmp .ge 93, 3) := by decide +kernel
theorem d_M_layAhead_75 : decode zm_M_layAhead.2.2.1 75 = .ok (.iload_n 1, 1) := by decide +kernel
theorem d_M_layAhead_76 : decode zm_M_layAhead.2.2.1 76 = .ok (.iload_n 2, 1) := by decide +kernel
theorem d_M_layAhead_77 : decode zm_M_layAhead.2.2.1 77 = .ok (.invokestatic 233, 3) := by decide +kernel
theorem d_M_layAhead_80 : decode zm_M_layAhead.2.2.1 80 = .ok (.ifCond .eq 45, 3) := by decide +kernel
theorem d_M_layAhead_83 : decode zm_M_layAhead.2.2.1 83 = .ok (.iload_n 1, 1) := by decide +kernel
theorem d_M_layAhead_84 : decode zm_M_layAhead.2.2.1 84 = .ok (.iload_n 3, 1) := by decide +kernel
theorem d_M_layAhead_85 : decode zm_M_layAhead.2.2.1 85 = .ok (.invokestatic 233, 3) := by decide +kernel
theorem d_M_layAhead_88 : decode zm_M_layAhead.2.2.1 88 = .ok (.ifCond .eq 37, 3) := by decide +kernel
theorem d_M_layAhead_91 : decode zm_M_layAhead.2.2.1 91 = .ok (.aload_n 0, 1) := by decide +kernel
theorem d_M_layAhead_92 : decode zm_M_layAhead.2.2.1 92 = .ok (.getfield 23, 3) := by decide +kernel
theorem d_M_layAhead_95 : decode zm_M_layAhead.2.2.1 95 = .ok (.iload_n 2, 1) := by decide +kernel
theorem d_M_layAhead_96 : decode zm_M_layAhead.2.2.1 96 = .ok (.iaload, 1) := by decide +kernel
theorem d_M_layAhead_97 : decode zm_M_layAhead.2.2.1 97 = .ok (.aload_n 0, 1) := by decide +kernel
theorem d_M_layAhead_98 : decode zm_M_layAhead.2.2.1 98 = .ok (.getfield 23, 3) := by decide +kernel
theorem d_M_layAhead_101 : decode zm_M_layAhead.2.2.1 101 = .ok (.iload_n 3, 1) := by decide +kernel
theorem d_M_layAhead_102 : decode zm_M_layAhead.2.2.1 102 = .ok (.iaload, 1) := by decide +kernel
theorem d_M_layAhead_103 : decode zm_M_layAhead.2.2.1 103 = .ok (.if_icmp .ne 22, 3) := by decide +kernel
theorem d_M_layAhead_106 : decode zm_M_layAhead.2.2.1 106 = .ok (.aload_n 0, 1) := by decide +kernel
theorem d_M_layAhead_107 : decode zm_M_layAhead.2.2.1 107 = .ok (.getfield 32, 3) := by decide +kernel
theorem d_M_layAhead_110 : decode zm_M_layAhead.2.2.1 110 = .ok (.iload_n 2, 1) := by decide +kernel
theorem d_M_layAhead_111 : decode zm_M_layAhead.2.2.1 111 = .ok (.iaload, 1) := by decide +kernel
theorem d_M_layAhead_112 : decode zm_M_layAhead.2.2.1 112 = .ok (.aload_n 0, 1) := by decide +kernel
theorem d_M_layAhead_113 : decode zm_M_layAhead.2.2.1 113 = .ok (.getfield 32, 3) := by decide +kernel
theorem d_M_layAhead_116 : decode zm_M_layAhead.2.2.1 116 = .ok (.iload_n 3, 1) := by decide +kernel
theorem d_M_layAhead_117 : decode zm_M_layAhead.2.2.1 117 = .ok (.iaload, 1) := by decide +kernel
theorem d_M_layAhead_118 : decode zm_M_layAhead.2.2.1 118 = .ok (.if_icmp .ge 7, 3) := by decide +kernel
theorem d_M_layAhead_121 : decode zm_M_layAhead.2.2.1 121 = .ok (.iconst 1, 1) := by decide +kernel
theorem d_M_layAhead_122 : decode zm_M_layAhead.2.2.1 122 = .ok (.goto 4, 3) := by decide +kernel
theorem d_M_layAhead_125 : decode zm_M_layAhead.2.2.1 125 = .ok (.iconst 0, 1) := by decide +kernel
theorem d_M_layAhead_126 : decode zm_M_layAhead.2.2.1 126 = .ok (.istore 4, 2) := by decide +kernel
theorem d_M_layAhead_128 : decode zm_M_layAhead.2.2.1 128 = .ok (.aload_n 0, 1) := by decide +kernel
theorem d_M_layAhead_129 : decode zm_M_layAhead.2.2.1 129 = .ok (.getfield 60, 3) := by decide +kernel
theorem d_M_layAhead_132 : decode zm_M_layAhead.2.2.1 132 = .ok (.aload_n 0, 1) := by decide +kernel
theorem d_M_layAhead_133 : decode zm_M_layAhead.2.2.1 133 = .ok (.getfield 26, 3) := by decide +kernel
theorem d_M_layAhead_136 : decode zm_M_layAhead.2.2.1 136 = .ok (.iload_n 2, 1) := by decide +kernel
theorem d_M_layAhead_137 : decode zm_M_layAhead.2.2.1 137 = .ok (.iaload, 1) := by decide +kernel
theorem d_M_layAhead_138 : decode zm_M_layAhead.2.2.1 138 = .ok (.dup2, 1) := by decide +kernel
theorem d_M_layAhead_139 : decode zm_M_layAhead.2.2.1 139 = .ok (.iaload, 1) := by decide +kernel
theorem d_M_layAhead_140 : decode zm_M_layAhead.2.2.1 140 = .ok (.iload 4, 2) := by decide +kernel
theorem d_M_layAhead_142 : decode zm_M_layAhead.2.2.1 142 = .ok (.ifCond .eq 14, 3) := by decide +kernel
theorem d_M_layAhead_145 : decode zm_M_layAhead.2.2.1 145 = .ok (.iconst 1, 1) := by decide +kernel
theorem d_M_layAhead_146 : decode zm_M_layAhead.2.2.1 146 = .ok (.aload_n 0, 1) := by decide +kernel
theorem d_M_layAhead_147 : decode zm_M_layAhead.2.2.1 147 = .ok (.getfield 26, 3) := by decide +kernel
theorem d_M_layAhead_150 : decode zm_M_layAhead.2.2.1 150 = .ok (.iload_n 3, 1) := by decide +kernel
theorem d_M_layAhead_151 : decode zm_M_layAhead.2.2.1 151 = .ok (.iaload, 1) := by decide +kernel
theorem d_M_layAhead_152 : decode zm_M_layAhead.2.2.1 152 = .ok (.ishl, 1) := by decide +kernel
theorem d_M_layAhead_153 : decode zm_M_layAhead.2.2.1 153 = .ok (.goto 4, 3) := by decide +kernel
theorem d_M_layAhead_156 : decode zm_M_layAhead.2.2.1 156 = .ok (.iconst 0, 1) := by decide +kernel
theorem d_M_layAhead_157 : decode zm_M_layAhead.2.2.1 157 = .ok (.ior, 1) := by decide +kernel
theorem d_M_layAhead_158 : decode zm_M_layAhead.2.2.1 158 = .ok (.iastore, 1) := by decide +kernel
theorem d_M_layAhead_159 : decode zm_M_layAhead.2.2.1 159 = .ok (.iinc 3 1, 3) := by decide +kernel
theorem d_M_layAhead_162 : decode zm_M_layAhead.2.2.1 162 = .ok (.goto (-95), 3) := by decide +kernel
theorem d_M_layAhead_165 : decode zm_M_layAhead.2.2.1 165 = .ok (.iinc 2 1, 3) := by decide +kernel
theorem d_M_layAhead_168 : decode zm_M_layAhead.2.2.1 168 = .ok (.goto (-140), 3) := by decide +kernel
theorem d_M_layAhead_171 : decode zm_M_layAhead.2.2.1 171 = .ok (.return_, 1) := by decide +kernel
theorem d_M_allSightings_0 : decode zm_M_allSightings.2.2.1 0 = .ok (.iconst 1, 1) := by decide +kernel
theorem d_M_allSightings_1 : decode zm_M_allSightings.2.2.1 1 = .ok (.aload_n 0, 1) := by decide +kernel
theorem d_M_allSightings_2 : decode zm_M_allSightings.2.2.1 2 = .ok (.getfield 215, 3) := by decide +kernel
theorem d_M_allSightings_5 : decode zm_M_allSightings.2.2.1 5 = .ok (.ishl, 1) := by decide +kernel
theorem d_M_allSightings_6 : decode zm_M_allSightings.2.2.1 6 = .ok (.iconst 1, 1) := by decide +kernel
theorem d_M_allSightings_7 : decode zm_M_allSightings.2.2.1 7 = .ok (.isub, 1) := by decide +kernel
theorem d_M_allSightings_8 : decode zm_M_allSightings.2.2.1 8 = .ok (.ireturn, 1) := by decide +kernel
theorem d_M_canBeFirst_0 : decode zm_M_canBeFirst.2.2.1 0 = .ok (.iload_n 2, 1) := by decide +kernel
theorem d_M_canBeFirst_1 : decode zm_M_canBeFirst.2.2.1 1 = .ok (.iload_n 1, 1) := by decide +kernel
theorem d_M_canBeFirst_2 : decode zm_M_canBeFirst.2.2.1 2 = .ok (.invokestatic 233, 3) := by decide +kernel
theorem d_M_canBeFirst_5 : decode zm_M_canBeFirst.2.2.1 5 = .ok (.istore_n 3, 1) := by decide +kernel
theorem d_M_canBeFirst_6 : decode zm_M_canBeFirst.2.2.1 6 = .ok (.iconst 0, 1) := by decide +kernel
theorem d_M_canBeFirst_7 : decode zm_M_canBeFirst.2.2.1 7 = .ok (.istore 4, 2) := by decide +kernel
theorem d_M_canBeFirst_9 : decode zm_M_canBeFirst.2.2.1 9 = .ok (.iload 4, 2) := by decide +kernel
theorem d_M_canBeFirst_11 : decode zm_M_canBeFirst.2.2.1 11 = .ok (.bipush 6, 2) := by decide +kernel
theorem d_M_canBeFirst_13 : decode zm_M_canBeFirst.2.2.1 13 = .ok (.if_icmp .ge 48, 3) := by decide +kernel
theorem d_M_canBeFirst_16 : decode zm_M_canBeFirst.2.2.1 16 = .ok (.iload_n 3, 1) := by decide +kernel
theorem d_M_canBeFirst_17 : decode zm_M_canBeFirst.2.2.1 17 = .ok (.ifCond .eq 36, 3) := by decide +kernel
theorem d_M_canBeFirst_20 : decode zm_M_canBeFirst.2.2.1 20 = .ok (.iload 4, 2) := by decide +kernel
theorem d_M_canBeFirst_22 : decode zm_M_canBeFirst.2.2.1 22 = .ok (.iload_n 1, 1) := by decide +kernel
theorem d_M_canBeFirst_23 : decode zm_M_canBeFirst.2.2.1 23 = .ok (.if_icmp .eq 26, 3) := by decide +kernel
theorem d_M_canBeFirst_26 : decode zm_M_canBeFirst.2.2.1 26 = .ok (.iload_n 2, 1) := by decide +kernel
theorem d_M_canBeFirst_27 : decode zm_M_canBeFirst.2.2.1 27 = .ok (.iload 4, 2) := by decide +kernel
theorem d_M_canBeFirst_29 : decode zm_M_canBeFirst.2.2.1 29 = .ok (.invokestatic 233, 3) := by decide +kernel
theorem d_M_canBeFirst_32 : decode zm_M_canBeFirst.2.2.1 32 = .ok (.ifCond .eq 17, 3) := by decide +kernel
theorem d_M_canBeFirst_35 : decode zm_M_canBeFirst.2.2.1 35 = .ok (.aload_n 0, 1) := by decide +kernel
theorem d_M_canBeFirst_36 : decode zm_M_canBeFirst.2.2.1 36 = .ok (.getfield 60, 3) := by decide +kernel
theorem d_M_canBeFirst_39 : decode zm_M_canBeFirst.2.2.1 39 = .ok (.iload 4, 2) := by decide +kernel
theorem d_M_canBeFirst_41 : decode zm_M_canBeFirst.2.2.1 41 = .ok (.iaload, 1) := by decide +kernel
theorem d_M_canBeFirst_42 : decode zm_M_canBeFirst.2.2.1 42 = .ok (.iload_n 1, 1) := by decide +kernel
theorem d_M_canBeFirst_43 : decode zm_M_canBeFirst.2.2.1 43 = .ok (.invokestatic 233, 3) := by decide +kernel
theorem d_M_canBeFirst_46 : decode zm_M_canBeFirst.2.2.1 46 = .ok (.ifCond .ne 7, 3) := by decide +kernel
theorem d_M_canBeFirst_49 : decode zm_M_canBeFirst.2.2.1 49 = .ok (.iconst 1, 1) := by decide +kernel
theorem d_M_canBeFirst_50 : decode zm_M_canBeFirst.2.2.1 50 = .ok (.goto 4, 3) := by decide +kernel
theorem d_M_canBeFirst_53 : decode zm_M_canBeFirst.2.2.1 53 = .ok (.iconst 0, 1) := by decide +kernel
theorem d_M_canBeFirst_54 : decode zm_M_canBeFirst.2.2.1 54 = .ok (.istore_n 3, 1) := by decide +kernel
theorem d_M_canBeFirst_55 : decode zm_M_canBeFirst.2.2.1 55 = .ok (.iinc 4 1, 3) := by decide +kernel
theorem d_M_canBeFirst_58 : decode zm_M_canBeFirst.2.2.1 58 = .ok (.goto (-49), 3) := by decide +kernel
theorem d_M_canBeFirst_61 : decode zm_M_canBeFirst.2.2.1 61 = .ok (.iload_n 3, 1) := by decide +kernel
theorem d_M_canBeFirst_62 : decode zm_M_canBeFirst.2.2.1 62 = .ok (.ireturn, 1) := by decide +kernel
theorem d_M_layWays_0 : decode zm_M_layWays.2.2.1 0 = .ok (.aload_n 0, 1) := by decide +kernel
theorem d_M_layWays_1 : decode zm_M_layWays.2.2.1 1 = .ok (.getfield 63, 3) := by decide +kernel
theorem d_M_layWays_4 : decode zm_M_layWays.2.2.1 4 = .ok (.iconst 0, 1) := by decide +kernel
theorem d_M_layWays_5 : decode zm_M_layWays.2.2.1 5 = .ok (.iconst 1, 1) := by decide +kernel
theorem d_M_layWays_6 : decode zm_M_layWays.2.2.1 6 = .ok (.iastore, 1) := by decide +kernel
theorem d_M_layWays_7 : decode zm_M_layWays.2.2.1 7 = .ok (.iconst 1, 1) := by decide +kernel
theorem d_M_layWays_8 : decode zm_M_layWays.2.2.1 8 = .ok (.istore_n 1, 1) := by decide +kernel
theorem d_M_layWays_9 : decode zm_M_layWays.2.2.1 9 = .ok (.iload_n 1, 1) := by decide +kernel
theorem d_M_layWays_10 : decode zm_M_layWays.2.2.1 10 = .ok (.bipush 64, 2) := by decide +kernel
theorem d_M_layWays_12 : decode zm_M_layWays.2.2.1 12 = .ok (.if_icmp .ge 64, 3) := by decide +kernel
theorem d_M_layWays_15 : decode zm_M_layWays.2.2.1 15 = .ok (.aload_n 0, 1) := by decide +kernel
theorem d_M_layWays_16 : decode zm_M_layWays.2.2.1 16 = .ok (.getfield 63, 3) := by decide +kernel
theorem d_M_layWays_19 : decode zm_M_layWays.2.2.1 19 = .ok (.iload_n 1, 1) := by decide +kernel
theorem d_M_layWays_20 : decode zm_M_layWays.2.2.1 20 = .ok (.iconst 0, 1) := by decide +kernel
theorem d_M_layWays_21 : decode zm_M_layWays.2.2.1 21 = .ok (.iastore, 1) := by decide +kernel
theorem d_M_layWays_22 : decode zm_M_layWays.2.2.1 22 = .ok (.iconst 0, 1) := by decide +kernel
theorem d_M_layWays_23 : decode zm_M_layWays.2.2.1 23 = .ok (.istore_n 2, 1) := by decide +kernel
theorem d_M_layWays_24 : decode zm_M_layWays.2.2.1 24 = .ok (.iload_n 2, 1) := by decide +kernel
theorem d_M_layWays_25 : decode zm_M_layWays.2.2.1 25 = .ok (.bipush 6, 2) := by decide +kernel
theorem d_M_layWays_27 : decode zm_M_layWays.2.2.1 27 = .ok (.if_icmp .ge 43, 3) := by decide +kernel
theorem d_M_layWays_30 : decode zm_M_layWays.2.2.1 30 = .ok (.aload_n 0, 1) := by decide +kernel
theorem d_M_layWays_31 : decode zm_M_layWays.2.2.1 31 = .ok (.getfield 63, 3) := by decide +kernel
theorem d_M_layWays_34 : decode zm_M_layWays.2.2.1 34 = .ok (.iload_n 1, 1) := by decide +kernel
theorem d_M_layWays_35 : decode zm_M_layWays.2.2.1 35 = .ok (.dup2, 1) := by decide +kernel
theorem d_M_layWays_36 : decode zm_M_layWays.2.2.1 36 = .ok (.iaload, 1) := by decide +kernel
theorem d_M_layWays_37 : decode zm_M_layWays.2.2.1 37 = .ok (.aload_n 0, 1) := by decide +kernel
theorem d_M_layWays_38 : decode zm_M_layWays.2.2.1 38 = .ok (.iload_n 2, 1) := by decide +kernel
theorem d_M_layWays_39 : decode zm_M_layWays.2.2.1 39 = .ok (.iload_n 1, 1) := by decide +kernel
theorem d_M_layWays_40 : decode zm_M_layWays.2.2.1 40 = .ok (.invokevirtual 236, 3) := by decide +kernel
theorem d_M_layWays_43 : decode zm_M_layWays.2.2.1 43 = .ok (.ifCond .eq 18, 3) := by decide +kernel
theorem d_M_layWays_46 : decode zm_M_layWays.2.2.1 46 = .ok (.aload_n 0, 1) := by decide +kernel
theorem d_M_layWays_47 : decode zm_M_layWays.2.2.1 47 = .ok (.getfield 63, 3) := by decide +kernel
theorem d_M_layWays_50 : decode zm_M_layWays.2.2.1 50 = .ok (.iload_n 1, 1) := by decide +kernel
theorem d_M_layWays_51 : decode zm_M_layWays.2.2.1 51 = .ok (.iconst 1, 1) := by decide +kernel
theorem d_M_layWays_52 : decode zm_M_layWays.2.2.1 52 = .ok (.iload_n 2, 1) := by decide +kernel
theorem d_M_layWays_53 : decode zm_M_layWays.2.2.1 53 = .ok (.ishl, 1) := by decide +kernel
theorem d_M_layWays_54 : decode zm_M_layWays.2.2.1 54 = .ok (.iconst (-1), 1) := by decide +kernel
theorem d_M_layWays_55 : decode zm_M_layWays.2.2.1 55 = .ok (.ixor, 1) := by decide +kernel
theorem d_M_layWays_56 : decode zm_M_layWays.2.2.1 56 = .ok (.iand, 1) := by decide +kernel
theorem d_M_layWays_57 : decode zm_M_layWays.2.2.1 57 = .ok (.iaload, 1) := by decide +kernel
theorem d_M_layWays_58 : decode zm_M_layWays.2.2.1 58 = .ok (.goto 4, 3) := by decide +kernel
theorem d_M_layWays_61 : decode zm_M_layWays.2.2.1 61 = .ok (.iconst 0, 1) := by decide +kernel
theorem d_M_layWays_62 : decode zm_M_layWays.2.2.1 62 = .ok (.iadd, 1) := by decide +kernel
theorem d_M_layWays_63 : decode zm_M_layWays.2.2.1 63 = .ok (.iastore, 1) := by decide +kernel
theorem d_M_layWays_64 : decode zm_M_layWays.2.2.1 64 = .ok (.iinc 2 1, 3) := by decide +kernel
theorem d_M_layWays_67 : decode zm_M_layWays.2.2.1 67 = .ok (.goto (-43), 3) := by decide +kernel
theorem d_M_layWays_70 : decode zm_M_layWays.2.2.1 70 = .ok (.iinc 1 1, 3) := by decide +kernel
theorem d_M_layWays_73 : decode zm_M_layWays.2.2.1 73 = .ok (.goto (-64), 3) := by decide +kernel
theorem d_M_layWays_76 : decode zm_M_layWays.2.2.1 76 = .ok (.return_, 1) := by decide +kernel
theorem d_M_orders_0 : decode zm_M_orders.2.2.1 0 = .ok (.aload_n 0, 1) := by decide +kernel
theorem d_M_orders_1 : decode zm_M_orders.2.2.1 1 = .ok (.iload_n 1, 1) := by decide +kernel
theorem d_M_orders_2 : decode zm_M_orders.2.2.1 2 = .ok (.invokevirtual 239, 3) := by decide +kernel
theorem d_M_orders_5 : decode zm_M_orders.2.2.1 5 = .ok (.aload_n 0, 1) := by decide +kernel
theorem d_M_orders_6 : decode zm_M_orders.2.2.1 6 = .ok (.invokevirtual 242, 3) := by decide +kernel
theorem d_M_orders_9 : decode zm_M_orders.2.2.1 9 = .ok (.aload_n 0, 1) := by decide +kernel
theorem d_M_orders_10 : decode zm_M_orders.2.2.1 10 = .ok (.getfield 63, 3) := by decide +kernel
theorem d_M_orders_13 : decode zm_M_orders.2.2.1 13 = .ok (.aload_n 0, 1) := by decide +kernel
theorem d_M_orders_14 : decode zm_M_orders.2.2.1 14 = .ok (.getfield 230, 3) := by decide +kernel
theorem d_M_orders_17 : decode zm_M_orders.2.2.1 17 = .ok (.iaload, 1) := by decide +kernel
theorem d_M_orders_18 : decode zm_M_orders.2.2.1 18 = .ok (.ireturn, 1) := by decide +kernel
theorem d_M_many_0 : decode zm_M_many.2.2.1 0 = .ok (.iconst 0, 1) := by decide +kernel
theorem d_M_many_1 : decode zm_M_many.2.2.1 1 = .ok (.istore_n 1, 1) := by decide +kernel
theorem d_M_many_2 : decode zm_M_many.2.2.1 2 = .ok (.iconst 0, 1) := by decide +kernel
theorem d_M_many_3 : decode zm_M_many.2.2.1 3 = .ok (.istore_n 2, 1) := by decide +kernel
theorem d_M_many_4 : decode zm_M_many.2.2.1 4 = .ok (.iload_n 2, 1) := by decide +kernel
theorem d_M_many_5 : decode zm_M_many.2.2.1 5 = .ok (.bipush 12, 2) := by decide +kernel
theorem d_M_many_7 : decode zm_M_many.2.2.1 7 = .ok (.if_icmp .ge 17, 3) := by decide +kernel
theorem d_M_many_10 : decode zm_M_many.2.2.1 10 = .ok (.iload_n 1, 1) := by decide +kernel
theorem d_M_many_11 : decode zm_M_many.2.2.1 11 = .ok (.iload_n 0, 1) := by decide +kernel
theorem d_M_many_12 : decode zm_M_many.2.2.1 12 = .ok (.iload_n 2, 1) := by decide +kernel
theorem d_M_many_13 : decode zm_M_many.2.2.1 13 = .ok (.ishr, 1) := by decide +kernel
theorem d_M_many_14 : decode zm_M_many.2.2.1 14 = .ok (.iconst 1, 1) := by decide +kernel
theorem d_M_many_15 : decode zm_M_many.2.2.1 15 = .ok (.iand, 1) := by decide +kernel
theorem d_M_many_16 : decode zm_M_many.2.2.1 16 = .ok (.iadd, 1) := by decide +kernel
theorem d_M_many_17 : decode zm_M_many.2.2.1 17 = .ok (.istore_n 1, 1) := by decide +kernel
theorem d_M_many_18 : decode zm_M_many.2.2.1 18 = .ok (.iinc 2 1, 3) := by decide +kernel
theorem d_M_many_21 : decode zm_M_many.2.2.1 21 = .ok (.goto (-17), 3) := by decide +kernel
theorem d_M_many_24 : decode zm_M_many.2.2.1 24 = .ok (.iload_n 1, 1) := by decide +kernel
theorem d_M_many_25 : decode zm_M_many.2.2.1 25 = .ok (.ireturn, 1) := by decide +kernel
theorem d_M_faultNow_0 : decode zm_M_faultNow.2.2.1 0 = .ok (.aload_n 0, 1) := by decide +kernel
theorem d_M_faultNow_1 : decode zm_M_faultNow.2.2.1 1 = .ok (.invokevirtual 245, 3) := by decide +kernel
theorem d_M_faultNow_4 : decode zm_M_faultNow.2.2.1 4 = .ok (.istore_n 1, 1) := by decide +kernel
theorem d_M_faultNow_5 : decode zm_M_faultNow.2.2.1 5 = .ok (.iconst 0, 1) := by decide +kernel
theorem d_M_faultNow_6 : decode zm_M_faultNow.2.2.1 6 = .ok (.istore_n 2, 1) := by decide +kernel
theorem d_M_faultNow_7 : decode zm_M_faultNow.2.2.1 7 = .ok (.iload_n 2, 1) := by decide +kernel
theorem d_M_faultNow_8 : decode zm_M_faultNow.2.2.1 8 = .ok (.iconst 1, 1) := by decide +kernel
theorem d_M_faultNow_9 : decode zm_M_faultNow.2.2.1 9 = .ok (.aload_n 0, 1) := by decide +kernel
theorem d_M_faultNow_10 : decode zm_M_faultNow.2.2.1 10 = .ok (.getfield 215, 3) := by decide +kernel
theorem d_M_faultNow_13 : decode zm_M_faultNow.2.2.1 13 = .ok (.ishl, 1) := by decide +kernel
theorem d_M_faultNow_14 : decode zm_M_faultNow.2.2.1 14 = .ok (.if_icmp .ge 51, 3) := by decide +kernel
theorem d_M_faultNow_17 : decode zm_M_faultNow.2.2.1 17 = .ok (.iload_n 2, 1) := by decide +kernel
theorem d_M_faultNow_18 : decode zm_M_faultNow.2.2.1 18 = .ok (.invokestatic 248, 3) := by decide +kernel
theorem d_M_faultNow_21 : decode zm_M_faultNow.2.2.1 21 = .ok (.iload_n 1, 1) := by decide +kernel
theorem d_M_faultNow_22 : decode zm_M_faultNow.2.2.1 22 = .ok (.invokestatic 248, 3) := by decide +kernel
theorem d_M_faultNow_25 : decode zm_M_faultNow.2.2.1 25 = .ok (.if_icmp .ge 7, 3) := by decide +kernel
theorem d_M_faultNow_28 : decode zm_M_faultNow.2.2.1 28 = .ok (.iconst 1, 1) := by decide +kernel
theorem d_M_faultNow_29 : decode zm_M_faultNow.2.2.1 29 = .ok (.goto 4, 3) := by decide +kernel
theorem d_M_faultNow_32 : decode zm_M_faultNow.2.2.1 32 = .ok (.iconst 0, 1) := by decide +kernel
theorem d_M_faultNow_33 : decode zm_M_faultNow.2.2.1 33 = .ok (.istore_n 3, 1) := by decide +kernel
theorem d_M_faultNow_34 : decode zm_M_faultNow.2.2.1 34 = .ok (.iload_n 3, 1) := by decide +kernel
theorem d_M_faultNow_35 : decode zm_M_faultNow.2.2.1 35 = .ok (.ifCond .eq 22, 3) := by decide +kernel
theorem d_M_faultNow_38 : decode zm_M_faultNow.2.2.1 38 = .ok (.aload_n 0, 1) := by decide +kernel
theorem d_M_faultNow_39 : decode zm_M_faultNow.2.2.1 39 = .ok (.aload_n 0, 1) := by decide +kernel
theorem d_M_faultNow_40 : decode zm_M_faultNow.2.2.1 40 = .ok (.invokevirtual 245, 3) := by decide +kernel
theorem d_M_faultNow_43 : decode zm_M_faultNow.2.2.1 43 = .ok (.iload_n 2, 1) := by decide +kernel
theorem d_M_faultNow_44 : decode zm_M_faultNow.2.2.1 44 = .ok (.iconst (-1), 1) := by decide +kernel
theorem d_M_faultNow_45 : decode zm_M_faultNow.2.2.1 45 = .ok (.ixor, 1) := by decide +kernel
theorem d_M_faultNow_46 : decode zm_M_faultNow.2.2.1 46 = .ok (.iand, 1) := by decide +kernel
theorem d_M_faultNow_47 : decode zm_M_faultNow.2.2.1 47 = .ok (.invokevirtual 251, 3) := by decide +kernel
theorem d_M_faultNow_50 : decode zm_M_faultNow.2.2.1 50 = .ok (.ifCond .le 7, 3) := by decide +kernel
theorem d_M_faultNow_53 : decode zm_M_faultNow.2.2.1 53 = .ok (.iload_n 2, 1) := by decide +kernel
theorem d_M_faultNow_54 : decode zm_M_faultNow.2.2.1 54 = .ok (.goto 4, 3) := by decide +kernel
theorem d_M_faultNow_57 : decode zm_M_faultNow.2.2.1 57 = .ok (.iload_n 1, 1) := by decide +kernel
theorem d_M_faultNow_58 : decode zm_M_faultNow.2.2.1 58 = .ok (.istore_n 1, 1) := by decide +kernel
theorem d_M_faultNow_59 : decode zm_M_faultNow.2.2.1 59 = .ok (.iinc 2 1, 3) := by decide +kernel
theorem d_M_faultNow_62 : decode zm_M_faultNow.2.2.1 62 = .ok (.goto (-55), 3) := by decide +kernel
theorem d_M_faultNow_65 : decode zm_M_faultNow.2.2.1 65 = .ok (.aload_n 0, 1) := by decide +kernel
theorem d_M_faultNow_66 : decode zm_M_faultNow.2.2.1 66 = .ok (.aload_n 0, 1) := by decide +kernel
theorem d_M_faultNow_67 : decode zm_M_faultNow.2.2.1 67 = .ok (.invokevirtual 245, 3) := by decide +kernel
theorem d_M_faultNow_70 : decode zm_M_faultNow.2.2.1 70 = .ok (.invokevirtual 251, 3) := by decide +kernel
theorem d_M_faultNow_73 : decode zm_M_faultNow.2.2.1 73 = .ok (.pop, 1) := by decide +kernel
theorem d_M_faultNow_74 : decode zm_M_faultNow.2.2.1 74 = .ok (.iload_n 1, 1) := by decide +kernel
theorem d_M_faultNow_75 : decode zm_M_faultNow.2.2.1 75 = .ok (.ireturn, 1) := by decide +kernel
theorem d_M_orderAt_0 : decode zm_M_orderAt.2.2.1 0 = .ok (.aload_n 0, 1) := by decide +kernel
theorem d_M_orderAt_1 : decode zm_M_orderAt.2.2.1 1 = .ok (.aload_n 0, 1) := by decide +kernel
theorem d_M_orderAt_2 : decode zm_M_orderAt.2.2.1 2 = .ok (.invokevirtual 245, 3) := by decide +kernel
theorem d_M_orderAt_5 : decode zm_M_orderAt.2.2.1 5 = .ok (.invokevirtual 251, 3) := by decide +kernel
theorem d_M_orderAt_8 : decode zm_M_orderAt.2.2.1 8 = .ok (.ifCond .eq 20, 3) := by decide +kernel
theorem d_M_orderAt_11 : decode zm_M_orderAt.2.2.1 11 = .ok (.iload_n 1, 1) := by decide +kernel
theorem d_M_orderAt_12 : decode zm_M_orderAt.2.2.1 12 = .ok (.iconst 0, 1) := by decide +kernel
theorem d_M_orderAt_13 : decode zm_M_orderAt.2.2.1 13 = .ok (.aload_n 0, 1) := by decide +kernel
theorem d_M_orderAt_14 : decode zm_M_orderAt.2.2.1 14 = .ok (.getfield 230, 3) := by decide +kernel
theorem d_M_orderAt_17 : decode zm_M_orderAt.2.2.1 17 = .ok (.invokestatic 248, 3) := by decide +kernel
theorem d_M_orderAt_20 : decode zm_M_orderAt.2.2.1 20 = .ok (.iconst 1, 1) := by decide +kernel
theorem d_M_orderAt_21 : decode zm_M_orderAt.2.2.1 21 = .ok (.isub, 1) := by decide +kernel
theorem d_M_orderAt_22 : decode zm_M_orderAt.2.2.1 22 = .ok (.invokestatic 72, 3) := by decide +kernel
theorem d_M_orderAt_25 : decode zm_M_orderAt.2.2.1 25 = .ok (.ifCond .ne 5, 3) := by decide +kernel
theorem d_M_orderAt_28 : decode zm_M_orderAt.2.2.1 28 = .ok (.iconst (-1), 1) := by decide +kernel
theorem d_M_orderAt_29 : decode zm_M_orderAt.2.2.1 29 = .ok (.ireturn, 1) := by decide +kernel
theorem d_M_orderAt_30 : decode zm_M_orderAt.2.2.1 30 = .ok (.aload_n 0, 1) := by decide +kernel
theorem d_M_orderAt_31 : decode zm_M_orderAt.2.2.1 31 = .ok (.getfield 230, 3) := by decide +kernel
theorem d_M_orderAt_34 : decode zm_M_orderAt.2.2.1 34 = .ok (.istore_n 2, 1) := by decide +kernel
theorem d_M_orderAt_35 : decode zm_M_orderAt.2.2.1 35 = .ok (.iconst (-1), 1) := by decide +kernel
theorem d_M_orderAt_36 : decode zm_M_orderAt.2.2.1 36 = .ok (.istore_n 3, 1) := by decide +kernel
theorem d_M_orderAt_37 : decode zm_M_orderAt.2.2.1 37 = .ok (.iconst 0, 1) := by decide +kernel
theorem d_M_orderAt_38 : decode zm_M_orderAt.2.2.1 38 = .ok (.istore 4, 2) := by decide +kernel
theorem d_M_orderAt_40 : decode zm_M_orderAt.2.2.1 40 = .ok (.iload 4, 2) := by decide +kernel
theorem d_M_orderAt_42 : decode zm_M_orderAt.2.2.1 42 = .ok (.iload_n 1, 1) := by decide +kernel
theorem d_M_orderAt_43 : decode zm_M_orderAt.2.2.1 43 = .ok (.if_icmp .gt 49, 3) := by decide +kernel
theorem d_M_orderAt_46 : decode zm_M_orderAt.2.2.1 46 = .ok (.iconst 0, 1) := by decide +kernel
theorem d_M_orderAt_47 : decode zm_M_orderAt.2.2.1 47 = .ok (.istore_n 3, 1) := by decide +kernel
theorem d_M_orderAt_48 : decode zm_M_orderAt.2.2.1 48 = .ok (.aload_n 0, 1) := by decide +kernel
theorem d_M_orderAt_49 : decode zm_M_orderAt.2.2.1 49 = .ok (.iload_n 3, 1) := by decide +kernel
theorem d_M_orderAt_50 : decode zm_M_orderAt.2.2.1 50 = .ok (.iload_n 2, 1) := by decide +kernel
theorem d_M_orderAt_51 : decode zm_M_orderAt.2.2.1 51 = .ok (.invokevirtual 236, 3) := by decide +kernel
theorem d_M_orderAt_54 : decode zm_M_orderAt.2.2.1 54 = .ok (.ifCond .eq 18, 3) := by decide +kernel
theorem d_M_orderAt_57 : decode zm_M_orderAt.2.2.1 57 = .ok (.aload_n 0, 1) := by decide +kernel
theorem d_M_orderAt_58 : decode zm_M_orderAt.2.2.1 58 = .ok (.getfield 63, 3) := by decide +kernel
theorem d_M_orderAt_61 : decode zm_M_orderAt.2.2.1 61 = .ok (.iload_n 2, 1) := by decide +kernel
theorem d_M_orderAt_62 : decode zm_M_orderAt.2.2.1 62 = .ok (.iconst 1, 1) := by decide +kernel
theorem d_M_orderAt_63 : decode zm_M_orderAt.2.2.1 63 = .ok (.iload_n 3, 1) := by decide +kernel
theorem d_M_orderAt_64 : decode zm_M_orderAt.2.2.1 64 = .ok (.ishl, 1) := by decide +kernel
theorem d_M_orderAt_65 : decode zm_M_orderAt.2.2.1 65 = .ok (.iconst (-1), 1) := by decide +kernel
theorem d_M_orderAt_66 : decode zm_M_orderAt.2.2.1 66 = .ok (.ixor, 1) := by decide +kernel
theorem d_M_orderAt_67 : decode zm_M_orderAt.2.2.1 67 = .ok (.iand, 1) := by decide +kernel
theorem d_M_orderAt_68 : decode zm_M_orderAt.2.2.1 68 = .ok (.iaload, 1) := by decide +kernel
theorem d_M_orderAt_69 : decode zm_M_orderAt.2.2.1 69 = .ok (.ifCond .ne 9, 3) := by decide +kernel
theorem d_M_orderAt_72 : decode zm_M_orderAt.2.2.1 72 = .ok (.iinc 3 1, 3) := by decide +kernel
theorem d_M_orderAt_75 : decode zm_M_orderAt.2.2.1 75 = .ok (.goto (-27), 3) := by decide +kernel
theorem d_M_orderAt_78 : decode zm_M_orderAt.2.2.1 78 = .ok (.iload_n 2, 1) := by decide +kernel
theorem d_M_orderAt_79 : decode zm_M_orderAt.2.2.1 79 = .ok (.iconst 1, 1) := by decide +kernel
theorem d_M_orderAt_80 : decode zm_M_orderAt.2.2.1 80 = .ok (.iload_n 3, 1) := by decide +kernel
theorem d_M_orderAt_81 : decode zm_M_orderAt.2.2.1 81 = .ok (.ishl, 1) := by decide +kernel
theorem d_M_orderAt_82 : decode zm_M_orderAt.2.2.1 82 = .ok (.iconst (-1), 1) := by decide +kernel
theorem d_M_orderAt_83 : decode zm_M_orderAt.2.2.1 83 = .ok (.ixor, 1) := by decide +kernel
theorem d_M_orderAt_84 : decode zm_M_orderAt.2.2.1 84 = .ok (.iand, 1) := by decide +kernel
theorem d_M_orderAt_85 : decode zm_M_orderAt.2.2.1 85 = .ok (.istore_n 2, 1) := by decide +kernel
theorem d_M_orderAt_86 : decode zm_M_orderAt.2.2.1 86 = .ok (.iinc 4 1, 3) := by decide +kernel
theorem d_M_orderAt_89 : decode zm_M_orderAt.2.2.1 89 = .ok (.goto (-49), 3) := by decide +kernel
theorem d_M_orderAt_92 : decode zm_M_orderAt.2.2.1 92 = .ok (.iload_n 3, 1) := by decide +kernel
theorem d_M_orderAt_93 : decode zm_M_orderAt.2.2.1 93 = .ok (.ireturn, 1) := by decide +kernel
theorem d_M_order_0 : decode zm_M_order.2.2.1 0 = .ok (.aload_n 0, 1) := by decide +kernel
theorem d_M_order_1 : decode zm_M_order.2.2.1 1 = .ok (.iload_n 1, 1) := by decide +kernel
theorem d_M_order_2 : decode zm_M_order.2.2.1 2 = .ok (.invokevirtual 254, 3) := by decide +kernel
theorem d_M_order_5 : decode zm_M_order.2.2.1 5 = .ok (.istore_n 2, 1) := by decide +kernel
theorem d_M_order_6 : decode zm_M_order.2.2.1 6 = .ok (.iload_n 2, 1) := by decide +kernel
theorem d_M_order_7 : decode zm_M_order.2.2.1 7 = .ok (.iconst (-1), 1) := by decide +kernel
theorem d_M_order_8 : decode zm_M_order.2.2.1 8 = .ok (.if_icmp .ne 8, 3) := by decide +kernel
theorem d_M_order_11 : decode zm_M_order.2.2.1 11 = .ok (.bipush (-101), 2) := by decide +kernel
theorem d_M_order_13 : decode zm_M_order.2.2.1 13 = .ok (.goto 4, 3) := by decide +kernel
theorem d_M_order_16 : decode zm_M_order.2.2.1 16 = .ok (.iload_n 2, 1) := by decide +kernel
theorem d_M_order_17 : decode zm_M_order.2.2.1 17 = .ok (.ireturn, 1) := by decide +kernel
theorem d_M_placeOf_0 : decode zm_M_placeOf.2.2.1 0 = .ok (.iconst 0, 1) := by decide +kernel
theorem d_M_placeOf_1 : decode zm_M_placeOf.2.2.1 1 = .ok (.istore_n 2, 1) := by decide +kernel
theorem d_M_placeOf_2 : decode zm_M_placeOf.2.2.1 2 = .ok (.iload_n 2, 1) := by decide +kernel
theorem d_M_placeOf_3 : decode zm_M_placeOf.2.2.1 3 = .ok (.bipush 6, 2) := by decide +kernel
theorem d_M_placeOf_5 : decode zm_M_placeOf.2.2.1 5 = .ok (.if_icmp .ge 20, 3) := by decide +kernel
theorem d_M_placeOf_8 : decode zm_M_placeOf.2.2.1 8 = .ok (.aload_n 0, 1) := by decide +kernel
theorem d_M_placeOf_9 : decode zm_M_placeOf.2.2.1 9 = .ok (.iload_n 2, 1) := by decide +kernel
theorem d_M_placeOf_10 : decode zm_M_placeOf.2.2.1 10 = .ok (.invokevirtual 254, 3) := by decide +kernel
theorem d_M_placeOf_13 : decode zm_M_placeOf.2.2.1 13 = .ok (.iload_n 1, 1) := by decide +kernel
theorem d_M_placeOf_14 : decode zm_M_placeOf.2.2.1 14 = .ok (.if_icmp .ne 5, 3) := by decide +kernel
theorem d_M_placeOf_17 : decode zm_M_placeOf.2.2.1 17 = .ok (.iload_n 2, 1) := by decide +kernel
theorem d_M_placeOf_18 : decode zm_M_placeOf.2.2.1 18 = .ok (.ireturn, 1) := by decide +kernel
theorem d_M_placeOf_19 : decode zm_M_placeOf.2.2.1 19 = .ok (.iinc 2 1, 3) := by decide +kernel
theorem d_M_placeOf_22 : decode zm_M_placeOf.2.2.1 22 = .ok (.goto (-20), 3) := by decide +kernel
theorem d_M_placeOf_25 : decode zm_M_placeOf.2.2.1 25 = .ok (.iconst (-1), 1) := by decide +kernel
theorem d_M_placeOf_26 : decode zm_M_placeOf.2.2.1 26 = .ok (.ireturn, 1) := by decide +kernel
theorem d_M_typesOn_0 : decode zm_M_typesOn.2.2.1 0 = .ok (.iconst 0, 1) := by decide +kernel
theorem d_M_typesOn_1 : decode zm_M_typesOn.2.2.1 1 = .ok (.istore_n 2, 1) := by decide +kernel
theorem d_M_typesOn_2 : decode zm_M_typesOn.2.2.1 2 = .ok (.iconst 0, 1) := by decide +kernel
theorem d_M_typesOn_3 : decode zm_M_typesOn.2.2.1 3 = .ok (.istore_n 3, 1) := by decide +kernel
theorem d_M_typesOn_4 : decode zm_M_typesOn.2.2.1 4 = .ok (.iload_n 3, 1) := by decide +kernel
theorem d_M_typesOn_5 : decode zm_M_typesOn.2.2.1 5 = .ok (.aload_n 0, 1) := by decide +kernel
theorem d_M_typesOn_6 : decode zm_M_typesOn.2.2.1 6 = .ok (.getfield 215, 3) := by decide +kernel
theorem d_M_typesOn_9 : decode zm_M_typesOn.2.2.1 9 = .ok (.if_icmp .ge 34, 3) := by decide +kernel
theorem d_M_typesOn_12 : decode zm_M_typesOn.2.2.1 12 = .ok (.iload_n 2, 1) := by decide +kernel
theorem d_M_typesOn_13 : decode zm_M_typesOn.2.2.1 13 = .ok (.aload_n 0, 1) := by decide +kernel
theorem d_M_typesOn_14 : decode zm_M_typesOn.2.2.1 14 = .ok (.getfield 26, 3) := by decide +kernel
theorem d_M_typesOn_17 : decode zm_M_typesOn.2.2.1 17 = .ok (.iload_n 3, 1) := by decide +kernel
theorem d_M_typesOn_18 : decode zm_M_typesOn.2.2.1 18 = .ok (.iaload, 1) := by decide +kernel
theorem d_M_typesOn_19 : decode zm_M_typesOn.2.2.1 19 = .ok (.iload_n 1, 1) := by decide +kernel
theorem d_M_typesOn_20 : decode zm_M_typesOn.2.2.1 20 = .ok (.if_icmp .ne 14, 3) := by decide +kernel
theorem d_M_typesOn_23 : decode zm_M_typesOn.2.2.1 23 = .ok (.iconst 1, 1) := by decide +kernel
theorem d_M_typesOn_24 : decode zm_M_typesOn.2.2.1 24 = .ok (.aload_n 0, 1) := by decide +kernel
theorem d_M_typesOn_25 : decode zm_M_typesOn.2.2.1 25 = .ok (.getfield 23, 3) := by decide +kernel
theorem d_M_typesOn_28 : decode zm_M_typesOn.2.2.1 28 = .ok (.iload_n 3, 1) := by decide +kernel
theorem d_M_typesOn_29 : decode zm_M_typesOn.2.2.1 29 = .ok (.iaload, 1) := by decide +kernel
theorem d_M_typesOn_30 : decode zm_M_typesOn.2.2.1 30 = .ok (.ishl, 1) := by decide +kernel
theorem d_M_typesOn_31 : decode zm_M_typesOn.2.2.1 31 = .ok (.goto 4, 3) := by decide +kernel
theorem d_M_typesOn_34 : decode zm_M_typesOn.2.2.1 34 = .ok (.iconst 0, 1) := by decide +kernel
theorem d_M_typesOn_35 : decode zm_M_typesOn.2.2.1 35 = .ok (.ior, 1) := by decide +kernel
theorem d_M_typesOn_36 : decode zm_M_typesOn.2.2.1 36 = .ok (.istore_n 2, 1) := by decide +kernel
theorem d_M_typesOn_37 : decode zm_M_typesOn.2.2.1 37 = .ok (.iinc 3 1, 3) := by decide +kernel
theorem d_M_typesOn_40 : decode zm_M_typesOn.2.2.1 40 = .ok (.goto (-36), 3) := by decide +kernel
theorem d_M_typesOn_43 : decode zm_M_typesOn.2.2.1 43 = .ok (.iload_n 2, 1) := by decide +kernel
theorem d_M_typesOn_44 : decode zm_M_typesOn.2.2.1 44 = .ok (.ireturn, 1) := by decide +kernel
theorem d_M_togetherWith_0 : decode zm_M_togetherWith.2.2.1 0 = .ok (.iconst 0, 1) := by decide +kernel
theorem d_M_togetherWith_1 : decode zm_M_togetherWith.2.2.1 1 = .ok (.istore_n 2, 1) := by decide +kernel
theorem d_M_togetherWith_2 : decode zm_M_togetherWith.2.2.1 2 = .ok (.iconst 0, 1) := by decide +kernel
theorem d_M_togetherWith_3 : decode zm_M_togetherWith.2.2.1 3 = .ok (.istore_n 3, 1) := by decide +kernel
theorem d_M_togetherWith_4 : decode zm_M_togetherWith.2.2.1 4 = .ok (.iload_n 3, 1) := by decide +kernel
theorem d_M_togetherWith_5 : decode zm_M_togetherWith.2.2.1 5 = .ok (.bipush 6, 2) := by decide +kernel
theorem d_M_togetherWith_7 : decode zm_M_togetherWith.2.2.1 7 = .ok (.if_icmp .ge 72, 3) := by decide +kernel
theorem d_M_togetherWith_10 : decode zm_M_togetherWith.2.2.1 10 = .ok (.aload_n 0, 1) := by decide +kernel
theorem d_M_togetherWith_11 : decode zm_M_togetherWith.2.2.1 11 = .ok (.getfield 230, 3) := by decide +kernel
theorem d_M_togetherWith_14 : decode zm_M_togetherWith.2.2.1 14 = .ok (.iload_n 1, 1) := by decide +kernel
theorem d_M_togetherWith_15 : decode zm_M_togetherWith.2.2.1 15 = .ok (.invokestatic 233, 3) := by decide +kernel
theorem d_M_togetherWith_18 : decode zm_M_togetherWith.2.2.1 18 = .ok (.ifCond .eq 61, 3) := by decide +kernel
theorem d_M_togetherWith_21 : decode zm_M_togetherWith.2.2.1 21 = .ok (.iload_n 3, 1) := by decide +kernel
theorem d_M_togetherWith_22 : decode zm_M_togetherWith.2.2.1 22 = .ok (.iload_n 1, 1) := by decide +kernel
theorem d_M_togetherWith_23 : decode zm_M_togetherWith.2.2.1 23 = .ok (.if_icmp .eq 32, 3) := by decide +kernel
theorem d_M_togetherWith_26 : decode zm_M_togetherWith.2.2.1 26 = .ok (.aload_n 0, 1) := by decide +kernel
theorem d_M_togetherWith_27 : decode zm_M_togetherWith.2.2.1 27 = .ok (.getfield 230, 3) := by decide +kernel
theorem d_M_togetherWith_30 : decode zm_M_togetherWith.2.2.1 30 = .ok (.iload_n 3, 1) := by decide +kernel
theorem d_M_togetherWith_31 : decode zm_M_togetherWith.2.2.1 31 = .ok (.invokestatic 233, 3) := by decide +kernel
theorem d_M_togetherWith_34 : decode zm_M_togetherWith.2.2.1 34 = .ok (.ifCond .eq 21, 3) := by decide +kernel
theorem d_M_togetherWith_37 : decode zm_M_togetherWith.2.2.1 37 = .ok (.aload_n 0, 1) := by decide +kernel
theorem d_M_togetherWith_38 : decode zm_M_togetherWith.2.2.1 38 = .ok (.iload_n 3, 1) := by decide +kernel
theorem d_M_togetherWith_39 : decode zm_M_togetherWith.2.2.1 39 = .ok (.invokevirtual 257, 3) := by decide +kernel
theorem d_M_togetherWith_42 : decode zm_M_togetherWith.2.2.1 42 = .ok (.aload_n 0, 1) := by decide +kernel
theorem d_M_togetherWith_43 : decode zm_M_togetherWith.2.2.1 43 = .ok (.iload_n 1, 1) := by decide +kernel
theorem d_M_togetherWith_44 : decode zm_M_togetherWith.2.2.1 44 = .ok (.invokevirtual 257, 3) := by decide +kernel
theorem d_M_togetherWith_47 : decode zm_M_togetherWith.2.2.1 47 = .ok (.iand, 1) := by decide +kernel
theorem d_M_togetherWith_48 : decode zm_M_togetherWith.2.2.1 48 = .ok (.ifCond .ne 7, 3) := by decide +kernel
theorem d_M_togetherWith_51 : decode zm_M_togetherWith.2.2.1 51 = .ok (.iconst 1, 1) := by decide +kernel
theorem d_M_togetherWith_52 : decode zm_M_togetherWith.2.2.1 52 = .ok (.goto 4, 3) := by decide +kernel
theorem d_M_togetherWith_55 : decode zm_M_togetherWith.2.2.1 55 = .ok (.iconst 0, 1) := by decide +kernel
theorem d_M_togetherWith_56 : decode zm_M_togetherWith.2.2.1 56 = .ok (.istore 4, 2) := by decide +kernel
theorem d_M_togetherWith_58 : decode zm_M_togetherWith.2.2.1 58 = .ok (.iload_n 2, 1) := by decide +kernel
theorem d_M_togetherWith_59 : decode zm_M_togetherWith.2.2.1 59 = .ok (.iload 4, 2) := by decide +kernel
theorem d_M_togetherWith_61 : decode zm_M_togetherWith.2.2.1 61 = .ok (.ifCond .eq 9, 3) := by decide +kernel
theorem d_M_togetherWith_64 : decode zm_M_togetherWith.2.2.1 64 = .ok (.iconst 1, 1) := by decide +kernel
theorem d_M_togetherWith_65 : decode zm_M_togetherWith.2.2.1 65 = .ok (.iload_n 3, 1) := by decide +kernel
theorem d_M_togetherWith_66 : decode zm_M_togetherWith.2.2.1 66 = .ok (.ishl, 1) := by decide +kernel
theorem d_M_togetherWith_67 : decode zm_M_togetherWith.2.2.1 67 = .ok (.goto 4, 3) := by decide +kernel
theorem d_M_togetherWith_70 : decode zm_M_togetherWith.2.2.1 70 = .ok (.iconst 0, 1) := by decide +kernel
theorem d_M_togetherWith_71 : decode zm_M_togetherWith.2.2.1 71 = .ok (.ior, 1) := by decide +kernel
theorem d_M_togetherWith_72 : decode zm_M_togetherWith.2.2.1 72 = .ok (.istore_n 2, 1) := by decide +kernel
theorem d_M_togetherWith_73 : decode zm_M_togetherWith.2.2.1 73 = .ok (.iinc 3 1, 3) := by decide +kernel
theorem d_M_togetherWith_76 : decode zm_M_togetherWith.2.2.1 76 = .ok (.goto (-72), 3) := by decide +kernel
theorem d_M_togetherWith_79 : decode zm_M_togetherWith.2.2.1 79 = .ok (.iload_n 2, 1) := by decide +kernel
theorem d_M_togetherWith_80 : decode zm_M_togetherWith.2.2.1 80 = .ok (.ireturn, 1) := by decide +kernel
theorem d_M_mayBeOn_0 : decode zm_M_mayBeOn.2.2.1 0 = .ok (.iconst 1, 1) := by decide +kernel
theorem d_M_mayBeOn_1 : decode zm_M_mayBeOn.2.2.1 1 = .ok (.istore_n 3, 1) := by decide +kernel
theorem d_M_mayBeOn_2 : decode zm_M_mayBeOn.2.2.1 2 = .ok (.iconst 0, 1) := by decide +kernel
theorem d_M_mayBeOn_3 : decode zm_M_mayBeOn.2.2.1 3 = .ok (.istore 4, 2) := by decide +kernel
theorem d_M_mayBeOn_5 : decode zm_M_mayBeOn.2.2.1 5 = .ok (.iload 4, 2) := by decide +kernel
theorem d_M_mayBeOn_7 : decode zm_M_mayBeOn.2.2.1 7 = .ok (.iload_n 1, 1) := by decide +kernel
theorem d_M_mayBeOn_8 : decode zm_M_mayBeOn.2.2.1 8 = .ok (.if_icmp .ge 56, 3) := by decide +kernel
theorem d_M_mayBeOn_11 : decode zm_M_mayBeOn.2.2.1 11 = .ok (.iload_n 3, 1) := by decide +kernel
theorem d_M_mayBeOn_12 : decode zm_M_mayBeOn.2.2.1 12 = .ok (.ifCond .eq 44, 3) := by decide +kernel
theorem d_M_mayBeOn_15 : decode zm_M_mayBeOn.2.2.1 15 = .ok (.aload_n 0, 1) := by decide +kernel
theorem d_M_mayBeOn_16 : decode zm_M_mayBeOn.2.2.1 16 = .ok (.getfield 230, 3) := by decide +kernel
theorem d_M_mayBeOn_19 : decode zm_M_mayBeOn.2.2.1 19 = .ok (.iload 4, 2) := by decide +kernel
theorem d_M_mayBeOn_21 : decode zm_M_mayBeOn.2.2.1 21 = .ok (.invokestatic 233, 3) := by decide +kernel
theorem d_M_mayBeOn_24 : decode zm_M_mayBeOn.2.2.1 24 = .ok (.ifCond .eq 28, 3) := by decide +kernel
theorem d_M_mayBeOn_27 : decode zm_M_mayBeOn.2.2.1 27 = .ok (.aload_n 0, 1) := by decide +kernel
theorem d_M_mayBeOn_28 : decode zm_M_mayBeOn.2.2.1 28 = .ok (.getfield 66, 3) := by decide +kernel
theorem d_M_mayBeOn_31 : decode zm_M_mayBeOn.2.2.1 31 = .ok (.iload 4, 2) := by decide +kernel
theorem d_M_mayBeOn_33 : decode zm_M_mayBeOn.2.2.1 33 = .ok (.iaload, 1) := by decide +kernel
theorem d_M_mayBeOn_34 : decode zm_M_mayBeOn.2.2.1 34 = .ok (.iload_n 2, 1) := by decide +kernel
theorem d_M_mayBeOn_35 : decode zm_M_mayBeOn.2.2.1 35 = .ok (.if_icmp .ne 17, 3) := by decide +kernel
theorem d_M_mayBeOn_38 : decode zm_M_mayBeOn.2.2.1 38 = .ok (.aload_n 0, 1) := by decide +kernel
theorem d_M_mayBeOn_39 : decode zm_M_mayBeOn.2.2.1 39 = .ok (.getfield 69, 3) := by decide +kernel
theorem d_M_mayBeOn_42 : decode zm_M_mayBeOn.2.2.1 42 = .ok (.iload_n 1, 1) := by decide +kernel
theorem d_M_mayBeOn_43 : decode zm_M_mayBeOn.2.2.1 43 = .ok (.iaload, 1) := by decide +kernel
theorem d_M_mayBeOn_44 : decode zm_M_mayBeOn.2.2.1 44 = .ok (.iload 4, 2) := by decide +kernel
theorem d_M_mayBeOn_46 : decode zm_M_mayBeOn.2.2.1 46 = .ok (.invokestatic 233, 3) := by decide +kernel
theorem d_M_mayBeOn_49 : decode zm_M_mayBeOn.2.2.1 49 = .ok (.ifCond .eq 7, 3) := by decide +kernel
theorem d_M_mayBeOn_52 : decode zm_M_mayBeOn.2.2.1 52 = .ok (.iconst 1, 1) := by decide +kernel
theorem d_M_mayBeOn_53 : decode zm_M_mayBeOn.2.2.1 53 = .ok (.goto 4, 3) := by decide +kernel
theorem d_M_mayBeOn_56 : decode zm_M_mayBeOn.2.2.1 56 = .ok (.iconst 0, 1) := by decide +kernel
theorem d_M_mayBeOn_57 : decode zm_M_mayBeOn.2.2.1 57 = .ok (.istore_n 3, 1) := by decide +kernel
theorem d_M_mayBeOn_58 : decode zm_M_mayBeOn.2.2.1 58 = .ok (.iinc 4 1, 3) := by decide +kernel
theorem d_M_mayBeOn_61 : decode zm_M_mayBeOn.2.2.1 61 = .ok (.goto (-56), 3) := by decide +kernel
theorem d_M_mayBeOn_64 : decode zm_M_mayBeOn.2.2.1 64 = .ok (.iload_n 3, 1) := by decide +kernel
theorem d_M_mayBeOn_65 : decode zm_M_mayBeOn.2.2.1 65 = .ok (.ireturn, 1) := by decide +kernel
theorem d_M_findsRoom_0 : decode zm_M_findsRoom.2.2.1 0 = .ok (.iconst 0, 1) := by decide +kernel
theorem d_M_findsRoom_1 : decode zm_M_findsRoom.2.2.1 1 = .ok (.istore_n 2, 1) := by decide +kernel
theorem d_M_findsRoom_2 : decode zm_M_findsRoom.2.2.1 2 = .ok (.iconst 0, 1) := by decide +kernel
theorem d_M_findsRoom_3 : decode zm_M_findsRoom.2.2.1 3 = .ok (.istore_n 3, 1) := by decide +kernel
theorem d_M_findsRoom_4 : decode zm_M_findsRoom.2.2.1 4 = .ok (.iload_n 3, 1) := by decide +kernel
theorem d_M_findsRoom_5 : decode zm_M_findsRoom.2.2.1 5 = .ok (.bipush 6, 2) := by decide +kernel
theorem d_M_findsRoom_7 : decode zm_M_findsRoom.2.2.1 7 = .ok (.if_icmp .ge 16, 3) := by decide +kernel
theorem d_M_findsRoom_10 : decode zm_M_findsRoom.2.2.1 10 = .ok (.aload_n 0, 1) := by decide +kernel
theorem d_M_findsRoom_11 : decode zm_M_findsRoom.2.2.1 11 = .ok (.getfield 66, 3) := by decide +kernel
theorem d_M_findsRoom_14 : decode zm_M_findsRoom.2.2.1 14 = .ok (.iload_n 3, 1) := by decide +kernel
theorem d_M_findsRoom_15 : decode zm_M_findsRoom.2.2.1 15 = .ok (.iconst (-1), 1) := by decide +kernel
theorem d_M_findsRoom_16 : decode zm_M_findsRoom.2.2.1 16 = .ok (.iastore, 1) := by decide +kernel
theorem d_M_findsRoom_17 : decode zm_M_findsRoom.2.2.1 17 = .ok (.iinc 3 1, 3) := by decide +kernel
theorem d_M_findsRoom_20 : decode zm_M_findsRoom.2.2.1 20 = .ok (.goto (-16), 3) := by decide +kernel
theorem d_M_findsRoom_23 : decode zm_M_findsRoom.2.2.1 23 = .ok (.iload_n 2, 1) := by decide +kernel
theorem d_M_findsRoom_24 : decode zm_M_findsRoom.2.2.1 24 = .ok (.ifCond .lt 119, 3) := by decide +kernel
theorem d_M_findsRoom_27 : decode zm_M_findsRoom.2.2.1 27 = .ok (.iload_n 2, 1) := by decide +kernel
theorem d_M_findsRoom_28 : decode zm_M_findsRoom.2.2.1 28 = .ok (.bipush 6, 2) := by decide +kernel
theorem d_M_findsRoom_30 : decode zm_M_findsRoom.2.2.1 30 = .ok (.if_icmp .ge 113, 3) := by decide +kernel
theorem d_M_findsRoom_33 : decode zm_M_findsRoom.2.2.1 33 = .ok (.aload_n 0, 1) := by decide +kernel
theorem d_M_findsRoom_34 : decode zm_M_findsRoom.2.2.1 34 = .ok (.getfield 230, 3) := by decide +kernel
theorem d_M_findsRoom_37 : decode zm_M_findsRoom.2.2.1 37 = .ok (.iload_n 2, 1) := by decide +kernel
theorem d_M_findsRoom_38 : decode zm_M_findsRoom.2.2.1 38 = .ok (.invokestatic 233, 3) := by decide +kernel
theorem d_M_findsRoom_41 : decode zm_M_findsRoom.2.2.1 41 = .ok (.ifCond .ne 30, 3) := by decide +kernel
theorem d_M_findsRoom_44 : decode zm_M_findsRoom.2.2.1 44 = .ok (.aload_n 0, 1) := by decide +kernel
theorem d_M_findsRoom_45 : decode zm_M_findsRoom.2.2.1 45 = .ok (.getfield 66, 3) := by decide +kernel
theorem d_M_findsRoom_48 : decode zm_M_findsRoom.2.2.1 48 = .ok (.iload_n 2, 1) := by decide +kernel
theorem d_M_findsRoom_49 : decode zm_M_findsRoom.2.2.1 49 = .ok (.iaload, 1) := by decide +kernel
theorem d_M_findsRoom_50 : decode zm_M_findsRoom.2.2.1 50 = .ok (.iconst (-1), 1) := by decide +kernel
theorem d_M_findsRoom_51 : decode zm_M_findsRoom.2.2.1 51 = .ok (.if_icmp .ne 11, 3) := by decide +kernel
theorem d_M_findsRoom_54 : decode zm_M_findsRoom.2.2.1 54 = .ok (.aload_n 0, 1) := by decide +kernel
theorem d_M_findsRoom_55 : decode zm_M_findsRoom.2.2.1 55 = .ok (.iload_n 2, 1) := by decide +kernel
theorem d_M_findsRoom_56 : decode zm_M_findsRoom.2.2.1 56 = .ok (.invokevirtual 260, 3) := by decide +kernel
theorem d_M_findsRoom_59 : decode zm_M_findsRoom.2.2.1 59 = .ok (.goto 8, 3) := by decide +kernel
theorem d_M_findsRoom_62 : decode zm_M_findsRoom.2.2.1 62 = .ok (.aload_n 0, 1) := by decide +kernel
theorem d_M_findsRoom_63 : decode zm_M_findsRoom.2.2.1 63 = .ok (.iload_n 2, 1) := by decide +kernel
theorem d_M_findsRoom_64 : decode zm_M_findsRoom.2.2.1 64 = .ok (.invokevirtual 263, 3) := by decide +kernel
theorem d_M_findsRoom_67 : decode zm_M_findsRoom.2.2.1 67 = .ok (.istore_n 2, 1) := by decide +kernel
theorem d_M_findsRoom_68 : decode zm_M_findsRoom.2.2.1 68 = .ok (.goto (-45), 3) := by decide +kernel
theorem d_M_findsRoom_71 : decode zm_M_findsRoom.2.2.1 71 = .ok (.aload_n 0, 1) := by decide +kernel
theorem d_M_findsRoom_72 : decode zm_M_findsRoom.2.2.1 72 = .ok (.getfield 66, 3) := by decide +kernel
theorem d_M_findsRoom_75 : decode zm_M_findsRoom.2.2.1 75 = .ok (.iload_n 2, 1) := by decide +kernel
theorem d_M_findsRoom_76 : decode zm_M_findsRoom.2.2.1 76 = .ok (.dup2, 1) := by decide +kernel
theorem d_M_findsRoom_77 : decode zm_M_findsRoom.2.2.1 77 = .ok (.iaload, 1) := by decide +kernel
theorem d_M_findsRoom_78 : decode zm_M_findsRoom.2.2.1 78 = .ok (.iconst 1, 1) := by decide +kernel
theorem d_M_findsRoom_79 : decode zm_M_findsRoom.2.2.1 79 = .ok (.iadd, 1) := by decide +kernel
theorem d_M_findsRoom_80 : decode zm_M_findsRoom.2.2.1 80 = .ok (.iastore, 1) := by decide +kernel
theorem d_M_findsRoom_81 : decode zm_M_findsRoom.2.2.1 81 = .ok (.aload_n 0, 1) := by decide +kernel
theorem d_M_findsRoom_82 : decode zm_M_findsRoom.2.2.1 82 = .ok (.getfield 66, 3) := by decide +kernel
theorem d_M_findsRoom_85 : decode zm_M_findsRoom.2.2.1 85 = .ok (.iload_n 2, 1) := by decide +kernel
theorem d_M_findsRoom_86 : decode zm_M_findsRoom.2.2.1 86 = .ok (.iaload, 1) := by decide +kernel
theorem d_M_findsRoom_87 : decode zm_M_findsRoom.2.2.1 87 = .ok (.iload_n 1, 1) := by decide +kernel
theorem d_M_findsRoom_88 : decode zm_M_findsRoom.2.2.1 88 = .ok (.if_icmp .ge 30, 3) := by decide +kernel
theorem d_M_findsRoom_91 : decode zm_M_findsRoom.2.2.1 91 = .ok (.aload_n 0, 1) := by decide +kernel
theorem d_M_findsRoom_92 : decode zm_M_findsRoom.2.2.1 92 = .ok (.iload_n 2, 1) := by decide +kernel
theorem d_M_findsRoom_93 : decode zm_M_findsRoom.2.2.1 93 = .ok (.aload_n 0, 1) := by decide +kernel
theorem d_M_findsRoom_94 : decode zm_M_findsRoom.2.2.1 94 = .ok (.getfield 66, 3) := by decide +kernel
theorem d_M_findsRoom_97 : decode zm_M_findsRoom.2.2.1 97 = .ok (.iload_n 2, 1) := by decide +kernel
theorem d_M_findsRoom_98 : decode zm_M_findsRoom.2.2.1 98 = .ok (.iaload, 1) := by decide +kernel
theorem d_M_findsRoom_99 : decode zm_M_findsRoom.2.2.1 99 = .ok (.invokevirtual 266, 3) := by decide +kernel
theorem d_M_findsRoom_102 : decode zm_M_findsRoom.2.2.1 102 = .ok (.ifCond .ne 16, 3) := by decide +kernel
theorem d_M_findsRoom_105 : decode zm_M_findsRoom.2.2.1 105 = .ok (.aload_n 0, 1) := by decide +kernel
theorem d_M_findsRoom_106 : decode zm_M_findsRoom.2.2.1 106 = .ok (.getfield 66, 3) := by decide +kernel
theorem d_M_findsRoom_109 : decode zm_M_findsRoom.2.2.1 109 = .ok (.iload_n 2, 1) := by decide +kernel
theorem d_M_findsRoom_110 : decode zm_M_findsRoom.2.2.1 110 = .ok (.dup2, 1) := by decide +kernel
theorem d_M_findsRoom_111 : decode zm_M_findsRoom.2.2.1 111 = .ok (.iaload, 1) := by decide +kernel
theorem d_M_findsRoom_112 : decode zm_M_findsRoom.2.2.1 112 = .ok (.iconst 1, 1) := by decide +kernel
theorem d_M_findsRoom_113 : decode zm_M_findsRoom.2.2.1 113 = .ok (.iadd, 1) := by decide +kernel
theorem d_M_findsRoom_114 : decode zm_M_findsRoom.2.2.1 114 = .ok (.iastore, 1) := by decide +kernel
theorem d_M_findsRoom_115 : decode zm_M_findsRoom.2.2.1 115 = .ok (.goto (-34), 3) := by decide +kernel
theorem d_M_findsRoom_118 : decode zm_M_findsRoom.2.2.1 118 = .ok (.aload_n 0, 1) := by decide +kernel
theorem d_M_findsRoom_119 : decode zm_M_findsRoom.2.2.1 119 = .ok (.getfield 66, 3) := by decide +kernel
theorem d_M_findsRoom_122 : decode zm_M_findsRoom.2.2.1 122 = .ok (.iload_n 2, 1) := by decide +kernel
theorem d_M_findsRoom_123 : decode zm_M_findsRoom.2.2.1 123 = .ok (.iaload, 1) := by decide +kernel
theorem d_M_findsRoom_124 : decode zm_M_findsRoom.2.2.1 124 = .ok (.iload_n 1, 1) := by decide +kernel
theorem d_M_findsRoom_125 : decode zm_M_findsRoom.2.2.1 125 = .ok (.if_icmp .ge 9, 3) := by decide +kernel
theorem d_M_findsRoom_128 : decode zm_M_findsRoom.2.2.1 128 = .ok (.iload_n 2, 1) := by decide +kernel
theorem d_M_findsRoom_129 : decode zm_M_findsRoom.2.2.1 129 = .ok (.iconst 1, 1) := by decide +kernel
theorem d_M_findsRoom_130 : decode zm_M_findsRoom.2.2.1 130 = .ok (.iadd, 1) := by decide +kernel
theorem d_M_findsRoom_131 : decode zm_M_findsRoom.2.2.1 131 = .ok (.goto 8, 3) := by decide +kernel
theorem d_M_findsRoom_134 : decode zm_M_findsRoom.2.2.1 134 = .ok (.aload_n 0, 1) := by decide +kernel
theorem d_M_findsRoom_135 : decode zm_M_findsRoom.2.2.1 135 = .ok (.iload_n 2, 1) := by decide +kernel
theorem d_M_findsRoom_136 : decode zm_M_findsRoom.2.2.1 136 = .ok (.invokevirtual 263, 3) := by decide +kernel
theorem d_M_findsRoom_139 : decode zm_M_findsRoom.2.2.1 139 = .ok (.istore_n 2, 1) := by decide +kernel
theorem d_M_findsRoom_140 : decode zm_M_findsRoom.2.2.1 140 = .ok (.goto (-117), 3) := by decide +kernel
theorem d_M_findsRoom_143 : decode zm_M_findsRoom.2.2.1 143 = .ok (.iload_n 2, 1) := by decide +kernel
theorem d_M_findsRoom_144 : decode zm_M_findsRoom.2.2.1 144 = .ok (.bipush 6, 2) := by decide +kernel
theorem d_M_findsRoom_146 : decode zm_M_findsRoom.2.2.1 146 = .ok (.if_icmp .ne 7, 3) := by decide +kernel
theorem d_M_findsRoom_149 : decode zm_M_findsRoom.2.2.1 149 = .ok (.iconst 1, 1) := by decide +kernel
theorem d_M_findsRoom_150 : decode zm_M_findsRoom.2.2.1 150 = .ok (.goto 4, 3) := by decide +kernel
theorem d_M_findsRoom_153 : decode zm_M_findsRoom.2.2.1 153 = .ok (.iconst 0, 1) := by decide +kernel
theorem d_M_findsRoom_154 : decode zm_M_findsRoom.2.2.1 154 = .ok (.ireturn, 1) := by decide +kernel
theorem d_M_goesOn_0 : decode zm_M_goesOn.2.2.1 0 = .ok (.aload_n 0, 1) := by decide +kernel
theorem d_M_goesOn_1 : decode zm_M_goesOn.2.2.1 1 = .ok (.getfield 66, 3) := by decide +kernel
theorem d_M_goesOn_4 : decode zm_M_goesOn.2.2.1 4 = .ok (.iload_n 1, 1) := by decide +kernel
theorem d_M_goesOn_5 : decode zm_M_goesOn.2.2.1 5 = .ok (.iconst 0, 1) := by decide +kernel
theorem d_M_goesOn_6 : decode zm_M_goesOn.2.2.1 6 = .ok (.iastore, 1) := by decide +kernel
theorem d_M_goesOn_7 : decode zm_M_goesOn.2.2.1 7 = .ok (.iload_n 1, 1) := by decide +kernel
theorem d_M_goesOn_8 : decode zm_M_goesOn.2.2.1 8 = .ok (.iconst 1, 1) := by decide +kernel
theorem d_M_goesOn_9 : decode zm_M_goesOn.2.2.1 9 = .ok (.iadd, 1) := by decide +kernel
theorem d_M_goesOn_10 : decode zm_M_goesOn.2.2.1 10 = .ok (.ireturn, 1) := by decide +kernel
theorem d_M_goesBack_0 : decode zm_M_goesBack.2.2.1 0 = .ok (.aload_n 0, 1) := by decide +kernel
theorem d_M_goesBack_1 : decode zm_M_goesBack.2.2.1 1 = .ok (.getfield 66, 3) := by decide +kernel
theorem d_M_goesBack_4 : decode zm_M_goesBack.2.2.1 4 = .ok (.iload_n 1, 1) := by decide +kernel
theorem d_M_goesBack_5 : decode zm_M_goesBack.2.2.1 5 = .ok (.iconst (-1), 1) := by decide +kernel
theorem d_M_goesBack_6 : decode zm_M_goesBack.2.2.1 6 = .ok (.iastore, 1) := by decide +kernel
theorem d_M_goesBack_7 : decode zm_M_goesBack.2.2.1 7 = .ok (.iload_n 1, 1) := by decide +kernel
theorem d_M_goesBack_8 : decode zm_M_goesBack.2.2.1 8 = .ok (.iconst 1, 1) := by decide +kernel
theorem d_M_goesBack_9 : decode zm_M_goesBack.2.2.1 9 = .ok (.isub, 1) := by decide +kernel
theorem d_M_goesBack_10 : decode zm_M_goesBack.2.2.1 10 = .ok (.ireturn, 1) := by decide +kernel
theorem d_M_layPresses_0 : decode zm_M_layPresses.2.2.1 0 = .ok (.aload_n 0, 1) := by decide +kernel
theorem d_M_layPresses_1 : decode zm_M_layPresses.2.2.1 1 = .ok (.aload_n 0, 1) := by decide +kernel
theorem d_M_layPresses_2 : decode zm_M_layPresses.2.2.1 2 = .ok (.invokevirtual 245, 3) := by decide +kernel
theorem d_M_layPresses_5 : decode zm_M_layPresses.2.2.1 5 = .ok (.invokevirtual 239, 3) := by decide +kernel
theorem d_M_layPresses_8 : decode zm_M_layPresses.2.2.1 8 = .ok (.iconst 0, 1) := by decide +kernel
theorem d_M_layPresses_9 : decode zm_M_layPresses.2.2.1 9 = .ok (.istore_n 1, 1) := by decide +kernel
theorem d_M_layPresses_10 : decode zm_M_layPresses.2.2.1 10 = .ok (.iload_n 1, 1) := by decide +kernel
theorem d_M_layPresses_11 : decode zm_M_layPresses.2.2.1 11 = .ok (.bipush 6, 2) := by decide +kernel
theorem d_M_layPresses_13 : decode zm_M_layPresses.2.2.1 13 = .ok (.if_icmp .ge 20, 3) := by decide +kernel
theorem d_M_layPresses_16 : decode zm_M_layPresses.2.2.1 16 = .ok (.aload_n 0, 1) := by decide +kernel
theorem d_M_layPresses_17 : decode zm_M_layPresses.2.2.1 17 = .ok (.getfield 69, 3) := by decide +kernel
theorem d_M_layPresses_20 : decode zm_M_layPresses.2.2.1 20 = .ok (.iload_n 1, 1) := by decide +kernel
theorem d_M_layPresses_21 : decode zm_M_layPresses.2.2.1 21 = .ok (.aload_n 0, 1) := by decide +kernel
theorem d_M_layPresses_22 : decode zm_M_layPresses.2.2.1 22 = .ok (.iload_n 1, 1) := by decide +kernel
theorem d_M_layPresses_23 : decode zm_M_layPresses.2.2.1 23 = .ok (.invokevirtual 269, 3) := by decide +kernel
theorem d_M_layPresses_26 : decode zm_M_layPresses.2.2.1 26 = .ok (.iastore, 1) := by decide +kernel
theorem d_M_layPresses_27 : decode zm_M_layPresses.2.2.1 27 = .ok (.iinc 1 1, 3) := by decide +kernel
theorem d_M_layPresses_30 : decode zm_M_layPresses.2.2.1 30 = .ok (.goto (-20), 3) := by decide +kernel
theorem d_M_layPresses_33 : decode zm_M_layPresses.2.2.1 33 = .ok (.aload_n 0, 1) := by decide +kernel
theorem d_M_layPresses_34 : decode zm_M_layPresses.2.2.1 34 = .ok (.iconst 0, 1) := by decide +kernel
theorem d_M_layPresses_35 : decode zm_M_layPresses.2.2.1 35 = .ok (.putfield 272, 3) := by decide +kernel
theorem d_M_layPresses_38 : decode zm_M_layPresses.2.2.1 38 = .ok (.aload_n 0, 1) := by decide +kernel
theorem d_M_layPresses_39 : decode zm_M_layPresses.2.2.1 39 = .ok (.aload_n 0, 1) := by decide +kernel
theorem d_M_layPresses_40 : decode zm_M_layPresses.2.2.1 40 = .ok (.getfield 272, 3) := by decide +kernel
theorem d_M_layPresses_43 : decode zm_M_layPresses.2.2.1 43 = .ok (.invokevirtual 275, 3) := by decide +kernel
theorem d_M_layPresses_46 : decode zm_M_layPresses.2.2.1 46 = .ok (.ifCond .ne 16, 3) := by decide +kernel
theorem d_M_layPresses_49 : decode zm_M_layPresses.2.2.1 49 = .ok (.aload_n 0, 1) := by decide +kernel
theorem d_M_layPresses_50 : decode zm_M_layPresses.2.2.1 50 = .ok (.dup, 1) := by decide +kernel
theorem d_M_layPresses_51 : decode zm_M_layPresses.2.2.1 51 = .ok (.getfield 272, 3) := by decide +kernel
theorem d_M_layPresses_54 : decode zm_M_layPresses.2.2.1 54 = .ok (.iconst 1, 1) := by decide +kernel
theorem d_M_layPresses_55 : decode zm_M_layPresses.2.2.1 55 = .ok (.iadd, 1) := by decide +kernel
theorem d_M_layPresses_56 : decode zm_M_layPresses.2.2.1 56 = .ok (.putfield 272, 3) := by decide +kernel
theorem d_M_layPresses_59 : decode zm_M_layPresses.2.2.1 59 = .ok (.goto (-21), 3) := by decide +kernel
theorem d_M_layPresses_62 : decode zm_M_layPresses.2.2.1 62 = .ok (.return_, 1) := by decide +kernel
theorem d_M_pressNow_0 : decode zm_M_pressNow.2.2.1 0 = .ok (.aload_n 0, 1) := by decide +kernel
theorem d_M_pressNow_1 : decode zm_M_pressNow.2.2.1 1 = .ok (.invokevirtual 278, 3) := by decide +kernel
theorem d_M_pressNow_4 : decode zm_M_pressNow.2.2.1 4 = .ok (.aload_n 0, 1) := by decide +kernel
theorem d_M_pressNow_5 : decode zm_M_pressNow.2.2.1 5 = .ok (.getfield 230, 3) := by decide +kernel
theorem d_M_pressNow_8 : decode zm_M_pressNow.2.2.1 8 = .ok (.iload_n 1, 1) := by decide +kernel
theorem d_M_pressNow_9 : decode zm_M_pressNow.2.2.1 9 = .ok (.invokestatic 233, 3) := by decide +kernel
theorem d_M_pressNow_12 : decode zm_M_pressNow.2.2.1 12 = .ok (.ifCond .eq 12, 3) := by decide +kernel
theorem d_M_pressNow_15 : decode zm_M_pressNow.2.2.1 15 = .ok (.aload_n 0, 1) := by decide +kernel
theorem d_M_pressNow_16 : decode zm_M_pressNow.2.2.1 16 = .ok (.getfield 66, 3) := by decide +kernel
theorem d_M_pressNow_19 : decode zm_M_pressNow.2.2.1 19 = .ok (.iload_n 1, 1) := by decide +kernel
theorem d_M_pressNow_20 : decode zm_M_pressNow.2.2.1 20 = .ok (.iaload, 1) := by decide +kernel
theorem d_M_pressNow_21 : decode zm_M_pressNow.2.2.1 21 = .ok (.goto 4, 3) := by decide +kernel
theorem d_M_pressNow_24 : decode zm_M_pressNow.2.2.1 24 = .ok (.iconst (-1), 1) := by decide +kernel
theorem d_M_pressNow_25 : decode zm_M_pressNow.2.2.1 25 = .ok (.ireturn, 1) := by decide +kernel
theorem d_M_onForme_0 : decode zm_M_onForme.2.2.1 0 = .ok (.iconst 0, 1) := by decide +kernel
theorem d_M_onForme_1 : decode zm_M_onForme.2.2.1 1 = .ok (.istore_n 2, 1) := by decide +kernel
theorem d_M_onForme_2 : decode zm_M_onForme.2.2.1 2 = .ok (.iconst 0, 1) := by decide +kernel
theorem d_M_onForme_3 : decode zm_M_onForme.2.2.1 3 = .ok (.istore_n 3, 1) := by decide +kernel
theorem d_M_onForme_4 : decode zm_M_onForme.2.2.1 4 = .ok (.iload_n 3, 1) := by decide +kernel
theorem d_M_onForme_5 : decode zm_M_onForme.2.2.1 5 = .ok (.aload_n 0, 1) := by decide +kernel
theorem d_M_onForme_6 : decode zm_M_onForme.2.2.1 6 = .ok (.getfield 215, 3) := by decide +kernel
theorem d_M_onForme_9 : decode zm_M_onForme.2.2.1 9 = .ok (.if_icmp .ge 27, 3) := by decide +kernel
theorem d_M_onForme_12 : decode zm_M_onForme.2.2.1 12 = .ok (.iload_n 2, 1) := by decide +kernel
theorem d_M_onForme_13 : decode zm_M_onForme.2.2.1 13 = .ok (.aload_n 0, 1) := by decide +kernel
theorem d_M_onForme_14 : decode zm_M_onForme.2.2.1 14 = .ok (.getfield 26, 3) := by decide +kernel
theorem d_M_onForme_17 : decode zm_M_onForme.2.2.1 17 = .ok (.iload_n 3, 1) := by decide +kernel
theorem d_M_onForme_18 : decode zm_M_onForme.2.2.1 18 = .ok (.iaload, 1) := by decide +kernel
theorem d_M_onForme_19 : decode zm_M_onForme.2.2.1 19 = .ok (.iload_n 1, 1) := by decide +kernel
theorem d_M_onForme_20 : decode zm_M_onForme.2.2.1 20 = .ok (.if_icmp .ne 7, 3) := by decide +kernel
theorem d_M_onForme_23 : decode zm_M_onForme.2.2.1 23 = .ok (.iconst 1, 1) := by decide +kernel
theorem d_M_onForme_24 : decode zm_M_onForme.2.2.1 24 = .ok (.goto 4, 3) := by decide +kernel
theorem d_M_onForme_27 : decode zm_M_onForme.2.2.1 27 = .ok (.iconst 0, 1) := by decide +kernel
theorem d_M_onForme_28 : decode zm_M_onForme.2.2.1 28 = .ok (.iadd, 1) := by decide +kernel
theorem d_M_onForme_29 : decode zm_M_onForme.2.2.1 29 = .ok (.istore_n 2, 1) := by decide +kernel
theorem d_M_onForme_30 : decode zm_M_onForme.2.2.1 30 = .ok (.iinc 3 1, 3) := by decide +kernel
theorem d_M_onForme_33 : decode zm_M_onForme.2.2.1 33 = .ok (.goto (-29), 3) := by decide +kernel
theorem d_M_onForme_36 : decode zm_M_onForme.2.2.1 36 = .ok (.iload_n 2, 1) := by decide +kernel
theorem d_M_onForme_37 : decode zm_M_onForme.2.2.1 37 = .ok (.ireturn, 1) := by decide +kernel
theorem d_M_formeNow_0 : decode zm_M_formeNow.2.2.1 0 = .ok (.aload_n 0, 1) := by decide +kernel
theorem d_M_formeNow_1 : decode zm_M_formeNow.2.2.1 1 = .ok (.aload_n 0, 1) := by decide +kernel
theorem d_M_formeNow_2 : decode zm_M_formeNow.2.2.1 2 = .ok (.invokevirtual 245, 3) := by decide +kernel
theorem d_M_formeNow_5 : decode zm_M_formeNow.2.2.1 5 = .ok (.invokevirtual 239, 3) := by decide +kernel
theorem d_M_formeNow_8 : decode zm_M_formeNow.2.2.1 8 = .ok (.iload_n 2, 1) := by decide +kernel
theorem d_M_formeNow_9 : decode zm_M_formeNow.2.2.1 9 = .ok (.tableswitch 56 0 3 #[31, 37, 44, 50], 31) := by decide +kernel
theorem d_M_formeNow_40 : decode zm_M_formeNow.2.2.1 40 = .ok (.aload_n 0, 1) := by decide +kernel
theorem d_M_formeNow_41 : decode zm_M_formeNow.2.2.1 41 = .ok (.iload_n 1, 1) := by decide +kernel
theorem d_M_formeNow_42 : decode zm_M_formeNow.2.2.1 42 = .ok (.invokevirtual 281, 3) := by decide +kernel
theorem d_M_formeNow_45 : decode zm_M_formeNow.2.2.1 45 = .ok (.ireturn, 1) := by decide +kernel
theorem d_M_formeNow_46 : decode zm_M_formeNow.2.2.1 46 = .ok (.aload_n 0, 1) := by decide +kernel
theorem d_M_formeNow_47 : decode zm_M_formeNow.2.2.1 47 = .ok (.getfield 60, 3) := by decide +kernel
theorem d_M_formeNow_50 : decode zm_M_formeNow.2.2.1 50 = .ok (.iload_n 1, 1) := by decide +kernel
theorem d_M_formeNow_51 : decode zm_M_formeNow.2.2.1 51 = .ok (.iaload, 1) := by decide +kernel
theorem d_M_formeNow_52 : decode zm_M_formeNow.2.2.1 52 = .ok (.ireturn, 1) := by decide +kernel
theorem d_M_formeNow_53 : decode zm_M_formeNow.2.2.1 53 = .ok (.aload_n 0, 1) := by decide +kernel
theorem d_M_formeNow_54 : decode zm_M_formeNow.2.2.1 54 = .ok (.iload_n 1, 1) := by decide +kernel
theorem d_M_formeNow_55 : decode zm_M_formeNow.2.2.1 55 = .ok (.invokevirtual 269, 3) := by decide +kernel
theorem d_M_formeNow_58 : decode zm_M_formeNow.2.2.1 58 = .ok (.ireturn, 1) := by decide +kernel
theorem d_M_formeNow_59 : decode zm_M_formeNow.2.2.1 59 = .ok (.aload_n 0, 1) := by decide +kernel
theorem d_M_formeNow_60 : decode zm_M_formeNow.2.2.1 60 = .ok (.iload_n 1, 1) := by decide +kernel
theorem d_M_formeNow_61 : decode zm_M_formeNow.2.2.1 61 = .ok (.invokevirtual 284, 3) := by decide +kernel
theorem d_M_formeNow_64 : decode zm_M_formeNow.2.2.1 64 = .ok (.ireturn, 1) := by decide +kernel
theorem d_M_formeNow_65 : decode zm_M_formeNow.2.2.1 65 = .ok (.aload_n 0, 1) := by decide +kernel
theorem d_M_formeNow_66 : decode zm_M_formeNow.2.2.1 66 = .ok (.iload_n 1, 1) := by decide +kernel
theorem d_M_formeNow_67 : decode zm_M_formeNow.2.2.1 67 = .ok (.invokevirtual 287, 3) := by decide +kernel
theorem d_M_formeNow_70 : decode zm_M_formeNow.2.2.1 70 = .ok (.ireturn, 1) := by decide +kernel
theorem d_M_forme_0 : decode zm_M_forme.2.2.1 0 = .ok (.iload_n 1, 1) := by decide +kernel
theorem d_M_forme_1 : decode zm_M_forme.2.2.1 1 = .ok (.iconst 0, 1) := by decide +kernel
theorem d_M_forme_2 : decode zm_M_forme.2.2.1 2 = .ok (.iconst 5, 1) := by decide +kernel
theorem d_M_forme_3 : decode zm_M_forme.2.2.1 3 = .ok (.invokestatic 72, 3) := by decide +kernel
theorem d_M_forme_6 : decode zm_M_forme.2.2.1 6 = .ok (.ifCond .ne 6, 3) := by decide +kernel
theorem d_M_forme_9 : decode zm_M_forme.2.2.1 9 = .ok (.bipush (-101), 2) := by decide +kernel
theorem d_M_forme_11 : decode zm_M_forme.2.2.1 11 = .ok (.ireturn, 1) := by decide +kernel
theorem d_M_forme_12 : decode zm_M_forme.2.2.1 12 = .ok (.iload_n 2, 1) := by decide +kernel
theorem d_M_forme_13 : decode zm_M_forme.2.2.1 13 = .ok (.iconst 0, 1) := by decide +kernel
theorem d_M_forme_14 : decode zm_M_forme.2.2.1 14 = .ok (.iconst 4, 1) := by decide +kernel
theorem d_M_forme_15 : decode zm_M_forme.2.2.1 15 = .ok (.invokestatic 72, 3) := by decide +kernel
theorem d_M_forme_18 : decode zm_M_forme.2.2.1 18 = .ok (.ifCond .eq 12, 3) := by decide +kernel
theorem d_M_forme_21 : decode zm_M_forme.2.2.1 21 = .ok (.aload_n 0, 1) := by decide +kernel
theorem d_M_forme_22 : decode zm_M_forme.2.2.1 22 = .ok (.iload_n 1, 1) := by decide +kernel
theorem d_M_forme_23 : decode zm_M_forme.2.2.1 23 = .ok (.iload_n 2, 1) := by decide +kernel
theorem d_M_forme_24 : decode zm_M_forme.2.2.1 24 = .ok (.invokevirtual 290, 3) := by decide +kernel
theorem d_M_forme_27 : decode zm_M_forme.2.2.1 27 = .ok (.goto 5, 3) := by decide +kernel
theorem d_M_forme_30 : decode zm_M_forme.2.2.1 30 = .ok (.bipush (-102), 2) := by decide +kernel
theorem d_M_forme_32 : decode zm_M_forme.2.2.1 32 = .ok (.ireturn, 1) := by decide +kernel
theorem d_M_pressesNow_0 : decode zm_M_pressesNow.2.2.1 0 = .ok (.aload_n 0, 1) := by decide +kernel
theorem d_M_pressesNow_1 : decode zm_M_pressesNow.2.2.1 1 = .ok (.invokevirtual 278, 3) := by decide +kernel
theorem d_M_pressesNow_4 : decode zm_M_pressesNow.2.2.1 4 = .ok (.aload_n 0, 1) := by decide +kernel
theorem d_M_pressesNow_5 : decode zm_M_pressesNow.2.2.1 5 = .ok (.getfield 272, 3) := by decide +kernel
theorem d_M_pressesNow_8 : decode zm_M_pressesNow.2.2.1 8 = .ok (.ireturn, 1) := by decide +kernel
theorem d_M_typesSeen_0 : decode zm_M_typesSeen.2.2.1 0 = .ok (.iconst 0, 1) := by decide +kernel
theorem d_M_typesSeen_1 : decode zm_M_typesSeen.2.2.1 1 = .ok (.istore_n 1, 1) := by decide +kernel
theorem d_M_typesSeen_2 : decode zm_M_typesSeen.2.2.1 2 = .ok (.iconst 0, 1) := by decide +kernel
theorem d_M_typesSeen_3 : decode zm_M_typesSeen.2.2.1 3 = .ok (.istore_n 2, 1) := by decide +kernel
theorem d_M_typesSeen_4 : decode zm_M_typesSeen.2.2.1 4 = .ok (.iload_n 2, 1) := by decide +kernel
theorem d_M_typesSeen_5 : decode zm_M_typesSeen.2.2.1 5 = .ok (.aload_n 0, 1) := by decide +kernel
theorem d_M_typesSeen_6 : decode zm_M_typesSeen.2.2.1 6 = .ok (.getfield 215, 3) := by decide +kernel
theorem d_M_typesSeen_9 : decode zm_M_typesSeen.2.2.1 9 = .ok (.if_icmp .ge 20, 3) := by decide +kernel
theorem d_M_typesSeen_12 : decode zm_M_typesSeen.2.2.1 12 = .ok (.iload_n 1, 1) := by decide +kernel
theorem d_M_typesSeen_13 : decode zm_M_typesSeen.2.2.1 13 = .ok (.iconst 1, 1) := by decide +kernel
theorem d_M_typesSeen_14 : decode zm_M_typesSeen.2.2.1 14 = .ok (.aload_n 0, 1) := by decide +kernel
theorem d_M_typesSeen_15 : decode zm_M_typesSeen.2.2.1 15 = .ok (.getfield 23, 3) := by decide +kernel
theorem d_M_typesSeen_18 : decode zm_M_typesSeen.2.2.1 18 = .ok (.iload_n 2, 1) := by decide +kernel
theorem d_M_typesSeen_19 : decode zm_M_typesSeen.2.2.1 19 = .ok (.iaload, 1) := by decide +kernel
theorem d_M_typesSeen_20 : decode zm_M_typesSeen.2.2.1 20 = .ok (.ishl, 1) := by decide +kernel
theorem d_M_typesSeen_21 : decode zm_M_typesSeen.2.2.1 21 = .ok (.ior, 1) := by decide +kernel
theorem d_M_typesSeen_22 : decode zm_M_typesSeen.2.2.1 22 = .ok (.istore_n 1, 1) := by decide +kernel
theorem d_M_typesSeen_23 : decode zm_M_typesSeen.2.2.1 23 = .ok (.iinc 2 1, 3) := by decide +kernel
theorem d_M_typesSeen_26 : decode zm_M_typesSeen.2.2.1 26 = .ok (.goto (-22), 3) := by decide +kernel
theorem d_M_typesSeen_29 : decode zm_M_typesSeen.2.2.1 29 = .ok (.iload_n 1, 1) := by decide +kernel
theorem d_M_typesSeen_30 : decode zm_M_typesSeen.2.2.1 30 = .ok (.ireturn, 1) := by decide +kernel
theorem d_M_formesNow_0 : decode zm_M_formesNow.2.2.1 0 = .ok (.aload_n 0, 1) := by decide +kernel
theorem d_M_formesNow_1 : decode zm_M_formesNow.2.2.1 1 = .ok (.aload_n 0, 1) := by decide +kernel
theorem d_M_formesNow_2 : decode zm_M_formesNow.2.2.1 2 = .ok (.invokevirtual 245, 3) := by decide +kernel
theorem d_M_formesNow_5 : decode zm_M_formesNow.2.2.1 5 = .ok (.invokevirtual 251, 3) := by decide +kernel
theorem d_M_formesNow_8 : decode zm_M_formesNow.2.2.1 8 = .ok (.istore_n 2, 1) := by decide +kernel
theorem d_M_formesNow_9 : decode zm_M_formesNow.2.2.1 9 = .ok (.iload_n 1, 1) := by decide +kernel
theorem d_M_formesNow_10 : decode zm_M_formesNow.2.2.1 10 = .ok (.tableswitch 62 0 4 #[34, 42, 44, 52, 57], 34) := by decide +kernel
theorem d_M_formesNow_44 : decode zm_M_formesNow.2.2.1 44 = .ok (.aload_n 0, 1) := by decide +kernel
theorem d_M_formesNow_45 : decode zm_M_formesNow.2.2.1 45 = .ok (.getfield 230, 3) := by decide +kernel
theorem d_M_formesNow_48 : decode zm_M_formesNow.2.2.1 48 = .ok (.invokestatic 248, 3) := by decide +kernel
theorem d_M_formesNow_51 : decode zm_M_formesNow.2.2.1 51 = .ok (.ireturn, 1) := by decide +kernel
theorem d_M_formesNow_52 : decode zm_M_formesNow.2.2.1 52 = .ok (.iload_n 2, 1) := by decide +kernel
theorem d_M_formesNow_53 : decode zm_M_formesNow.2.2.1 53 = .ok (.ireturn, 1) := by decide +kernel
theorem d_M_formesNow_54 : decode zm_M_formesNow.2.2.1 54 = .ok (.aload_n 0, 1) := by decide +kernel
theorem d_M_formesNow_55 : decode zm_M_formesNow.2.2.1 55 = .ok (.invokevirtual 293, 3) := by decide +kernel
theorem d_M_formesNow_58 : decode zm_M_formesNow.2.2.1 58 = .ok (.invokestatic 248, 3) := by decide +kernel
theorem d_M_formesNow_61 : decode zm_M_formesNow.2.2.1 61 = .ok (.ireturn, 1) := by decide +kernel
theorem d_M_formesNow_62 : decode zm_M_formesNow.2.2.1 62 = .ok (.aload_n 0, 1) := by decide +kernel
theorem d_M_formesNow_63 : decode zm_M_formesNow.2.2.1 63 = .ok (.invokevirtual 293, 3) := by decide +kernel
theorem d_M_formesNow_66 : decode zm_M_formesNow.2.2.1 66 = .ok (.ireturn, 1) := by decide +kernel
theorem d_M_formesNow_67 : decode zm_M_formesNow.2.2.1 67 = .ok (.aload_n 0, 1) := by decide +kernel
theorem d_M_formesNow_68 : decode zm_M_formesNow.2.2.1 68 = .ok (.invokevirtual 296, 3) := by decide +kernel
theorem d_M_formesNow_71 : decode zm_M_formesNow.2.2.1 71 = .ok (.ireturn, 1) := by decide +kernel
theorem d_M_formesNow_72 : decode zm_M_formesNow.2.2.1 72 = .ok (.aload_n 0, 1) := by decide +kernel
theorem d_M_formesNow_73 : decode zm_M_formesNow.2.2.1 73 = .ok (.invokevirtual 299, 3) := by decide +kernel
theorem d_M_formesNow_76 : decode zm_M_formesNow.2.2.1 76 = .ok (.ireturn, 1) := by decide +kernel
theorem d_M_formes_0 : decode zm_M_formes.2.2.1 0 = .ok (.iload_n 1, 1) := by decide +kernel
theorem d_M_formes_1 : decode zm_M_formes.2.2.1 1 = .ok (.iconst 0, 1) := by decide +kernel
theorem d_M_formes_2 : decode zm_M_formes.2.2.1 2 = .ok (.iconst 5, 1) := by decide +kernel
theorem d_M_formes_3 : decode zm_M_formes.2.2.1 3 = .ok (.invokestatic 72, 3) := by decide +kernel
theorem d_M_formes_6 : decode zm_M_formes.2.2.1 6 = .ok (.ifCond .eq 11, 3) := by decide +kernel
theorem d_M_formes_9 : decode zm_M_formes.2.2.1 9 = .ok (.aload_n 0, 1) := by decide +kernel
theorem d_M_formes_10 : decode zm_M_formes.2.2.1 10 = .ok (.iload_n 1, 1) := by decide +kernel
theorem d_M_formes_11 : decode zm_M_formes.2.2.1 11 = .ok (.invokevirtual 302, 3) := by decide +kernel
theorem d_M_formes_14 : decode zm_M_formes.2.2.1 14 = .ok (.goto 5, 3) := by decide +kernel
theorem d_M_formes_17 : decode zm_M_formes.2.2.1 17 = .ok (.bipush (-102), 2) := by decide +kernel
theorem d_M_formes_19 : decode zm_M_formes.2.2.1 19 = .ok (.ireturn, 1) := by decide +kernel
theorem d_M_howMany_0 : decode zm_M_howMany.2.2.1 0 = .ok (.iload_n 1, 1) := by decide +kernel
theorem d_M_howMany_1 : decode zm_M_howMany.2.2.1 1 = .ok (.tableswitch 69 0 5 #[39, 44, 49, 54, 59, 64], 39) := by decide +kernel
theorem d_M_howMany_40 : decode zm_M_howMany.2.2.1 40 = .ok (.aload_n 0, 1) := by decide +kernel
theorem d_M_howMany_41 : decode zm_M_howMany.2.2.1 41 = .ok (.getfield 86, 3) := by decide +kernel
theorem d_M_howMany_44 : decode zm_M_howMany.2.2.1 44 = .ok (.ireturn, 1) := by decide +kernel
theorem d_M_howMany_45 : decode zm_M_howMany.2.2.1 45 = .ok (.aload_n 0, 1) := by decide +kernel
theorem d_M_howMany_46 : decode zm_M_howMany.2.2.1 46 = .ok (.getfield 215, 3) := by decide +kernel
theorem d_M_howMany_49 : decode zm_M_howMany.2.2.1 49 = .ok (.ireturn, 1) := by decide +kernel
theorem d_M_howMany_50 : decode zm_M_howMany.2.2.1 50 = .ok (.aload_n 0, 1) := by decide +kernel
theorem d_M_howMany_51 : decode zm_M_howMany.2.2.1 51 = .ok (.getfield 76, 3) := by decide +kernel
theorem d_M_howMany_54 : decode zm_M_howMany.2.2.1 54 = .ok (.ireturn, 1) := by decide +kernel
theorem d_M_howMany_55 : decode zm_M_howMany.2.2.1 55 = .ok (.aload_n 0, 1) := by decide +kernel
theorem d_M_howMany_56 : decode zm_M_howMany.2.2.1 56 = .ok (.getfield 19, 3) := by decide +kernel
theorem d_M_howMany_59 : decode zm_M_howMany.2.2.1 59 = .ok (.ireturn, 1) := by decide +kernel
theorem d_M_howMany_60 : decode zm_M_howMany.2.2.1 60 = .ok (.aload_n 0, 1) := by decide +kernel
theorem d_M_howMany_61 : decode zm_M_howMany.2.2.1 61 = .ok (.getfield 79, 3) := by decide +kernel
theorem d_M_howMany_64 : decode zm_M_howMany.2.2.1 64 = .ok (.ireturn, 1) := by decide +kernel
theorem d_M_howMany_65 : decode zm_M_howMany.2.2.1 65 = .ok (.aload_n 0, 1) := by decide +kernel
theorem d_M_howMany_66 : decode zm_M_howMany.2.2.1 66 = .ok (.getfield 224, 3) := by decide +kernel
theorem d_M_howMany_69 : decode zm_M_howMany.2.2.1 69 = .ok (.ireturn, 1) := by decide +kernel
theorem d_M_howMany_70 : decode zm_M_howMany.2.2.1 70 = .ok (.bipush (-102), 2) := by decide +kernel
theorem d_M_howMany_72 : decode zm_M_howMany.2.2.1 72 = .ok (.ireturn, 1) := by decide +kernel
theorem d_M_count_0 : decode zm_M_count.2.2.1 0 = .ok (.aload_n 0, 1) := by decide +kernel
theorem d_M_count_1 : decode zm_M_count.2.2.1 1 = .ok (.iload_n 1, 1) := by decide +kernel
theorem d_M_count_2 : decode zm_M_count.2.2.1 2 = .ok (.invokevirtual 305, 3) := by decide +kernel
theorem d_M_count_5 : decode zm_M_count.2.2.1 5 = .ok (.ireturn, 1) := by decide +kernel
theorem d_M_mix_0 : decode zm_M_mix.2.2.1 0 = .ok (.aload_n 0, 1) := by decide +kernel
theorem d_M_mix_1 : decode zm_M_mix.2.2.1 1 = .ok (.ldc2_w 308, 3) := by decide +kernel
theorem d_M_mix_4 : decode zm_M_mix.2.2.1 4 = .ok (.aload_n 0, 1) := by decide +kernel
theorem d_M_mix_5 : decode zm_M_mix.2.2.1 5 = .ok (.getfield 310, 3) := by decide +kernel
theorem d_M_mix_8 : decode zm_M_mix.2.2.1 8 = .ok (.lmul, 1) := by decide +kernel
theorem d_M_mix_9 : decode zm_M_mix.2.2.1 9 = .ok (.lload_n 1, 1) := by decide +kernel
theorem d_M_mix_10 : decode zm_M_mix.2.2.1 10 = .ok (.ladd, 1) := by decide +kernel
theorem d_M_mix_11 : decode zm_M_mix.2.2.1 11 = .ok (.putfield 310, 3) := by decide +kernel
theorem d_M_mix_14 : decode zm_M_mix.2.2.1 14 = .ok (.return_, 1) := by decide +kernel
theorem d_M_mixCopies_0 : decode zm_M_mixCopies.2.2.1 0 = .ok (.iconst 0, 1) := by decide +kernel
theorem d_M_mixCopies_1 : decode zm_M_mixCopies.2.2.1 1 = .ok (.istore_n 1, 1) := by decide +kernel
theorem d_M_mixCopies_2 : decode zm_M_mixCopies.2.2.1 2 = .ok (.iload_n 1, 1) := by decide +kernel
theorem d_M_mixCopies_3 : decode zm_M_mixCopies.2.2.1 3 = .ok (.aload_n 0, 1) := by decide +kernel
theorem d_M_mixCopies_4 : decode zm_M_mixCopies.2.2.1 4 = .ok (.getfield 86, 3) := by decide +kernel
theorem d_M_mixCopies_7 : decode zm_M_mixCopies.2.2.1 7 = .ok (.if_icmp .ge 103, 3) := by decide +kernel
theorem d_M_mixCopies_10 : decode zm_M_mixCopies.2.2.1 10 = .ok (.iconst 0, 1) := by decide +kernel
theorem d_M_mixCopies_11 : decode zm_M_mixCopies.2.2.1 11 = .ok (.istore_n 2, 1) := by decide +kernel
theorem d_M_mixCopies_12 : decode zm_M_mixCopies.2.2.1 12 = .ok (.iload_n 2, 1) := by decide +kernel
theorem d_M_mixCopies_13 : decode zm_M_mixCopies.2.2.1 13 = .ok (.iconst 5, 1) := by decide +kernel
theorem d_M_mixCopies_14 : decode zm_M_mixCopies.2.2.1 14 = .ok (.if_icmp .ge 20, 3) := by decide +kernel
theorem d_M_mixCopies_17 : decode zm_M_mixCopies.2.2.1 17 = .ok (.aload_n 0, 1) := by decide +kernel
theorem d_M_mixCopies_18 : decode zm_M_mixCopies.2.2.1 18 = .ok (.aload_n 0, 1) := by decide +kernel
theorem d_M_mixCopies_19 : decode zm_M_mixCopies.2.2.1 19 = .ok (.iload_n 1, 1) := by decide +kernel
theorem d_M_mixCopies_20 : decode zm_M_mixCopies.2.2.1 20 = .ok (.iload_n 2, 1) := by decide +kernel
theorem d_M_mixCopies_21 : decode zm_M_mixCopies.2.2.1 21 = .ok (.invokevirtual 179, 3) := by decide +kernel
theorem d_M_mixCopies_24 : decode zm_M_mixCopies.2.2.1 24 = .ok (.i2l, 1) := by decide +kernel
theorem d_M_mixCopies_25 : decode zm_M_mixCopies.2.2.1 25 = .ok (.invokevirtual 314, 3) := by decide +kernel
theorem d_M_mixCopies_28 : decode zm_M_mixCopies.2.2.1 28 = .ok (.iinc 2 1, 3) := by decide +kernel
theorem d_M_mixCopies_31 : decode zm_M_mixCopies.2.2.1 31 = .ok (.goto (-19), 3) := by decide +kernel
theorem d_M_mixCopies_34 : decode zm_M_mixCopies.2.2.1 34 = .ok (.iconst 0, 1) := by decide +kernel
theorem d_M_mixCopies_35 : decode zm_M_mixCopies.2.2.1 35 = .ok (.istore_n 2, 1) := by decide +kernel
theorem d_M_mixCopies_36 : decode zm_M_mixCopies.2.2.1 36 = .ok (.iload_n 2, 1) := by decide +kernel
theorem d_M_mixCopies_37 : decode zm_M_mixCopies.2.2.1 37 = .ok (.aload_n 0, 1) := by decide +kernel
theorem d_M_mixCopies_38 : decode zm_M_mixCopies.2.2.1 38 = .ok (.getfield 13, 3) := by decide +kernel
theorem d_M_mixCopies_41 : decode zm_M_mixCopies.2.2.1 41 = .ok (.iload_n 1, 1) := by decide +kernel
theorem d_M_mixCopies_42 : decode zm_M_mixCopies.2.2.1 42 = .ok (.iaload, 1) := by decide +kernel
theorem d_M_mixCopies_43 : decode zm_M_mixCopies.2.2.1 43 = .ok (.if_icmp .ge 20, 3) := by decide +kernel
theorem d_M_mixCopies_46 : decode zm_M_mixCopies.2.2.1 46 = .ok (.aload_n 0, 1) := by decide +kernel
theorem d_M_mixCopies_47 : decode zm_M_mixCopies.2.2.1 47 = .ok (.aload_n 0, 1) := by decide +kernel
theorem d_M_mixCopies_48 : decode zm_M_mixCopies.2.2.1 48 = .ok (.iload_n 1, 1) := by decide +kernel
theorem d_M_mixCopies_49 : decode zm_M_mixCopies.2.2.1 49 = .ok (.iload_n 2, 1) := by decide +kernel
theorem d_M_mixCopies_50 : decode zm_M_mixCopies.2.2.1 50 = .ok (.invokevirtual 108, 3) := by decide +kernel
theorem d_M_mixCopies_53 : decode zm_M_mixCopies.2.2.1 53 = .ok (.i2l, 1) := by decide +kernel
theorem d_M_mixCopies_54 : decode zm_M_mixCopies.2.2.1 54 = .ok (.invokevirtual 314, 3) := by decide +kernel
theorem d_M_mixCopies_57 : decode zm_M_mixCopies.2.2.1 57 = .ok (.iinc 2 1, 3) := by decide +kernel
theorem d_M_mixCopies_60 : decode zm_M_mixCopies.2.2.1 60 = .ok (.goto (-24), 3) := by decide +kernel
theorem d_M_mixCopies_63 : decode zm_M_mixCopies.2.2.1 63 = .ok (.iconst 0, 1) := by decide +kernel
theorem d_M_mixCopies_64 : decode zm_M_mixCopies.2.2.1 64 = .ok (.istore_n 2, 1) := by decide +kernel
theorem d_M_mixCopies_65 : decode zm_M_mixCopies.2.2.1 65 = .ok (.iload_n 2, 1) := by decide +kernel
theorem d_M_mixCopies_66 : decode zm_M_mixCopies.2.2.1 66 = .ok (.aload_n 0, 1) := by decide +kernel
theorem d_M_mixCopies_67 : decode zm_M_mixCopies.2.2.1 67 = .ok (.invokevirtual 141, 3) := by decide +kernel
theorem d_M_mixCopies_70 : decode zm_M_mixCopies.2.2.1 70 = .ok (.if_icmp .ge 34, 3) := by decide +kernel
theorem d_M_mixCopies_73 : decode zm_M_mixCopies.2.2.1 73 = .ok (.aload_n 0, 1) := by decide +kernel
theorem d_M_mixCopies_74 : decode zm_M_mixCopies.2.2.1 74 = .ok (.getfield 44, 3) := by decide +kernel
theorem d_M_mixCopies_77 : decode zm_M_mixCopies.2.2.1 77 = .ok (.iload_n 1, 1) := by decide +kernel
theorem d_M_mixCopies_78 : decode zm_M_mixCopies.2.2.1 78 = .ok (.baload, 1) := by decide +kernel
theorem d_M_mixCopies_79 : decode zm_M_mixCopies.2.2.1 79 = .ok (.ifCond .ne 25, 3) := by decide +kernel
theorem d_M_mixCopies_82 : decode zm_M_mixCopies.2.2.1 82 = .ok (.aload_n 0, 1) := by decide +kernel
theorem d_M_mixCopies_83 : decode zm_M_mixCopies.2.2.1 83 = .ok (.aload_n 0, 1) := by decide +kernel
theorem d_M_mixCopies_84 : decode zm_M_mixCopies.2.2.1 84 = .ok (.getfield 41, 3) := by decide +kernel
theorem d_M_mixCopies_87 : decode zm_M_mixCopies.2.2.1 87 = .ok (.bipush 24, 2) := by decide +kernel
theorem d_M_mixCopies_89 : decode zm_M_mixCopies.2.2.1 89 = .ok (.iload_n 1, 1) := by decide +kernel
theorem d_M_mixCopies_90 : decode zm_M_mixCopies.2.2.1 90 = .ok (.imul, 1) := by decide +kernel
theorem d_M_mixCopies_91 : decode zm_M_mixCopies.2.2.1 91 = .ok (.iload_n 2, 1) := by decide +kernel
theorem d_M_mixCopies_92 : decode zm_M_mixCopies.2.2.1 92 = .ok (.iadd, 1) := by decide +kernel
theorem d_M_mixCopies_93 : decode zm_M_mixCopies.2.2.1 93 = .ok (.iaload, 1) := by decide +kernel
theorem d_M_mixCopies_94 : decode zm_M_mixCopies.2.2.1 94 = .ok (.i2l, 1) := by decide +kernel
theorem d_M_mixCopies_95 : decode zm_M_mixCopies.2.2.1 95 = .ok (.invokevirtual 314, 3) := by decide +kernel
theorem d_M_mixCopies_98 : decode zm_M_mixCopies.2.2.1 98 = .ok (.iinc 2 1, 3) := by decide +kernel
theorem d_M_mixCopies_101 : decode zm_M_mixCopies.2.2.1 101 = .ok (.goto (-36), 3) := by decide +kernel
theorem d_M_mixCopies_104 : decode zm_M_mixCopies.2.2.1 104 = .ok (.iinc 1 1, 3) := by decide +kernel
theorem d_M_mixCopies_107 : decode zm_M_mixCopies.2.2.1 107 = .ok (.goto (-105), 3) := by decide +kernel
theorem d_M_mixCopies_110 : decode zm_M_mixCopies.2.2.1 110 = .ok (.iconst 0, 1) := by decide +kernel
theorem d_M_mixCopies_111 : decode zm_M_mixCopies.2.2.1 111 = .ok (.istore_n 1, 1) := by decide +kernel
theorem d_M_mixCopies_112 : decode zm_M_mixCopies.2.2.1 112 = .ok (.iload_n 1, 1) := by decide +kernel
theorem d_M_mixCopies_113 : decode zm_M_mixCopies.2.2.1 113 = .ok (.aload_n 0, 1) := by decide +kernel
theorem d_M_mixCopies_114 : decode zm_M_mixCopies.2.2.1 114 = .ok (.getfield 86, 3) := by decide +kernel
theorem d_M_mixCopies_117 : decode zm_M_mixCopies.2.2.1 117 = .ok (.if_icmp .ge 53, 3) := by decide +kernel
theorem d_M_mixCopies_120 : decode zm_M_mixCopies.2.2.1 120 = .ok (.iload_n 1, 1) := by decide +kernel
theorem d_M_mixCopies_121 : decode zm_M_mixCopies.2.2.1 121 = .ok (.iconst 1, 1) := by decide +kernel
theorem d_M_mixCopies_122 : decode zm_M_mixCopies.2.2.1 122 = .ok (.iadd, 1) := by decide +kernel
theorem d_M_mixCopies_123 : decode zm_M_mixCopies.2.2.1 123 = .ok (.istore_n 2, 1) := by decide +kernel
theorem d_M_mixCopies_124 : decode zm_M_mixCopies.2.2.1 124 = .ok (.iload_n 2, 1) := by decide +kernel
theorem d_M_mixCopies_125 : decode zm_M_mixCopies.2.2.1 125 = .ok (.aload_n 0, 1) := by decide +kernel
theorem d_M_mixCopies_126 : decode zm_M_mixCopies.2.2.1 126 = .ok (.getfield 86, 3) := by decide +kernel
theorem d_M_mixCopies_129 : decode zm_M_mixCopies.2.2.1 129 = .ok (.if_icmp .ge 35, 3) := by decide +kernel
theorem d_M_mixCopies_132 : decode zm_M_mixCopies.2.2.1 132 = .ok (.iconst 0, 1) := by decide +kernel
theorem d_M_mixCopies_133 : decode zm_M_mixCopies.2.2.1 133 = .ok (.istore_n 3, 1) := by decide +kernel
theorem d_M_mixCopies_134 : decode zm_M_mixCopies.2.2.1 134 = .ok (.iload_n 3, 1) := by decide +kernel
theorem d_M_mixCopies_135 : decode zm_M_mixCopies.2.2.1 135 = .ok (.bipush 7, 2) := by decide +kernel
theorem d_M_mixCopies_137 : decode zm_M_mixCopies.2.2.1 137 = .ok (.if_icmp .ge 21, 3) := by decide +kernel
theorem d_M_mixCopies_140 : decode zm_M_mixCopies.2.2.1 140 = .ok (.aload_n 0, 1) := by decide +kernel
theorem d_M_mixCopies_141 : decode zm_M_mixCopies.2.2.1 141 = .ok (.aload_n 0, 1) := by decide +kernel
theorem d_M_mixCopies_142 : decode zm_M_mixCopies.2.2.1 142 = .ok (.iload_n 1, 1) := by decide +kernel
theorem d_M_mixCopies_143 : decode zm_M_mixCopies.2.2.1 143 = .ok (.iload_n 2, 1) := by decide +kernel
theorem d_M_mixCopies_144 : decode zm_M_mixCopies.2.2.1 144 = .ok (.iload_n 3, 1) := by decide +kernel
theorem d_M_mixCopies_145 : decode zm_M_mixCopies.2.2.1 145 = .ok (.invokevirtual 135, 3) := by decide +kernel
theorem d_M_mixCopies_148 : decode zm_M_mixCopies.2.2.1 148 = .ok (.i2l, 1) := by decide +kernel
theorem d_M_mixCopies_149 : decode zm_M_mixCopies.2.2.1 149 = .ok (.invokevirtual 314, 3) := by decide +kernel
theorem d_M_mixCopies_152 : decode zm_M_mixCopies.2.2.1 152 = .ok (.iinc 3 1, 3) := by decide +kernel
theorem d_M_mixCopies_155 : decode zm_M_mixCopies.2.2.1 155 = .ok (.goto (-21), 3) := by decide +kernel
theorem d_M_mixCopies_158 : decode zm_M_mixCopies.2.2.1 158 = .ok (.iinc 2 1, 3) := by decide +kernel
theorem d_M_mixCopies_161 : decode zm_M_mixCopies.2.2.1 161 = .ok (.goto (-37), 3) := by decide +kernel
theorem d_M_mixCopies_164 : decode zm_M_mixCopies.2.2.1 164 = .ok (.iinc 1 1, 3) := by decide +kernel
theorem d_M_mixCopies_167 : decode zm_M_mixCopies.2.2.1 167 = .ok (.goto (-55), 3) := by decide +kernel
theorem d_M_mixCopies_170 : decode zm_M_mixCopies.2.2.1 170 = .ok (.return_, 1) := by decide +kernel
