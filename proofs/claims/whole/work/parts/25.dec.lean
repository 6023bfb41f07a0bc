theorem d_M_layTree_0 : decode zm_M_layTree.2.2.1 0 = .ok (.iconst 0, 1) := by decide +kernel
theorem d_M_layTree_1 : decode zm_M_layTree.2.2.1 1 = .ok (.istore_n 1, 1) := by decide +kernel
theorem d_M_layTree_2 : decode zm_M_layTree.2.2.1 2 = .ok (.iload_n 1, 1) := by decide +kernel
theorem d_M_layTree_3 : decode zm_M_layTree.2.2.1 3 = .ok (.aload_n 0, 1) := by decide +kernel
theorem d_M_layTree_4 : decode zm_M_layTree.2.2.1 4 = .ok (.getfield 148, 3) := by decide +kernel
theorem d_M_layTree_7 : decode zm_M_layTree.2.2.1 7 = .ok (.if_icmp .ge 23, 3) := by decide +kernel
theorem d_M_layTree_10 : decode zm_M_layTree.2.2.1 10 = .ok (.aload_n 0, 1) := by decide +kernel
theorem d_M_layTree_11 : decode zm_M_layTree.2.2.1 11 = .ok (.getfield 57, 3) := by decide +kernel
theorem d_M_layTree_14 : decode zm_M_layTree.2.2.1 14 = .ok (.iload_n 1, 1) := by decide +kernel
theorem d_M_layTree_15 : decode zm_M_layTree.2.2.1 15 = .ok (.iconst (-1), 1) := by decide +kernel
theorem d_M_layTree_16 : decode zm_M_layTree.2.2.1 16 = .ok (.iastore, 1) := by decide +kernel
theorem d_M_layTree_17 : decode zm_M_layTree.2.2.1 17 = .ok (.aload_n 0, 1) := by decide +kernel
theorem d_M_layTree_18 : decode zm_M_layTree.2.2.1 18 = .ok (.getfield 54, 3) := by decide +kernel
theorem d_M_layTree_21 : decode zm_M_layTree.2.2.1 21 = .ok (.iload_n 1, 1) := by decide +kernel
theorem d_M_layTree_22 : decode zm_M_layTree.2.2.1 22 = .ok (.iconst (-1), 1) := by decide +kernel
theorem d_M_layTree_23 : decode zm_M_layTree.2.2.1 23 = .ok (.iastore, 1) := by decide +kernel
theorem d_M_layTree_24 : decode zm_M_layTree.2.2.1 24 = .ok (.iinc 1 1, 3) := by decide +kernel
theorem d_M_layTree_27 : decode zm_M_layTree.2.2.1 27 = .ok (.goto (-25), 3) := by decide +kernel
theorem d_M_layTree_30 : decode zm_M_layTree.2.2.1 30 = .ok (.aload_n 0, 1) := by decide +kernel
theorem d_M_layTree_31 : decode zm_M_layTree.2.2.1 31 = .ok (.getfield 57, 3) := by decide +kernel
theorem d_M_layTree_34 : decode zm_M_layTree.2.2.1 34 = .ok (.iconst 0, 1) := by decide +kernel
theorem d_M_layTree_35 : decode zm_M_layTree.2.2.1 35 = .ok (.iconst 0, 1) := by decide +kernel
theorem d_M_layTree_36 : decode zm_M_layTree.2.2.1 36 = .ok (.iastore, 1) := by decide +kernel
theorem d_M_layTree_37 : decode zm_M_layTree.2.2.1 37 = .ok (.iconst 1, 1) := by decide +kernel
theorem d_M_layTree_38 : decode zm_M_layTree.2.2.1 38 = .ok (.istore_n 1, 1) := by decide +kernel
theorem d_M_layTree_39 : decode zm_M_layTree.2.2.1 39 = .ok (.iload_n 1, 1) := by decide +kernel
theorem d_M_layTree_40 : decode zm_M_layTree.2.2.1 40 = .ok (.aload_n 0, 1) := by decide +kernel
theorem d_M_layTree_41 : decode zm_M_layTree.2.2.1 41 = .ok (.getfield 148, 3) := by decide +kernel
theorem d_M_layTree_44 : decode zm_M_layTree.2.2.1 44 = .ok (.if_icmp .ge 153, 3) := by decide +kernel
theorem d_M_layTree_47 : decode zm_M_layTree.2.2.1 47 = .ok (.iconst (-1), 1) := by decide +kernel
theorem d_M_layTree_48 : decode zm_M_layTree.2.2.1 48 = .ok (.istore_n 2, 1) := by decide +kernel
theorem d_M_layTree_49 : decode zm_M_layTree.2.2.1 49 = .ok (.iconst (-1), 1) := by decide +kernel
theorem d_M_layTree_50 : decode zm_M_layTree.2.2.1 50 = .ok (.istore_n 3, 1) := by decide +kernel
theorem d_M_layTree_51 : decode zm_M_layTree.2.2.1 51 = .ok (.ldc 107, 2) := by decide +kernel
theorem d_M_layTree_53 : decode zm_M_layTree.2.2.1 53 = .ok (.istore 4, 2) := by decide +kernel
theorem d_M_layTree_55 : decode zm_M_layTree.2.2.1 55 = .ok (.iconst 0, 1) := by decide +kernel
theorem d_M_layTree_56 : decode zm_M_layTree.2.2.1 56 = .ok (.istore 5, 2) := by decide +kernel
theorem d_M_layTree_58 : decode zm_M_layTree.2.2.1 58 = .ok (.iload 5, 2) := by decide +kernel
theorem d_M_layTree_60 : decode zm_M_layTree.2.2.1 60 = .ok (.aload_n 0, 1) := by decide +kernel
theorem d_M_layTree_61 : decode zm_M_layTree.2.2.1 61 = .ok (.getfield 148, 3) := by decide +kernel
theorem d_M_layTree_64 : decode zm_M_layTree.2.2.1 64 = .ok (.if_icmp .ge 113, 3) := by decide +kernel
theorem d_M_layTree_67 : decode zm_M_layTree.2.2.1 67 = .ok (.iconst 0, 1) := by decide +kernel
theorem d_M_layTree_68 : decode zm_M_layTree.2.2.1 68 = .ok (.istore 6, 2) := by decide +kernel
theorem d_M_layTree_70 : decode zm_M_layTree.2.2.1 70 = .ok (.iload 6, 2) := by decide +kernel
theorem d_M_layTree_72 : decode zm_M_layTree.2.2.1 72 = .ok (.aload_n 0, 1) := by decide +kernel
theorem d_M_layTree_73 : decode zm_M_layTree.2.2.1 73 = .ok (.getfield 148, 3) := by decide +kernel
theorem d_M_layTree_76 : decode zm_M_layTree.2.2.1 76 = .ok (.if_icmp .ge 95, 3) := by decide +kernel
theorem d_M_layTree_79 : decode zm_M_layTree.2.2.1 79 = .ok (.aload_n 0, 1) := by decide +kernel
theorem d_M_layTree_80 : decode zm_M_layTree.2.2.1 80 = .ok (.getfield 57, 3) := by decide +kernel
theorem d_M_layTree_83 : decode zm_M_layTree.2.2.1 83 = .ok (.iload 5, 2) := by decide +kernel
theorem d_M_layTree_85 : decode zm_M_layTree.2.2.1 85 = .ok (.iaload, 1) := by decide +kernel
theorem d_M_layTree_86 : decode zm_M_layTree.2.2.1 86 = .ok (.iconst (-1), 1) := by decide +kernel
theorem d_M_layTree_87 : decode zm_M_layTree.2.2.1 87 = .ok (.if_icmp .eq 31, 3) := by decide +kernel
theorem d_M_layTree_90 : decode zm_M_layTree.2.2.1 90 = .ok (.aload_n 0, 1) := by decide +kernel
theorem d_M_layTree_91 : decode zm_M_layTree.2.2.1 91 = .ok (.getfield 57, 3) := by decide +kernel
theorem d_M_layTree_94 : decode zm_M_layTree.2.2.1 94 = .ok (.iload 6, 2) := by decide +kernel
theorem d_M_layTree_96 : decode zm_M_layTree.2.2.1 96 = .ok (.iaload, 1) := by decide +kernel
theorem d_M_layTree_97 : decode zm_M_layTree.2.2.1 97 = .ok (.iconst (-1), 1) := by decide +kernel
theorem d_M_layTree_98 : decode zm_M_layTree.2.2.1 98 = .ok (.if_icmp .ne 20, 3) := by decide +kernel
theorem d_M_layTree_101 : decode zm_M_layTree.2.2.1 101 = .ok (.aload_n 0, 1) := by decide +kernel
theorem d_M_layTree_102 : decode zm_M_layTree.2.2.1 102 = .ok (.iload 5, 2) := by decide +kernel
theorem d_M_layTree_104 : decode zm_M_layTree.2.2.1 104 = .ok (.iload 6, 2) := by decide +kernel
theorem d_M_layTree_106 : decode zm_M_layTree.2.2.1 106 = .ok (.invokevirtual 157, 3) := by decide +kernel
theorem d_M_layTree_109 : decode zm_M_layTree.2.2.1 109 = .ok (.iload 4, 2) := by decide +kernel
theorem d_M_layTree_111 : decode zm_M_layTree.2.2.1 111 = .ok (.if_icmp .ge 7, 3) := by decide +kernel
theorem d_M_layTree_114 : decode zm_M_layTree.2.2.1 114 = .ok (.iconst 1, 1) := by decide +kernel
theorem d_M_layTree_115 : decode zm_M_layTree.2.2.1 115 = .ok (.goto 4, 3) := by decide +kernel
theorem d_M_layTree_118 : decode zm_M_layTree.2.2.1 118 = .ok (.iconst 0, 1) := by decide +kernel
theorem d_M_layTree_119 : decode zm_M_layTree.2.2.1 119 = .ok (.istore 7, 2) := by decide +kernel
theorem d_M_layTree_121 : decode zm_M_layTree.2.2.1 121 = .ok (.iload 7, 2) := by decide +kernel
theorem d_M_layTree_123 : decode zm_M_layTree.2.2.1 123 = .ok (.ifCond .eq 8, 3) := by decide +kernel
theorem d_M_layTree_126 : decode zm_M_layTree.2.2.1 126 = .ok (.iload 5, 2) := by decide +kernel
theorem d_M_layTree_128 : decode zm_M_layTree.2.2.1 128 = .ok (.goto 4, 3) := by decide +kernel
theorem d_M_layTree_131 : decode zm_M_layTree.2.2.1 131 = .ok (.iload_n 2, 1) := by decide +kernel
theorem d_M_layTree_132 : decode zm_M_layTree.2.2.1 132 = .ok (.istore_n 2, 1) := by decide +kernel
theorem d_M_layTree_133 : decode zm_M_layTree.2.2.1 133 = .ok (.iload 7, 2) := by decide +kernel
theorem d_M_layTree_135 : decode zm_M_layTree.2.2.1 135 = .ok (.ifCond .eq 8, 3) := by decide +kernel
theorem d_M_layTree_138 : decode zm_M_layTree.2.2.1 138 = .ok (.iload 6, 2) := by decide +kernel
theorem d_M_layTree_140 : decode zm_M_layTree.2.2.1 140 = .ok (.goto 4, 3) := by decide +kernel
theorem d_M_layTree_143 : decode zm_M_layTree.2.2.1 143 = .ok (.iload_n 3, 1) := by decide +kernel
theorem d_M_layTree_144 : decode zm_M_layTree.2.2.1 144 = .ok (.istore_n 3, 1) := by decide +kernel
theorem d_M_layTree_145 : decode zm_M_layTree.2.2.1 145 = .ok (.iload 7, 2) := by decide +kernel
theorem d_M_layTree_147 : decode zm_M_layTree.2.2.1 147 = .ok (.ifCond .eq 14, 3) := by decide +kernel
theorem d_M_layTree_150 : decode zm_M_layTree.2.2.1 150 = .ok (.aload_n 0, 1) := by decide +kernel
theorem d_M_layTree_151 : decode zm_M_layTree.2.2.1 151 = .ok (.iload 5, 2) := by decide +kernel
theorem d_M_layTree_153 : decode zm_M_layTree.2.2.1 153 = .ok (.iload 6, 2) := by decide +kernel
theorem d_M_layTree_155 : decode zm_M_layTree.2.2.1 155 = .ok (.invokevirtual 157, 3) := by decide +kernel
theorem d_M_layTree_158 : decode zm_M_layTree.2.2.1 158 = .ok (.goto 5, 3) := by decide +kernel
theorem d_M_layTree_161 : decode zm_M_layTree.2.2.1 161 = .ok (.iload 4, 2) := by decide +kernel
theorem d_M_layTree_163 : decode zm_M_layTree.2.2.1 163 = .ok (.istore 4, 2) := by decide +kernel
theorem d_M_layTree_165 : decode zm_M_layTree.2.2.1 165 = .ok (.iinc 6 1, 3) := by decide +kernel
theorem d_M_layTree_168 : decode zm_M_layTree.2.2.1 168 = .ok (.goto (-98), 3) := by decide +kernel
theorem d_M_layTree_171 : decode zm_M_layTree.2.2.1 171 = .ok (.iinc 5 1, 3) := by decide +kernel
theorem d_M_layTree_174 : decode zm_M_layTree.2.2.1 174 = .ok (.goto (-116), 3) := by decide +kernel
theorem d_M_layTree_177 : decode zm_M_layTree.2.2.1 177 = .ok (.aload_n 0, 1) := by decide +kernel
theorem d_M_layTree_178 : decode zm_M_layTree.2.2.1 178 = .ok (.getfield 54, 3) := by decide +kernel
theorem d_M_layTree_181 : decode zm_M_layTree.2.2.1 181 = .ok (.iload_n 3, 1) := by decide +kernel
theorem d_M_layTree_182 : decode zm_M_layTree.2.2.1 182 = .ok (.iload_n 2, 1) := by decide +kernel
theorem d_M_layTree_183 : decode zm_M_layTree.2.2.1 183 = .ok (.iastore, 1) := by decide +kernel
theorem d_M_layTree_184 : decode zm_M_layTree.2.2.1 184 = .ok (.aload_n 0, 1) := by decide +kernel
theorem d_M_layTree_185 : decode zm_M_layTree.2.2.1 185 = .ok (.getfield 57, 3) := by decide +kernel
theorem d_M_layTree_188 : decode zm_M_layTree.2.2.1 188 = .ok (.iload_n 3, 1) := by decide +kernel
theorem d_M_layTree_189 : decode zm_M_layTree.2.2.1 189 = .ok (.iload_n 1, 1) := by decide +kernel
theorem d_M_layTree_190 : decode zm_M_layTree.2.2.1 190 = .ok (.iastore, 1) := by decide +kernel
theorem d_M_layTree_191 : decode zm_M_layTree.2.2.1 191 = .ok (.iinc 1 1, 3) := by decide +kernel
theorem d_M_layTree_194 : decode zm_M_layTree.2.2.1 194 = .ok (.goto (-155), 3) := by decide +kernel
theorem d_M_layTree_197 : decode zm_M_layTree.2.2.1 197 = .ok (.return_, 1) := by decide +kernel
theorem d_M_readingOf_0 : decode zm_M_readingOf.2.2.1 0 = .ok (.aload_n 0, 1) := by decide +kernel
theorem d_M_readingOf_1 : decode zm_M_readingOf.2.2.1 1 = .ok (.getfield 41, 3) := by decide +kernel
theorem d_M_readingOf_4 : decode zm_M_readingOf.2.2.1 4 = .ok (.bipush 24, 2) := by decide +kernel
theorem d_M_readingOf_6 : decode zm_M_readingOf.2.2.1 6 = .ok (.aload_n 0, 1) := by decide +kernel
theorem d_M_readingOf_7 : decode zm_M_readingOf.2.2.1 7 = .ok (.getfield 51, 3) := by decide +kernel
theorem d_M_readingOf_10 : decode zm_M_readingOf.2.2.1 10 = .ok (.iload_n 1, 1) := by decide +kernel
theorem d_M_readingOf_11 : decode zm_M_readingOf.2.2.1 11 = .ok (.iaload, 1) := by decide +kernel
theorem d_M_readingOf_12 : decode zm_M_readingOf.2.2.1 12 = .ok (.imul, 1) := by decide +kernel
theorem d_M_readingOf_13 : decode zm_M_readingOf.2.2.1 13 = .ok (.iload_n 2, 1) := by decide +kernel
theorem d_M_readingOf_14 : decode zm_M_readingOf.2.2.1 14 = .ok (.iadd, 1) := by decide +kernel
theorem d_M_readingOf_15 : decode zm_M_readingOf.2.2.1 15 = .ok (.iaload, 1) := by decide +kernel
theorem d_M_readingOf_16 : decode zm_M_readingOf.2.2.1 16 = .ok (.ireturn, 1) := by decide +kernel
theorem d_M_isTurned_0 : decode zm_M_isTurned.2.2.1 0 = .ok (.aload_n 0, 1) := by decide +kernel
theorem d_M_isTurned_1 : decode zm_M_isTurned.2.2.1 1 = .ok (.getfield 54, 3) := by decide +kernel
theorem d_M_isTurned_4 : decode zm_M_isTurned.2.2.1 4 = .ok (.iload_n 1, 1) := by decide +kernel
theorem d_M_isTurned_5 : decode zm_M_isTurned.2.2.1 5 = .ok (.iaload, 1) := by decide +kernel
theorem d_M_isTurned_6 : decode zm_M_isTurned.2.2.1 6 = .ok (.istore_n 3, 1) := by decide +kernel
theorem d_M_isTurned_7 : decode zm_M_isTurned.2.2.1 7 = .ok (.iload_n 3, 1) := by decide +kernel
theorem d_M_isTurned_8 : decode zm_M_isTurned.2.2.1 8 = .ok (.iconst (-1), 1) := by decide +kernel
theorem d_M_isTurned_9 : decode zm_M_isTurned.2.2.1 9 = .ok (.if_icmp .eq 18, 3) := by decide +kernel
theorem d_M_isTurned_12 : decode zm_M_isTurned.2.2.1 12 = .ok (.aload_n 0, 1) := by decide +kernel
theorem d_M_isTurned_13 : decode zm_M_isTurned.2.2.1 13 = .ok (.iload_n 3, 1) := by decide +kernel
theorem d_M_isTurned_14 : decode zm_M_isTurned.2.2.1 14 = .ok (.iload_n 2, 1) := by decide +kernel
theorem d_M_isTurned_15 : decode zm_M_isTurned.2.2.1 15 = .ok (.invokevirtual 160, 3) := by decide +kernel
theorem d_M_isTurned_18 : decode zm_M_isTurned.2.2.1 18 = .ok (.aload_n 0, 1) := by decide +kernel
theorem d_M_isTurned_19 : decode zm_M_isTurned.2.2.1 19 = .ok (.iload_n 1, 1) := by decide +kernel
theorem d_M_isTurned_20 : decode zm_M_isTurned.2.2.1 20 = .ok (.iload_n 2, 1) := by decide +kernel
theorem d_M_isTurned_21 : decode zm_M_isTurned.2.2.1 21 = .ok (.invokevirtual 160, 3) := by decide +kernel
theorem d_M_isTurned_24 : decode zm_M_isTurned.2.2.1 24 = .ok (.if_icmp .ne 5, 3) := by decide +kernel
theorem d_M_isTurned_27 : decode zm_M_isTurned.2.2.1 27 = .ok (.iconst 0, 1) := by decide +kernel
theorem d_M_isTurned_28 : decode zm_M_isTurned.2.2.1 28 = .ok (.ireturn, 1) := by decide +kernel
theorem d_M_isTurned_29 : decode zm_M_isTurned.2.2.1 29 = .ok (.aload_n 0, 1) := by decide +kernel
theorem d_M_isTurned_30 : decode zm_M_isTurned.2.2.1 30 = .ok (.getfield 54, 3) := by decide +kernel
theorem d_M_isTurned_33 : decode zm_M_isTurned.2.2.1 33 = .ok (.iload_n 3, 1) := by decide +kernel
theorem d_M_isTurned_34 : decode zm_M_isTurned.2.2.1 34 = .ok (.iaload, 1) := by decide +kernel
theorem d_M_isTurned_35 : decode zm_M_isTurned.2.2.1 35 = .ok (.istore_n 3, 1) := by decide +kernel
theorem d_M_isTurned_36 : decode zm_M_isTurned.2.2.1 36 = .ok (.iload_n 3, 1) := by decide +kernel
theorem d_M_isTurned_37 : decode zm_M_isTurned.2.2.1 37 = .ok (.iconst (-1), 1) := by decide +kernel
theorem d_M_isTurned_38 : decode zm_M_isTurned.2.2.1 38 = .ok (.if_icmp .eq 28, 3) := by decide +kernel
theorem d_M_isTurned_41 : decode zm_M_isTurned.2.2.1 41 = .ok (.aload_n 0, 1) := by decide +kernel
theorem d_M_isTurned_42 : decode zm_M_isTurned.2.2.1 42 = .ok (.iload_n 3, 1) := by decide +kernel
theorem d_M_isTurned_43 : decode zm_M_isTurned.2.2.1 43 = .ok (.iload_n 2, 1) := by decide +kernel
theorem d_M_isTurned_44 : decode zm_M_isTurned.2.2.1 44 = .ok (.invokevirtual 160, 3) := by decide +kernel
theorem d_M_isTurned_47 : decode zm_M_isTurned.2.2.1 47 = .ok (.aload_n 0, 1) := by decide +kernel
theorem d_M_isTurned_48 : decode zm_M_isTurned.2.2.1 48 = .ok (.iload_n 1, 1) := by decide +kernel
theorem d_M_isTurned_49 : decode zm_M_isTurned.2.2.1 49 = .ok (.iload_n 2, 1) := by decide +kernel
theorem d_M_isTurned_50 : decode zm_M_isTurned.2.2.1 50 = .ok (.invokevirtual 160, 3) := by decide +kernel
theorem d_M_isTurned_53 : decode zm_M_isTurned.2.2.1 53 = .ok (.if_icmp .eq 13, 3) := by decide +kernel
theorem d_M_isTurned_56 : decode zm_M_isTurned.2.2.1 56 = .ok (.aload_n 0, 1) := by decide +kernel
theorem d_M_isTurned_57 : decode zm_M_isTurned.2.2.1 57 = .ok (.getfield 54, 3) := by decide +kernel
theorem d_M_isTurned_60 : decode zm_M_isTurned.2.2.1 60 = .ok (.iload_n 3, 1) := by decide +kernel
theorem d_M_isTurned_61 : decode zm_M_isTurned.2.2.1 61 = .ok (.iaload, 1) := by decide +kernel
theorem d_M_isTurned_62 : decode zm_M_isTurned.2.2.1 62 = .ok (.istore_n 3, 1) := by decide +kernel
theorem d_M_isTurned_63 : decode zm_M_isTurned.2.2.1 63 = .ok (.goto (-27), 3) := by decide +kernel
theorem d_M_isTurned_66 : decode zm_M_isTurned.2.2.1 66 = .ok (.iload_n 3, 1) := by decide +kernel
theorem d_M_isTurned_67 : decode zm_M_isTurned.2.2.1 67 = .ok (.iconst (-1), 1) := by decide +kernel
theorem d_M_isTurned_68 : decode zm_M_isTurned.2.2.1 68 = .ok (.if_icmp .eq 7, 3) := by decide +kernel
theorem d_M_isTurned_71 : decode zm_M_isTurned.2.2.1 71 = .ok (.iconst 1, 1) := by decide +kernel
theorem d_M_isTurned_72 : decode zm_M_isTurned.2.2.1 72 = .ok (.goto 4, 3) := by decide +kernel
theorem d_M_isTurned_75 : decode zm_M_isTurned.2.2.1 75 = .ok (.iconst 0, 1) := by decide +kernel
theorem d_M_isTurned_76 : decode zm_M_isTurned.2.2.1 76 = .ok (.ireturn, 1) := by decide +kernel
theorem d_M_turnedMany_0 : decode zm_M_turnedMany.2.2.1 0 = .ok (.iconst 0, 1) := by decide +kernel
theorem d_M_turnedMany_1 : decode zm_M_turnedMany.2.2.1 1 = .ok (.istore_n 2, 1) := by decide +kernel
theorem d_M_turnedMany_2 : decode zm_M_turnedMany.2.2.1 2 = .ok (.iconst 0, 1) := by decide +kernel
theorem d_M_turnedMany_3 : decode zm_M_turnedMany.2.2.1 3 = .ok (.istore_n 3, 1) := by decide +kernel
theorem d_M_turnedMany_4 : decode zm_M_turnedMany.2.2.1 4 = .ok (.iload_n 3, 1) := by decide +kernel
theorem d_M_turnedMany_5 : decode zm_M_turnedMany.2.2.1 5 = .ok (.aload_n 0, 1) := by decide +kernel
theorem d_M_turnedMany_6 : decode zm_M_turnedMany.2.2.1 6 = .ok (.invokevirtual 141, 3) := by decide +kernel
theorem d_M_turnedMany_9 : decode zm_M_turnedMany.2.2.1 9 = .ok (.if_icmp .ge 26, 3) := by decide +kernel
theorem d_M_turnedMany_12 : decode zm_M_turnedMany.2.2.1 12 = .ok (.iload_n 2, 1) := by decide +kernel
theorem d_M_turnedMany_13 : decode zm_M_turnedMany.2.2.1 13 = .ok (.aload_n 0, 1) := by decide +kernel
theorem d_M_turnedMany_14 : decode zm_M_turnedMany.2.2.1 14 = .ok (.iload_n 1, 1) := by decide +kernel
theorem d_M_turnedMany_15 : decode zm_M_turnedMany.2.2.1 15 = .ok (.iload_n 3, 1) := by decide +kernel
theorem d_M_turnedMany_16 : decode zm_M_turnedMany.2.2.1 16 = .ok (.invokevirtual 163, 3) := by decide +kernel
theorem d_M_turnedMany_19 : decode zm_M_turnedMany.2.2.1 19 = .ok (.ifCond .eq 7, 3) := by decide +kernel
theorem d_M_turnedMany_22 : decode zm_M_turnedMany.2.2.1 22 = .ok (.iconst 1, 1) := by decide +kernel
theorem d_M_turnedMany_23 : decode zm_M_turnedMany.2.2.1 23 = .ok (.goto 4, 3) := by decide +kernel
theorem d_M_turnedMany_26 : decode zm_M_turnedMany.2.2.1 26 = .ok (.iconst 0, 1) := by decide +kernel
theorem d_M_turnedMany_27 : decode zm_M_turnedMany.2.2.1 27 = .ok (.iadd, 1) := by decide +kernel
theorem d_M_turnedMany_28 : decode zm_M_turnedMany.2.2.1 28 = .ok (.istore_n 2, 1) := by decide +kernel
theorem d_M_turnedMany_29 : decode zm_M_turnedMany.2.2.1 29 = .ok (.iinc 3 1, 3) := by decide +kernel
theorem d_M_turnedMany_32 : decode zm_M_turnedMany.2.2.1 32 = .ok (.goto (-28), 3) := by decide +kernel
theorem d_M_turnedMany_35 : decode zm_M_turnedMany.2.2.1 35 = .ok (.iload_n 2, 1) := by decide +kernel
theorem d_M_turnedMany_36 : decode zm_M_turnedMany.2.2.1 36 = .ok (.ireturn, 1) := by decide +kernel
theorem d_M_moreOf_0 : decode zm_M_moreOf.2.2.1 0 = .ok (.aload_n 0, 1) := by decide +kernel
theorem d_M_moreOf_1 : decode zm_M_moreOf.2.2.1 1 = .ok (.iconst 0, 1) := by decide +kernel
theorem d_M_moreOf_2 : decode zm_M_moreOf.2.2.1 2 = .ok (.iload_n 1, 1) := by decide +kernel
theorem d_M_moreOf_3 : decode zm_M_moreOf.2.2.1 3 = .ok (.invokevirtual 128, 3) := by decide +kernel
theorem d_M_moreOf_6 : decode zm_M_moreOf.2.2.1 6 = .ok (.aload_n 0, 1) := by decide +kernel
theorem d_M_moreOf_7 : decode zm_M_moreOf.2.2.1 7 = .ok (.bipush 6, 2) := by decide +kernel
theorem d_M_moreOf_9 : decode zm_M_moreOf.2.2.1 9 = .ok (.invokevirtual 132, 3) := by decide +kernel
theorem d_M_moreOf_12 : decode zm_M_moreOf.2.2.1 12 = .ok (.ireturn, 1) := by decide +kernel
theorem d_M_costOf_0 : decode zm_M_costOf.2.2.1 0 = .ok (.aload_n 0, 1) := by decide +kernel
theorem d_M_costOf_1 : decode zm_M_costOf.2.2.1 1 = .ok (.iconst 0, 1) := by decide +kernel
theorem d_M_costOf_2 : decode zm_M_costOf.2.2.1 2 = .ok (.iload_n 1, 1) := by decide +kernel
theorem d_M_costOf_3 : decode zm_M_costOf.2.2.1 3 = .ok (.invokevirtual 128, 3) := by decide +kernel
theorem d_M_costOf_6 : decode zm_M_costOf.2.2.1 6 = .ok (.aload_n 0, 1) := by decide +kernel
theorem d_M_costOf_7 : decode zm_M_costOf.2.2.1 7 = .ok (.getfield 35, 3) := by decide +kernel
theorem d_M_costOf_10 : decode zm_M_costOf.2.2.1 10 = .ok (.iconst 0, 1) := by decide +kernel
theorem d_M_costOf_11 : decode zm_M_costOf.2.2.1 11 = .ok (.iaload, 1) := by decide +kernel
theorem d_M_costOf_12 : decode zm_M_costOf.2.2.1 12 = .ok (.ireturn, 1) := by decide +kernel
theorem d_M_otherReadings_0 : decode zm_M_otherReadings.2.2.1 0 = .ok (.iconst 0, 1) := by decide +kernel
theorem d_M_otherReadings_1 : decode zm_M_otherReadings.2.2.1 1 = .ok (.istore_n 2, 1) := by decide +kernel
theorem d_M_otherReadings_2 : decode zm_M_otherReadings.2.2.1 2 = .ok (.iconst 0, 1) := by decide +kernel
theorem d_M_otherReadings_3 : decode zm_M_otherReadings.2.2.1 3 = .ok (.istore_n 3, 1) := by decide +kernel
theorem d_M_otherReadings_4 : decode zm_M_otherReadings.2.2.1 4 = .ok (.iload_n 3, 1) := by decide +kernel
theorem d_M_otherReadings_5 : decode zm_M_otherReadings.2.2.1 5 = .ok (.aload_n 0, 1) := by decide +kernel
theorem d_M_otherReadings_6 : decode zm_M_otherReadings.2.2.1 6 = .ok (.invokevirtual 141, 3) := by decide +kernel
theorem d_M_otherReadings_9 : decode zm_M_otherReadings.2.2.1 9 = .ok (.if_icmp .ge 37, 3) := by decide +kernel
theorem d_M_otherReadings_12 : decode zm_M_otherReadings.2.2.1 12 = .ok (.iload_n 2, 1) := by decide +kernel
theorem d_M_otherReadings_13 : decode zm_M_otherReadings.2.2.1 13 = .ok (.aload_n 0, 1) := by decide +kernel
theorem d_M_otherReadings_14 : decode zm_M_otherReadings.2.2.1 14 = .ok (.getfield 41, 3) := by decide +kernel
theorem d_M_otherReadings_17 : decode zm_M_otherReadings.2.2.1 17 = .ok (.bipush 24, 2) := by decide +kernel
theorem d_M_otherReadings_19 : decode zm_M_otherReadings.2.2.1 19 = .ok (.iload_n 1, 1) := by decide +kernel
theorem d_M_otherReadings_20 : decode zm_M_otherReadings.2.2.1 20 = .ok (.imul, 1) := by decide +kernel
theorem d_M_otherReadings_21 : decode zm_M_otherReadings.2.2.1 21 = .ok (.iload_n 3, 1) := by decide +kernel
theorem d_M_otherReadings_22 : decode zm_M_otherReadings.2.2.1 22 = .ok (.iadd, 1) := by decide +kernel
theorem d_M_otherReadings_23 : decode zm_M_otherReadings.2.2.1 23 = .ok (.iaload, 1) := by decide +kernel
theorem d_M_otherReadings_24 : decode zm_M_otherReadings.2.2.1 24 = .ok (.aload_n 0, 1) := by decide +kernel
theorem d_M_otherReadings_25 : decode zm_M_otherReadings.2.2.1 25 = .ok (.iconst 0, 1) := by decide +kernel
theorem d_M_otherReadings_26 : decode zm_M_otherReadings.2.2.1 26 = .ok (.iload_n 3, 1) := by decide +kernel
theorem d_M_otherReadings_27 : decode zm_M_otherReadings.2.2.1 27 = .ok (.invokevirtual 108, 3) := by decide +kernel
theorem d_M_otherReadings_30 : decode zm_M_otherReadings.2.2.1 30 = .ok (.if_icmp .ne 7, 3) := by decide +kernel
theorem d_M_otherReadings_33 : decode zm_M_otherReadings.2.2.1 33 = .ok (.iconst 0, 1) := by decide +kernel
theorem d_M_otherReadings_34 : decode zm_M_otherReadings.2.2.1 34 = .ok (.goto 4, 3) := by decide +kernel
theorem d_M_otherReadings_37 : decode zm_M_otherReadings.2.2.1 37 = .ok (.iconst 1, 1) := by decide +kernel
theorem d_M_otherReadings_38 : decode zm_M_otherReadings.2.2.1 38 = .ok (.iadd, 1) := by decide +kernel
theorem d_M_otherReadings_39 : decode zm_M_otherReadings.2.2.1 39 = .ok (.istore_n 2, 1) := by decide +kernel
theorem d_M_otherReadings_40 : decode zm_M_otherReadings.2.2.1 40 = .ok (.iinc 3 1, 3) := by decide +kernel
theorem d_M_otherReadings_43 : decode zm_M_otherReadings.2.2.1 43 = .ok (.goto (-39), 3) := by decide +kernel
theorem d_M_otherReadings_46 : decode zm_M_otherReadings.2.2.1 46 = .ok (.iload_n 2, 1) := by decide +kernel
theorem d_M_otherReadings_47 : decode zm_M_otherReadings.2.2.1 47 = .ok (.ireturn, 1) := by decide +kernel
theorem d_M_copyNow_0 : decode zm_M_copyNow.2.2.1 0 = .ok (.aload_n 0, 1) := by decide +kernel
theorem d_M_copyNow_1 : decode zm_M_copyNow.2.2.1 1 = .ok (.invokevirtual 167, 3) := by decide +kernel
theorem d_M_copyNow_4 : decode zm_M_copyNow.2.2.1 4 = .ok (.iload_n 2, 1) := by decide +kernel
theorem d_M_copyNow_5 : decode zm_M_copyNow.2.2.1 5 = .ok (.ifCond .ne 10, 3) := by decide +kernel
theorem d_M_copyNow_8 : decode zm_M_copyNow.2.2.1 8 = .ok (.aload_n 0, 1) := by decide +kernel
theorem d_M_copyNow_9 : decode zm_M_copyNow.2.2.1 9 = .ok (.getfield 13, 3) := by decide +kernel
theorem d_M_copyNow_12 : decode zm_M_copyNow.2.2.1 12 = .ok (.iload_n 1, 1) := by decide +kernel
theorem d_M_copyNow_13 : decode zm_M_copyNow.2.2.1 13 = .ok (.iaload, 1) := by decide +kernel
theorem d_M_copyNow_14 : decode zm_M_copyNow.2.2.1 14 = .ok (.ireturn, 1) := by decide +kernel
theorem d_M_copyNow_15 : decode zm_M_copyNow.2.2.1 15 = .ok (.aload_n 0, 1) := by decide +kernel
theorem d_M_copyNow_16 : decode zm_M_copyNow.2.2.1 16 = .ok (.getfield 44, 3) := by decide +kernel
theorem d_M_copyNow_19 : decode zm_M_copyNow.2.2.1 19 = .ok (.iload_n 1, 1) := by decide +kernel
theorem d_M_copyNow_20 : decode zm_M_copyNow.2.2.1 20 = .ok (.baload, 1) := by decide +kernel
theorem d_M_copyNow_21 : decode zm_M_copyNow.2.2.1 21 = .ok (.ifCond .eq 5, 3) := by decide +kernel
theorem d_M_copyNow_24 : decode zm_M_copyNow.2.2.1 24 = .ok (.iconst (-1), 1) := by decide +kernel
theorem d_M_copyNow_25 : decode zm_M_copyNow.2.2.1 25 = .ok (.ireturn, 1) := by decide +kernel
theorem d_M_copyNow_26 : decode zm_M_copyNow.2.2.1 26 = .ok (.iload_n 2, 1) := by decide +kernel
theorem d_M_copyNow_27 : decode zm_M_copyNow.2.2.1 27 = .ok (.iconst 1, 1) := by decide +kernel
theorem d_M_copyNow_28 : decode zm_M_copyNow.2.2.1 28 = .ok (.if_icmp .ne 12, 3) := by decide +kernel
theorem d_M_copyNow_31 : decode zm_M_copyNow.2.2.1 31 = .ok (.aload_n 0, 1) := by decide +kernel
theorem d_M_copyNow_32 : decode zm_M_copyNow.2.2.1 32 = .ok (.getfield 48, 3) := by decide +kernel
theorem d_M_copyNow_35 : decode zm_M_copyNow.2.2.1 35 = .ok (.iload_n 1, 1) := by decide +kernel
theorem d_M_copyNow_36 : decode zm_M_copyNow.2.2.1 36 = .ok (.iaload, 1) := by decide +kernel
theorem d_M_copyNow_37 : decode zm_M_copyNow.2.2.1 37 = .ok (.goto 34, 3) := by decide +kernel
theorem d_M_copyNow_40 : decode zm_M_copyNow.2.2.1 40 = .ok (.iload_n 2, 1) := by decide +kernel
theorem d_M_copyNow_41 : decode zm_M_copyNow.2.2.1 41 = .ok (.iconst 2, 1) := by decide +kernel
theorem d_M_copyNow_42 : decode zm_M_copyNow.2.2.1 42 = .ok (.if_icmp .ne 11, 3) := by decide +kernel
theorem d_M_copyNow_45 : decode zm_M_copyNow.2.2.1 45 = .ok (.aload_n 0, 1) := by decide +kernel
theorem d_M_copyNow_46 : decode zm_M_copyNow.2.2.1 46 = .ok (.iload_n 1, 1) := by decide +kernel
theorem d_M_copyNow_47 : decode zm_M_copyNow.2.2.1 47 = .ok (.invokevirtual 170, 3) := by decide +kernel
theorem d_M_copyNow_50 : decode zm_M_copyNow.2.2.1 50 = .ok (.goto 21, 3) := by decide +kernel
theorem d_M_copyNow_53 : decode zm_M_copyNow.2.2.1 53 = .ok (.iload_n 2, 1) := by decide +kernel
theorem d_M_copyNow_54 : decode zm_M_copyNow.2.2.1 54 = .ok (.iconst 3, 1) := by decide +kernel
theorem d_M_copyNow_55 : decode zm_M_copyNow.2.2.1 55 = .ok (.if_icmp .ne 11, 3) := by decide +kernel
theorem d_M_copyNow_58 : decode zm_M_copyNow.2.2.1 58 = .ok (.aload_n 0, 1) := by decide +kernel
theorem d_M_copyNow_59 : decode zm_M_copyNow.2.2.1 59 = .ok (.iload_n 1, 1) := by decide +kernel
theorem d_M_copyNow_60 : decode zm_M_copyNow.2.2.1 60 = .ok (.invokevirtual 173, 3) := by decide +kernel
theorem d_M_copyNow_63 : decode zm_M_copyNow.2.2.1 63 = .ok (.goto 8, 3) := by decide +kernel
theorem d_M_copyNow_66 : decode zm_M_copyNow.2.2.1 66 = .ok (.aload_n 0, 1) := by decide +kernel
theorem d_M_copyNow_67 : decode zm_M_copyNow.2.2.1 67 = .ok (.iload_n 1, 1) := by decide +kernel
theorem d_M_copyNow_68 : decode zm_M_copyNow.2.2.1 68 = .ok (.invokevirtual 176, 3) := by decide +kernel
theorem d_M_copyNow_71 : decode zm_M_copyNow.2.2.1 71 = .ok (.ireturn, 1) := by decide +kernel
theorem d_M_of_0 : decode zm_M_of.2.2.1 0 = .ok (.aload_n 0, 1) := by decide +kernel
theorem d_M_of_1 : decode zm_M_of.2.2.1 1 = .ok (.iload_n 1, 1) := by decide +kernel
theorem d_M_of_2 : decode zm_M_of.2.2.1 2 = .ok (.invokevirtual 93, 3) := by decide +kernel
theorem d_M_of_5 : decode zm_M_of.2.2.1 5 = .ok (.ifCond .ne 6, 3) := by decide +kernel
theorem d_M_of_8 : decode zm_M_of.2.2.1 8 = .ok (.bipush (-101), 2) := by decide +kernel
theorem d_M_of_10 : decode zm_M_of.2.2.1 10 = .ok (.ireturn, 1) := by decide +kernel
theorem d_M_of_11 : decode zm_M_of.2.2.1 11 = .ok (.iload_n 2, 1) := by decide +kernel
theorem d_M_of_12 : decode zm_M_of.2.2.1 12 = .ok (.iconst 0, 1) := by decide +kernel
theorem d_M_of_13 : decode zm_M_of.2.2.1 13 = .ok (.iconst 4, 1) := by decide +kernel
theorem d_M_of_14 : decode zm_M_of.2.2.1 14 = .ok (.invokestatic 72, 3) := by decide +kernel
theorem d_M_of_17 : decode zm_M_of.2.2.1 17 = .ok (.ifCond .eq 12, 3) := by decide +kernel
theorem d_M_of_20 : decode zm_M_of.2.2.1 20 = .ok (.aload_n 0, 1) := by decide +kernel
theorem d_M_of_21 : decode zm_M_of.2.2.1 21 = .ok (.iload_n 1, 1) := by decide +kernel
theorem d_M_of_22 : decode zm_M_of.2.2.1 22 = .ok (.iload_n 2, 1) := by decide +kernel
theorem d_M_of_23 : decode zm_M_of.2.2.1 23 = .ok (.invokevirtual 179, 3) := by decide +kernel
theorem d_M_of_26 : decode zm_M_of.2.2.1 26 = .ok (.goto 5, 3) := by decide +kernel
theorem d_M_of_29 : decode zm_M_of.2.2.1 29 = .ok (.bipush (-102), 2) := by decide +kernel
theorem d_M_of_31 : decode zm_M_of.2.2.1 31 = .ok (.ireturn, 1) := by decide +kernel
theorem d_M_sign_0 : decode zm_M_sign.2.2.1 0 = .ok (.aload_n 0, 1) := by decide +kernel
theorem d_M_sign_1 : decode zm_M_sign.2.2.1 1 = .ok (.iload_n 1, 1) := by decide +kernel
theorem d_M_sign_2 : decode zm_M_sign.2.2.1 2 = .ok (.invokevirtual 93, 3) := by decide +kernel
theorem d_M_sign_5 : decode zm_M_sign.2.2.1 5 = .ok (.ifCond .eq 28, 3) := by decide +kernel
theorem d_M_sign_8 : decode zm_M_sign.2.2.1 8 = .ok (.iload_n 2, 1) := by decide +kernel
theorem d_M_sign_9 : decode zm_M_sign.2.2.1 9 = .ok (.iconst 0, 1) := by decide +kernel
theorem d_M_sign_10 : decode zm_M_sign.2.2.1 10 = .ok (.aload_n 0, 1) := by decide +kernel
theorem d_M_sign_11 : decode zm_M_sign.2.2.1 11 = .ok (.getfield 13, 3) := by decide +kernel
theorem d_M_sign_14 : decode zm_M_sign.2.2.1 14 = .ok (.iload_n 1, 1) := by decide +kernel
theorem d_M_sign_15 : decode zm_M_sign.2.2.1 15 = .ok (.iaload, 1) := by decide +kernel
theorem d_M_sign_16 : decode zm_M_sign.2.2.1 16 = .ok (.iconst 1, 1) := by decide +kernel
theorem d_M_sign_17 : decode zm_M_sign.2.2.1 17 = .ok (.isub, 1) := by decide +kernel
theorem d_M_sign_18 : decode zm_M_sign.2.2.1 18 = .ok (.invokestatic 72, 3) := by decide +kernel
theorem d_M_sign_21 : decode zm_M_sign.2.2.1 21 = .ok (.ifCond .eq 12, 3) := by decide +kernel
theorem d_M_sign_24 : decode zm_M_sign.2.2.1 24 = .ok (.aload_n 0, 1) := by decide +kernel
theorem d_M_sign_25 : decode zm_M_sign.2.2.1 25 = .ok (.iload_n 1, 1) := by decide +kernel
theorem d_M_sign_26 : decode zm_M_sign.2.2.1 26 = .ok (.iload_n 2, 1) := by decide +kernel
theorem d_M_sign_27 : decode zm_M_sign.2.2.1 27 = .ok (.invokevirtual 108, 3) := by decide +kernel
theorem d_M_sign_30 : decode zm_M_sign.2.2.1 30 = .ok (.goto 5, 3) := by decide +kernel
theorem d_M_sign_33 : decode zm_M_sign.2.2.1 33 = .ok (.bipush (-101), 2) := by decide +kernel
theorem d_M_sign_35 : decode zm_M_sign.2.2.1 35 = .ok (.ireturn, 1) := by decide +kernel
theorem d_M_reading_0 : decode zm_M_reading.2.2.1 0 = .ok (.aload_n 0, 1) := by decide +kernel
theorem d_M_reading_1 : decode zm_M_reading.2.2.1 1 = .ok (.iload_n 1, 1) := by decide +kernel
theorem d_M_reading_2 : decode zm_M_reading.2.2.1 2 = .ok (.invokevirtual 93, 3) := by decide +kernel
theorem d_M_reading_5 : decode zm_M_reading.2.2.1 5 = .ok (.ifCond .eq 17, 3) := by decide +kernel
theorem d_M_reading_8 : decode zm_M_reading.2.2.1 8 = .ok (.iload_n 2, 1) := by decide +kernel
theorem d_M_reading_9 : decode zm_M_reading.2.2.1 9 = .ok (.iconst 0, 1) := by decide +kernel
theorem d_M_reading_10 : decode zm_M_reading.2.2.1 10 = .ok (.aload_n 0, 1) := by decide +kernel
theorem d_M_reading_11 : decode zm_M_reading.2.2.1 11 = .ok (.invokevirtual 141, 3) := by decide +kernel
theorem d_M_reading_14 : decode zm_M_reading.2.2.1 14 = .ok (.iconst 1, 1) := by decide +kernel
theorem d_M_reading_15 : decode zm_M_reading.2.2.1 15 = .ok (.isub, 1) := by decide +kernel
theorem d_M_reading_16 : decode zm_M_reading.2.2.1 16 = .ok (.invokestatic 72, 3) := by decide +kernel
theorem d_M_reading_19 : decode zm_M_reading.2.2.1 19 = .ok (.ifCond .ne 6, 3) := by decide +kernel
theorem d_M_reading_22 : decode zm_M_reading.2.2.1 22 = .ok (.bipush (-101), 2) := by decide +kernel
theorem d_M_reading_24 : decode zm_M_reading.2.2.1 24 = .ok (.ireturn, 1) := by decide +kernel
theorem d_M_reading_25 : decode zm_M_reading.2.2.1 25 = .ok (.aload_n 0, 1) := by decide +kernel
theorem d_M_reading_26 : decode zm_M_reading.2.2.1 26 = .ok (.iload_n 1, 1) := by decide +kernel
theorem d_M_reading_27 : decode zm_M_reading.2.2.1 27 = .ok (.invokevirtual 151, 3) := by decide +kernel
theorem d_M_reading_30 : decode zm_M_reading.2.2.1 30 = .ok (.aload_n 0, 1) := by decide +kernel
theorem d_M_reading_31 : decode zm_M_reading.2.2.1 31 = .ok (.getfield 44, 3) := by decide +kernel
theorem d_M_reading_34 : decode zm_M_reading.2.2.1 34 = .ok (.iload_n 1, 1) := by decide +kernel
theorem d_M_reading_35 : decode zm_M_reading.2.2.1 35 = .ok (.baload, 1) := by decide +kernel
theorem d_M_reading_36 : decode zm_M_reading.2.2.1 36 = .ok (.ifCond .eq 8, 3) := by decide +kernel
theorem d_M_reading_39 : decode zm_M_reading.2.2.1 39 = .ok (.bipush (-103), 2) := by decide +kernel
theorem d_M_reading_41 : decode zm_M_reading.2.2.1 41 = .ok (.goto 14, 3) := by decide +kernel
theorem d_M_reading_44 : decode zm_M_reading.2.2.1 44 = .ok (.aload_n 0, 1) := by decide +kernel
theorem d_M_reading_45 : decode zm_M_reading.2.2.1 45 = .ok (.getfield 41, 3) := by decide +kernel
theorem d_M_reading_48 : decode zm_M_reading.2.2.1 48 = .ok (.bipush 24, 2) := by decide +kernel
theorem d_M_reading_50 : decode zm_M_reading.2.2.1 50 = .ok (.iload_n 1, 1) := by decide +kernel
theorem d_M_reading_51 : decode zm_M_reading.2.2.1 51 = .ok (.imul, 1) := by decide +kernel
theorem d_M_reading_52 : decode zm_M_reading.2.2.1 52 = .ok (.iload_n 2, 1) := by decide +kernel
theorem d_M_reading_53 : decode zm_M_reading.2.2.1 53 = .ok (.iadd, 1) := by decide +kernel
theorem d_M_reading_54 : decode zm_M_reading.2.2.1 54 = .ok (.iaload, 1) := by decide +kernel
theorem d_M_reading_55 : decode zm_M_reading.2.2.1 55 = .ok (.ireturn, 1) := by decide +kernel
theorem d_M_outMany_0 : decode zm_M_outMany.2.2.1 0 = .ok (.iconst 0, 1) := by decide +kernel
theorem d_M_outMany_1 : decode zm_M_outMany.2.2.1 1 = .ok (.istore_n 1, 1) := by decide +kernel
theorem d_M_outMany_2 : decode zm_M_outMany.2.2.1 2 = .ok (.iconst 0, 1) := by decide +kernel
theorem d_M_outMany_3 : decode zm_M_outMany.2.2.1 3 = .ok (.istore_n 2, 1) := by decide +kernel
theorem d_M_outMany_4 : decode zm_M_outMany.2.2.1 4 = .ok (.iload_n 2, 1) := by decide +kernel
theorem d_M_outMany_5 : decode zm_M_outMany.2.2.1 5 = .ok (.aload_n 0, 1) := by decide +kernel
theorem d_M_outMany_6 : decode zm_M_outMany.2.2.1 6 = .ok (.getfield 86, 3) := by decide +kernel
theorem d_M_outMany_9 : decode zm_M_outMany.2.2.1 9 = .ok (.if_icmp .ge 26, 3) := by decide +kernel
theorem d_M_outMany_12 : decode zm_M_outMany.2.2.1 12 = .ok (.iload_n 1, 1) := by decide +kernel
theorem d_M_outMany_13 : decode zm_M_outMany.2.2.1 13 = .ok (.aload_n 0, 1) := by decide +kernel
theorem d_M_outMany_14 : decode zm_M_outMany.2.2.1 14 = .ok (.getfield 44, 3) := by decide +kernel
theorem d_M_outMany_17 : decode zm_M_outMany.2.2.1 17 = .ok (.iload_n 2, 1) := by decide +kernel
theorem d_M_outMany_18 : decode zm_M_outMany.2.2.1 18 = .ok (.baload, 1) := by decide +kernel
theorem d_M_outMany_19 : decode zm_M_outMany.2.2.1 19 = .ok (.ifCond .eq 7, 3) := by decide +kernel
theorem d_M_outMany_22 : decode zm_M_outMany.2.2.1 22 = .ok (.iconst 1, 1) := by decide +kernel
theorem d_M_outMany_23 : decode zm_M_outMany.2.2.1 23 = .ok (.goto 4, 3) := by decide +kernel
theorem d_M_outMany_26 : decode zm_M_outMany.2.2.1 26 = .ok (.iconst 0, 1) := by decide +kernel
theorem d_M_outMany_27 : decode zm_M_outMany.2.2.1 27 = .ok (.iadd, 1) := by decide +kernel
theorem d_M_outMany_28 : decode zm_M_outMany.2.2.1 28 = .ok (.istore_n 1, 1) := by decide +kernel
theorem d_M_outMany_29 : decode zm_M_outMany.2.2.1 29 = .ok (.iinc 2 1, 3) := by decide +kernel
theorem d_M_outMany_32 : decode zm_M_outMany.2.2.1 32 = .ok (.goto (-28), 3) := by decide +kernel
theorem d_M_outMany_35 : decode zm_M_outMany.2.2.1 35 = .ok (.iload_n 1, 1) := by decide +kernel
theorem d_M_outMany_36 : decode zm_M_outMany.2.2.1 36 = .ok (.ireturn, 1) := by decide +kernel
theorem d_M_changes_0 : decode zm_M_changes.2.2.1 0 = .ok (.iconst 0, 1) := by decide +kernel
theorem d_M_changes_1 : decode zm_M_changes.2.2.1 1 = .ok (.istore_n 1, 1) := by decide +kernel
theorem d_M_changes_2 : decode zm_M_changes.2.2.1 2 = .ok (.iconst 1, 1) := by decide +kernel
theorem d_M_changes_3 : decode zm_M_changes.2.2.1 3 = .ok (.istore_n 2, 1) := by decide +kernel
theorem d_M_changes_4 : decode zm_M_changes.2.2.1 4 = .ok (.iload_n 2, 1) := by decide +kernel
theorem d_M_changes_5 : decode zm_M_changes.2.2.1 5 = .ok (.aload_n 0, 1) := by decide +kernel
theorem d_M_changes_6 : decode zm_M_changes.2.2.1 6 = .ok (.getfield 148, 3) := by decide +kernel
theorem d_M_changes_9 : decode zm_M_changes.2.2.1 9 = .ok (.if_icmp .ge 23, 3) := by decide +kernel
theorem d_M_changes_12 : decode zm_M_changes.2.2.1 12 = .ok (.iload_n 1, 1) := by decide +kernel
theorem d_M_changes_13 : decode zm_M_changes.2.2.1 13 = .ok (.aload_n 0, 1) := by decide +kernel
theorem d_M_changes_14 : decode zm_M_changes.2.2.1 14 = .ok (.iload_n 2, 1) := by decide +kernel
theorem d_M_changes_15 : decode zm_M_changes.2.2.1 15 = .ok (.aload_n 0, 1) := by decide +kernel
theorem d_M_changes_16 : decode zm_M_changes.2.2.1 16 = .ok (.getfield 54, 3) := by decide +kernel
theorem d_M_changes_19 : decode zm_M_changes.2.2.1 19 = .ok (.iload_n 2, 1) := by decide +kernel
theorem d_M_changes_20 : decode zm_M_changes.2.2.1 20 = .ok (.iaload, 1) := by decide +kernel
theorem d_M_changes_21 : decode zm_M_changes.2.2.1 21 = .ok (.invokevirtual 157, 3) := by decide +kernel
theorem d_M_changes_24 : decode zm_M_changes.2.2.1 24 = .ok (.iadd, 1) := by decide +kernel
theorem d_M_changes_25 : decode zm_M_changes.2.2.1 25 = .ok (.istore_n 1, 1) := by decide +kernel
theorem d_M_changes_26 : decode zm_M_changes.2.2.1 26 = .ok (.iinc 2 1, 3) := by decide +kernel
theorem d_M_changes_29 : decode zm_M_changes.2.2.1 29 = .ok (.goto (-25), 3) := by decide +kernel
theorem d_M_changes_32 : decode zm_M_changes.2.2.1 32 = .ok (.iload_n 1, 1) := by decide +kernel
theorem d_M_changes_33 : decode zm_M_changes.2.2.1 33 = .ok (.ireturn, 1) := by decide +kernel
theorem d_M_unlikePlaces_0 : decode zm_M_unlikePlaces.2.2.1 0 = .ok (.iconst 0, 1) := by decide +kernel
theorem d_M_unlikePlaces_1 : decode zm_M_unlikePlaces.2.2.1 1 = .ok (.istore_n 1, 1) := by decide +kernel
theorem d_M_unlikePlaces_2 : decode zm_M_unlikePlaces.2.2.1 2 = .ok (.iconst 0, 1) := by decide +kernel
theorem d_M_unlikePlaces_3 : decode zm_M_unlikePlaces.2.2.1 3 = .ok (.istore_n 2, 1) := by decide +kernel
theorem d_M_unlikePlaces_4 : decode zm_M_unlikePlaces.2.2.1 4 = .ok (.iload_n 2, 1) := by decide +kernel
theorem d_M_unlikePlaces_5 : decode zm_M_unlikePlaces.2.2.1 5 = .ok (.aload_n 0, 1) := by decide +kernel
theorem d_M_unlikePlaces_6 : decode zm_M_unlikePlaces.2.2.1 6 = .ok (.invokevirtual 141, 3) := by decide +kernel
theorem d_M_unlikePlaces_9 : decode zm_M_unlikePlaces.2.2.1 9 = .ok (.if_icmp .ge 67, 3) := by decide +kernel
theorem d_M_unlikePlaces_12 : decode zm_M_unlikePlaces.2.2.1 12 = .ok (.iconst 0, 1) := by decide +kernel
theorem d_M_unlikePlaces_13 : decode zm_M_unlikePlaces.2.2.1 13 = .ok (.istore_n 3, 1) := by decide +kernel
theorem d_M_unlikePlaces_14 : decode zm_M_unlikePlaces.2.2.1 14 = .ok (.iconst 1, 1) := by decide +kernel
theorem d_M_unlikePlaces_15 : decode zm_M_unlikePlaces.2.2.1 15 = .ok (.istore 4, 2) := by decide +kernel
theorem d_M_unlikePlaces_17 : decode zm_M_unlikePlaces.2.2.1 17 = .ok (.iload 4, 2) := by decide +kernel
theorem d_M_unlikePlaces_19 : decode zm_M_unlikePlaces.2.2.1 19 = .ok (.aload_n 0, 1) := by decide +kernel
theorem d_M_unlikePlaces_20 : decode zm_M_unlikePlaces.2.2.1 20 = .ok (.getfield 148, 3) := by decide +kernel
theorem d_M_unlikePlaces_23 : decode zm_M_unlikePlaces.2.2.1 23 = .ok (.if_icmp .ge 35, 3) := by decide +kernel
theorem d_M_unlikePlaces_26 : decode zm_M_unlikePlaces.2.2.1 26 = .ok (.iload_n 3, 1) := by decide +kernel
theorem d_M_unlikePlaces_27 : decode zm_M_unlikePlaces.2.2.1 27 = .ok (.ifCond .ne 19, 3) := by decide +kernel
theorem d_M_unlikePlaces_30 : decode zm_M_unlikePlaces.2.2.1 30 = .ok (.aload_n 0, 1) := by decide +kernel
theorem d_M_unlikePlaces_31 : decode zm_M_unlikePlaces.2.2.1 31 = .ok (.iload 4, 2) := by decide +kernel
theorem d_M_unlikePlaces_33 : decode zm_M_unlikePlaces.2.2.1 33 = .ok (.iload_n 2, 1) := by decide +kernel
theorem d_M_unlikePlaces_34 : decode zm_M_unlikePlaces.2.2.1 34 = .ok (.invokevirtual 160, 3) := by decide +kernel
theorem d_M_unlikePlaces_37 : decode zm_M_unlikePlaces.2.2.1 37 = .ok (.aload_n 0, 1) := by decide +kernel
theorem d_M_unlikePlaces_38 : decode zm_M_unlikePlaces.2.2.1 38 = .ok (.iconst 0, 1) := by decide +kernel
theorem d_M_unlikePlaces_39 : decode zm_M_unlikePlaces.2.2.1 39 = .ok (.iload_n 2, 1) := by decide +kernel
theorem d_M_unlikePlaces_40 : decode zm_M_unlikePlaces.2.2.1 40 = .ok (.invokevirtual 160, 3) := by decide +kernel
theorem d_M_unlikePlaces_43 : decode zm_M_unlikePlaces.2.2.1 43 = .ok (.if_icmp .eq 7, 3) := by decide +kernel
theorem d_M_unlikePlaces_46 : decode zm_M_unlikePlaces.2.2.1 46 = .ok (.iconst 1, 1) := by decide +kernel
theorem d_M_unlikePlaces_47 : decode zm_M_unlikePlaces.2.2.1 47 = .ok (.goto 4, 3) := by decide +kernel
theorem d_M_unlikePlaces_50 : decode zm_M_unlikePlaces.2.2.1 50 = .ok (.iconst 0, 1) := by decide +kernel
theorem d_M_unlikePlaces_51 : decode zm_M_unlikePlaces.2.2.1 51 = .ok (.istore_n 3, 1) := by decide +kernel
theorem d_M_unlikePlaces_52 : decode zm_M_unlikePlaces.2.2.1 52 = .ok (.iinc 4 1, 3) := by decide +kernel
theorem d_M_unlikePlaces_55 : decode zm_M_unlikePlaces.2.2.1 55 = .ok (.goto (-38), 3) := by decide +kernel
theorem d_M_unlikePlaces_58 : decode zm_M_unlikePlaces.2.2.1 58 = .ok (.iload_n 1, 1) := by decide +kernel
theorem d_M_unlikePlaces_59 : decode zm_M_unlikePlaces.2.2.1 59 = .ok (.iload_n 3, 1) := by decide +kernel
theorem d_M_unlikePlaces_60 : decode zm_M_unlikePlaces.2.2.1 60 = .ok (.ifCond .eq 7, 3) := by decide +kernel
theorem d_M_unlikePlaces_63 : decode zm_M_unlikePlaces.2.2.1 63 = .ok (.iconst 1, 1) := by decide +kernel
theorem d_M_unlikePlaces_64 : decode zm_M_unlikePlaces.2.2.1 64 = .ok (.goto 4, 3) := by decide +kernel
theorem d_M_unlikePlaces_67 : decode zm_M_unlikePlaces.2.2.1 67 = .ok (.iconst 0, 1) := by decide +kernel
theorem d_M_unlikePlaces_68 : decode zm_M_unlikePlaces.2.2.1 68 = .ok (.iadd, 1) := by decide +kernel
theorem d_M_unlikePlaces_69 : decode zm_M_unlikePlaces.2.2.1 69 = .ok (.istore_n 1, 1) := by decide +kernel
theorem d_M_unlikePlaces_70 : decode zm_M_unlikePlaces.2.2.1 70 = .ok (.iinc 2 1, 3) := by decide +kernel
theorem d_M_unlikePlaces_73 : decode zm_M_unlikePlaces.2.2.1 73 = .ok (.goto (-69), 3) := by decide +kernel
theorem d_M_unlikePlaces_76 : decode zm_M_unlikePlaces.2.2.1 76 = .ok (.iload_n 1, 1) := by decide +kernel
theorem d_M_unlikePlaces_77 : decode zm_M_unlikePlaces.2.2.1 77 = .ok (.ireturn, 1) := by decide +kernel
theorem d_M_turnedAll_0 : decode zm_M_turnedAll.2.2.1 0 = .ok (.iconst 0, 1) := by decide +kernel
theorem d_M_turnedAll_1 : decode zm_M_turnedAll.2.2.1 1 = .ok (.istore_n 1, 1) := by decide +kernel
theorem d_M_turnedAll_2 : decode zm_M_turnedAll.2.2.1 2 = .ok (.iconst 0, 1) := by decide +kernel
theorem d_M_turnedAll_3 : decode zm_M_turnedAll.2.2.1 3 = .ok (.istore_n 2, 1) := by decide +kernel
theorem d_M_turnedAll_4 : decode zm_M_turnedAll.2.2.1 4 = .ok (.iload_n 2, 1) := by decide +kernel
theorem d_M_turnedAll_5 : decode zm_M_turnedAll.2.2.1 5 = .ok (.aload_n 0, 1) := by decide +kernel
theorem d_M_turnedAll_6 : decode zm_M_turnedAll.2.2.1 6 = .ok (.getfield 148, 3) := by decide +kernel
theorem d_M_turnedAll_9 : decode zm_M_turnedAll.2.2.1 9 = .ok (.if_icmp .ge 17, 3) := by decide +kernel
theorem d_M_turnedAll_12 : decode zm_M_turnedAll.2.2.1 12 = .ok (.iload_n 1, 1) := by decide +kernel
theorem d_M_turnedAll_13 : decode zm_M_turnedAll.2.2.1 13 = .ok (.aload_n 0, 1) := by decide +kernel
theorem d_M_turnedAll_14 : decode zm_M_turnedAll.2.2.1 14 = .ok (.iload_n 2, 1) := by decide +kernel
theorem d_M_turnedAll_15 : decode zm_M_turnedAll.2.2.1 15 = .ok (.invokevirtual 182, 3) := by decide +kernel
theorem d_M_turnedAll_18 : decode zm_M_turnedAll.2.2.1 18 = .ok (.iadd, 1) := by decide +kernel
theorem d_M_turnedAll_19 : decode zm_M_turnedAll.2.2.1 19 = .ok (.istore_n 1, 1) := by decide +kernel
theorem d_M_turnedAll_20 : decode zm_M_turnedAll.2.2.1 20 = .ok (.iinc 2 1, 3) := by decide +kernel
theorem d_M_turnedAll_23 : decode zm_M_turnedAll.2.2.1 23 = .ok (.goto (-19), 3) := by decide +kernel
theorem d_M_turnedAll_26 : decode zm_M_turnedAll.2.2.1 26 = .ok (.iload_n 1, 1) := by decide +kernel
theorem d_M_turnedAll_27 : decode zm_M_turnedAll.2.2.1 27 = .ok (.ireturn, 1) := by decide +kernel
theorem d_M_childless_0 : decode zm_M_childless.2.2.1 0 = .ok (.iconst 0, 1) := by decide +kernel
theorem d_M_childless_1 : decode zm_M_childless.2.2.1 1 = .ok (.istore_n 1, 1) := by decide +kernel
theorem d_M_childless_2 : decode zm_M_childless.2.2.1 2 = .ok (.iconst 0, 1) := by decide +kernel
theorem d_M_childless_3 : decode zm_M_childless.2.2.1 3 = .ok (.istore_n 2, 1) := by decide +kernel
theorem d_M_childless_4 : decode zm_M_childless.2.2.1 4 = .ok (.iload_n 2, 1) := by decide +kernel
theorem d_M_childless_5 : decode zm_M_childless.2.2.1 5 = .ok (.aload_n 0, 1) := by decide +kernel
theorem d_M_childless_6 : decode zm_M_childless.2.2.1 6 = .ok (.getfield 148, 3) := by decide +kernel
theorem d_M_childless_9 : decode zm_M_childless.2.2.1 9 = .ok (.if_icmp .ge 62, 3) := by decide +kernel
theorem d_M_childless_12 : decode zm_M_childless.2.2.1 12 = .ok (.iconst 1, 1) := by decide +kernel
theorem d_M_childless_13 : decode zm_M_childless.2.2.1 13 = .ok (.istore_n 3, 1) := by decide +kernel
theorem d_M_childless_14 : decode zm_M_childless.2.2.1 14 = .ok (.iconst 0, 1) := by decide +kernel
theorem d_M_childless_15 : decode zm_M_childless.2.2.1 15 = .ok (.istore 4, 2) := by decide +kernel
theorem d_M_childless_17 : decode zm_M_childless.2.2.1 17 = .ok (.iload 4, 2) := by decide +kernel
theorem d_M_childless_19 : decode zm_M_childless.2.2.1 19 = .ok (.aload_n 0, 1) := by decide +kernel
theorem d_M_childless_20 : decode zm_M_childless.2.2.1 20 = .ok (.getfield 148, 3) := by decide +kernel
theorem d_M_childless_23 : decode zm_M_childless.2.2.1 23 = .ok (.if_icmp .ge 30, 3) := by decide +kernel
theorem d_M_childless_26 : decode zm_M_childless.2.2.1 26 = .ok (.iload_n 3, 1) := by decide +kernel
theorem d_M_childless_27 : decode zm_M_childless.2.2.1 27 = .ok (.ifCond .eq 18, 3) := by decide +kernel
theorem d_M_childless_30 : decode zm_M_childless.2.2.1 30 = .ok (.aload_n 0, 1) := by decide +kernel
theorem d_M_childless_31 : decode zm_M_childless.2.2.1 31 = .ok (.getfield 54, 3) := by decide +kernel
theorem d_M_childless_34 : decode zm_M_childless.2.2.1 34 = .ok (.iload 4, 2) := by decide +kernel
theorem d_M_childless_36 : decode zm_M_childless.2.2.1 36 = .ok (.iaload, 1) := by decide +kernel
theorem d_M_childless_37 : decode zm_M_childless.2.2.1 37 = .ok (.iload_n 2, 1) := by decide +kernel
theorem d_M_childless_38 : decode zm_M_childless.2.2.1 38 = .ok (.if_icmp .eq 7, 3) := by decide +kernel
theorem d_M_childless_41 : decode zm_M_childless.2.2.1 41 = .ok (.iconst 1, 1) := by decide +kernel
theorem d_M_childless_42 : decode zm_M_childless.2.2.1 42 = .ok (.goto 4, 3) := by decide +kernel
theorem d_M_childless_45 : decode zm_M_childless.2.2.1 45 = .ok (.iconst 0, 1) := by decide +kernel
theorem d_M_childless_46 : decode zm_M_childless.2.2.1 46 = .ok (.istore_n 3, 1) := by decide +kernel
theorem d_M_childless_47 : decode zm_M_childless.2.2.1 47 = .ok (.iinc 4 1, 3) := by decide +kernel
theorem d_M_childless_50 : decode zm_M_childless.2.2.1 50 = .ok (.goto (-33), 3) := by decide +kernel
theorem d_M_childless_53 : decode zm_M_childless.2.2.1 53 = .ok (.iload_n 1, 1) := by decide +kernel
theorem d_M_childless_54 : decode zm_M_childless.2.2.1 54 = .ok (.iload_n 3, 1) := by decide +kernel
theorem d_M_childless_55 : decode zm_M_childless.2.2.1 55 = .ok (.ifCond .eq 7, 3) := by decide +kernel
theorem d_M_childless_58 : decode zm_M_childless.2.2.1 58 = .ok (.iconst 1, 1) := by decide +kernel
theorem d_M_childless_59 : decode zm_M_childless.2.2.1 59 = .ok (.goto 4, 3) := by decide +kernel
theorem d_M_childless_62 : decode zm_M_childless.2.2.1 62 = .ok (.iconst 0, 1) := by decide +kernel
theorem d_M_childless_63 : decode zm_M_childless.2.2.1 63 = .ok (.iadd, 1) := by decide +kernel
theorem d_M_childless_64 : decode zm_M_childless.2.2.1 64 = .ok (.istore_n 1, 1) := by decide +kernel
theorem d_M_childless_65 : decode zm_M_childless.2.2.1 65 = .ok (.iinc 2 1, 3) := by decide +kernel
theorem d_M_childless_68 : decode zm_M_childless.2.2.1 68 = .ok (.goto (-64), 3) := by decide +kernel
theorem d_M_childless_71 : decode zm_M_childless.2.2.1 71 = .ok (.iload_n 1, 1) := by decide +kernel
theorem d_M_childless_72 : decode zm_M_childless.2.2.1 72 = .ok (.ireturn, 1) := by decide +kernel
theorem d_M_statesNow_0 : decode zm_M_statesNow.2.2.1 0 = .ok (.aload_n 0, 1) := by decide +kernel
theorem d_M_statesNow_1 : decode zm_M_statesNow.2.2.1 1 = .ok (.invokevirtual 167, 3) := by decide +kernel
theorem d_M_statesNow_4 : decode zm_M_statesNow.2.2.1 4 = .ok (.iload_n 1, 1) := by decide +kernel
theorem d_M_statesNow_5 : decode zm_M_statesNow.2.2.1 5 = .ok (.tableswitch 60 0 4 #[35, 40, 45, 50, 55], 35) := by decide +kernel
theorem d_M_statesNow_40 : decode zm_M_statesNow.2.2.1 40 = .ok (.aload_n 0, 1) := by decide +kernel
theorem d_M_statesNow_41 : decode zm_M_statesNow.2.2.1 41 = .ok (.getfield 148, 3) := by decide +kernel
theorem d_M_statesNow_44 : decode zm_M_statesNow.2.2.1 44 = .ok (.ireturn, 1) := by decide +kernel
theorem d_M_statesNow_45 : decode zm_M_statesNow.2.2.1 45 = .ok (.aload_n 0, 1) := by decide +kernel
theorem d_M_statesNow_46 : decode zm_M_statesNow.2.2.1 46 = .ok (.invokevirtual 185, 3) := by decide +kernel
theorem d_M_statesNow_49 : decode zm_M_statesNow.2.2.1 49 = .ok (.ireturn, 1) := by decide +kernel
theorem d_M_statesNow_50 : decode zm_M_statesNow.2.2.1 50 = .ok (.aload_n 0, 1) := by decide +kernel
theorem d_M_statesNow_51 : decode zm_M_statesNow.2.2.1 51 = .ok (.invokevirtual 188, 3) := by decide +kernel
theorem d_M_statesNow_54 : decode zm_M_statesNow.2.2.1 54 = .ok (.ireturn, 1) := by decide +kernel
theorem d_M_statesNow_55 : decode zm_M_statesNow.2.2.1 55 = .ok (.aload_n 0, 1) := by decide +kernel
theorem d_M_statesNow_56 : decode zm_M_statesNow.2.2.1 56 = .ok (.invokevirtual 191, 3) := by decide +kernel
theorem d_M_statesNow_59 : decode zm_M_statesNow.2.2.1 59 = .ok (.ireturn, 1) := by decide +kernel
theorem d_M_statesNow_60 : decode zm_M_statesNow.2.2.1 60 = .ok (.aload_n 0, 1) := by decide +kernel
theorem d_M_statesNow_61 : decode zm_M_statesNow.2.2.1 61 = .ok (.invokevirtual 194, 3) := by decide +kernel
theorem d_M_statesNow_64 : decode zm_M_statesNow.2.2.1 64 = .ok (.ireturn, 1) := by decide +kernel
theorem d_M_statesNow_65 : decode zm_M_statesNow.2.2.1 65 = .ok (.aload_n 0, 1) := by decide +kernel
theorem d_M_statesNow_66 : decode zm_M_statesNow.2.2.1 66 = .ok (.invokevirtual 197, 3) := by decide +kernel
theorem d_M_statesNow_69 : decode zm_M_statesNow.2.2.1 69 = .ok (.ireturn, 1) := by decide +kernel
theorem d_M_states_0 : decode zm_M_states.2.2.1 0 = .ok (.iload_n 1, 1) := by decide +kernel
theorem d_M_states_1 : decode zm_M_states.2.2.1 1 = .ok (.iconst 0, 1) := by decide +kernel
theorem d_M_states_2 : decode zm_M_states.2.2.1 2 = .ok (.iconst 5, 1) := by decide +kernel
theorem d_M_states_3 : decode zm_M_states.2.2.1 3 = .ok (.invokestatic 72, 3) := by decide +kernel
theorem d_M_states_6 : decode zm_M_states.2.2.1 6 = .ok (.ifCond .eq 11, 3) := by decide +kernel
theorem d_M_states_9 : decode zm_M_states.2.2.1 9 = .ok (.aload_n 0, 1) := by decide +kernel
theorem d_M_states_10 : decode zm_M_states.2.2.1 10 = .ok (.iload_n 1, 1) := by decide +kernel
theorem d_M_states_11 : decode zm_M_states.2.2.1 11 = .ok (.invokevirtual 200, 3) := by decide +kernel
theorem d_M_states_14 : decode zm_M_states.2.2.1 14 = .ok (.goto 5, 3) := by decide +kernel
theorem d_M_states_17 : decode zm_M_states.2.2.1 17 = .ok (.bipush (-102), 2) := by decide +kernel
theorem d_M_states_19 : decode zm_M_states.2.2.1 19 = .ok (.ireturn, 1) := by decide +kernel
theorem d_M_copiesIn_0 : decode zm_M_copiesIn.2.2.1 0 = .ok (.iconst 0, 1) := by decide +kernel
theorem d_M_copiesIn_1 : decode zm_M_copiesIn.2.2.1 1 = .ok (.istore_n 2, 1) := by decide +kernel
theorem d_M_copiesIn_2 : decode zm_M_copiesIn.2.2.1 2 = .ok (.iconst 0, 1) := by decide +kernel
theorem d_M_copiesIn_3 : decode zm_M_copiesIn.2.2.1 3 = .ok (.istore_n 3, 1) := by decide +kernel
theorem d_M_copiesIn_4 : decode zm_M_copiesIn.2.2.1 4 = .ok (.iload_n 3, 1) := by decide +kernel
theorem d_M_copiesIn_5 : decode zm_M_copiesIn.2.2.1 5 = .ok (.aload_n 0, 1) := by decide +kernel
theorem d_M_copiesIn_6 : decode zm_M_copiesIn.2.2.1 6 = .ok (.getfield 86, 3) := by decide +kernel
theorem d_M_copiesIn_9 : decode zm_M_copiesIn.2.2.1 9 = .ok (.if_icmp .ge 27, 3) := by decide +kernel
theorem d_M_copiesIn_12 : decode zm_M_copiesIn.2.2.1 12 = .ok (.iload_n 2, 1) := by decide +kernel
theorem d_M_copiesIn_13 : decode zm_M_copiesIn.2.2.1 13 = .ok (.aload_n 0, 1) := by decide +kernel
theorem d_M_copiesIn_14 : decode zm_M_copiesIn.2.2.1 14 = .ok (.getfield 48, 3) := by decide +kernel
theorem d_M_copiesIn_17 : decode zm_M_copiesIn.2.2.1 17 = .ok (.iload_n 3, 1) := by decide +kernel
theorem d_M_copiesIn_18 : decode zm_M_copiesIn.2.2.1 18 = .ok (.iaload, 1) := by decide +kernel
theorem d_M_copiesIn_19 : decode zm_M_copiesIn.2.2.1 19 = .ok (.iload_n 1, 1) := by decide +kernel
theorem d_M_copiesIn_20 : decode zm_M_copiesIn.2.2.1 20 = .ok (.if_icmp .ne 7, 3) := by decide +kernel
theorem d_M_copiesIn_23 : decode zm_M_copiesIn.2.2.1 23 = .ok (.iconst 1, 1) := by decide +kernel
theorem d_M_copiesIn_24 : decode zm_M_copiesIn.2.2.1 24 = .ok (.goto 4, 3) := by decide +kernel
theorem d_M_copiesIn_27 : decode zm_M_copiesIn.2.2.1 27 = .ok (.iconst 0, 1) := by decide +kernel
theorem d_M_copiesIn_28 : decode zm_M_copiesIn.2.2.1 28 = .ok (.iadd, 1) := by decide +kernel
theorem d_M_copiesIn_29 : decode zm_M_copiesIn.2.2.1 29 = .ok (.istore_n 2, 1) := by decide +kernel
theorem d_M_copiesIn_30 : decode zm_M_copiesIn.2.2.1 30 = .ok (.iinc 3 1, 3) := by decide +kernel
theorem d_M_copiesIn_33 : decode zm_M_copiesIn.2.2.1 33 = .ok (.goto (-29), 3) := by decide +kernel
theorem d_M_copiesIn_36 : decode zm_M_copiesIn.2.2.1 36 = .ok (.iload_n 2, 1) := by decide +kernel
theorem d_M_copiesIn_37 : decode zm_M_copiesIn.2.2.1 37 = .ok (.ireturn, 1) := by decide +kernel
theorem d_M_above_0 : decode zm_M_above.2.2.1 0 = .ok (.iconst 0, 1) := by decide +kernel
theorem d_M_above_1 : decode zm_M_above.2.2.1 1 = .ok (.istore_n 2, 1) := by decide +kernel
theorem d_M_above_2 : decode zm_M_above.2.2.1 2 = .ok (.aload_n 0, 1) := by decide +kernel
theorem d_M_above_3 : decode zm_M_above.2.2.1 3 = .ok (.getfield 54, 3) := by decide +kernel
theorem d_M_above_6 : decode zm_M_above.2.2.1 6 = .ok (.iload_n 1, 1) := by decide +kernel
theorem d_M_above_7 : decode zm_M_above.2.2.1 7 = .ok (.iaload, 1) := by decide +kernel
theorem d_M_above_8 : decode zm_M_above.2.2.1 8 = .ok (.istore_n 3, 1) := by decide +kernel
theorem d_M_above_9 : decode zm_M_above.2.2.1 9 = .ok (.iload_n 3, 1) := by decide +kernel
theorem d_M_above_10 : decode zm_M_above.2.2.1 10 = .ok (.iconst (-1), 1) := by decide +kernel
theorem d_M_above_11 : decode zm_M_above.2.2.1 11 = .ok (.if_icmp .eq 16, 3) := by decide +kernel
theorem d_M_above_14 : decode zm_M_above.2.2.1 14 = .ok (.iinc 2 1, 3) := by decide +kernel
theorem d_M_above_17 : decode zm_M_above.2.2.1 17 = .ok (.aload_n 0, 1) := by decide +kernel
theorem d_M_above_18 : decode zm_M_above.2.2.1 18 = .ok (.getfield 54, 3) := by decide +kernel
theorem d_M_above_21 : decode zm_M_above.2.2.1 21 = .ok (.iload_n 3, 1) := by decide +kernel
theorem d_M_above_22 : decode zm_M_above.2.2.1 22 = .ok (.iaload, 1) := by decide +kernel
theorem d_M_above_23 : decode zm_M_above.2.2.1 23 = .ok (.istore_n 3, 1) := by decide +kernel
theorem d_M_above_24 : decode zm_M_above.2.2.1 24 = .ok (.goto (-15), 3) := by decide +kernel
theorem d_M_above_27 : decode zm_M_above.2.2.1 27 = .ok (.iload_n 2, 1) := by decide +kernel
theorem d_M_above_28 : decode zm_M_above.2.2.1 28 = .ok (.ireturn, 1) := by decide +kernel
theorem d_M_tellState_0 : decode zm_M_tellState.2.2.1 0 = .ok (.iload_n 2, 1) := by decide +kernel
theorem d_M_tellState_1 : decode zm_M_tellState.2.2.1 1 = .ok (.tableswitch 91 0 5 #[39, 46, 52, 59, 79, 85], 39) := by decide +kernel
theorem d_M_tellState_40 : decode zm_M_tellState.2.2.1 40 = .ok (.aload_n 0, 1) := by decide +kernel
theorem d_M_tellState_41 : decode zm_M_tellState.2.2.1 41 = .ok (.getfield 51, 3) := by decide +kernel
theorem d_M_tellState_44 : decode zm_M_tellState.2.2.1 44 = .ok (.iload_n 1, 1) := by decide +kernel
theorem d_M_tellState_45 : decode zm_M_tellState.2.2.1 45 = .ok (.iaload, 1) := by decide +kernel
theorem d_M_tellState_46 : decode zm_M_tellState.2.2.1 46 = .ok (.ireturn, 1) := by decide +kernel
theorem d_M_tellState_47 : decode zm_M_tellState.2.2.1 47 = .ok (.aload_n 0, 1) := by decide +kernel
theorem d_M_tellState_48 : decode zm_M_tellState.2.2.1 48 = .ok (.iload_n 1, 1) := by decide +kernel
theorem d_M_tellState_49 : decode zm_M_tellState.2.2.1 49 = .ok (.invokevirtual 203, 3) := by decide +kernel
theorem d_M_tellState_52 : decode zm_M_tellState.2.2.1 52 = .ok (.ireturn, 1) := by decide +kernel
theorem d_M_tellState_53 : decode zm_M_tellState.2.2.1 53 = .ok (.aload_n 0, 1) := by decide +kernel
theorem d_M_tellState_54 : decode zm_M_tellState.2.2.1 54 = .ok (.getfield 54, 3) := by decide +kernel
theorem d_M_tellState_57 : decode zm_M_tellState.2.2.1 57 = .ok (.iload_n 1, 1) := by decide +kernel
theorem d_M_tellState_58 : decode zm_M_tellState.2.2.1 58 = .ok (.iaload, 1) := by decide +kernel
theorem d_M_tellState_59 : decode zm_M_tellState.2.2.1 59 = .ok (.ireturn, 1) := by decide +kernel
theorem d_M_tellState_60 : decode zm_M_tellState.2.2.1 60 = .ok (.iload_n 1, 1) := by decide +kernel
theorem d_M_tellState_61 : decode zm_M_tellState.2.2.1 61 = .ok (.ifCond .ne 7, 3) := by decide +kernel
theorem d_M_tellState_64 : decode zm_M_tellState.2.2.1 64 = .ok (.iconst 0, 1) := by decide +kernel
theorem d_M_tellState_65 : decode zm_M_tellState.2.2.1 65 = .ok (.goto 14, 3) := by decide +kernel
theorem d_M_tellState_68 : decode zm_M_tellState.2.2.1 68 = .ok (.aload_n 0, 1) := by decide +kernel
theorem d_M_tellState_69 : decode zm_M_tellState.2.2.1 69 = .ok (.iload_n 1, 1) := by decide +kernel
theorem d_M_tellState_70 : decode zm_M_tellState.2.2.1 70 = .ok (.aload_n 0, 1) := by decide +kernel
theorem d_M_tellState_71 : decode zm_M_tellState.2.2.1 71 = .ok (.getfield 54, 3) := by decide +kernel
theorem d_M_tellState_74 : decode zm_M_tellState.2.2.1 74 = .ok (.iload_n 1, 1) := by decide +kernel
theorem d_M_tellState_75 : decode zm_M_tellState.2.2.1 75 = .ok (.iaload, 1) := by decide +kernel
theorem d_M_tellState_76 : decode zm_M_tellState.2.2.1 76 = .ok (.invokevirtual 157, 3) := by decide +kernel
theorem d_M_tellState_79 : decode zm_M_tellState.2.2.1 79 = .ok (.ireturn, 1) := by decide +kernel
theorem d_M_tellState_80 : decode zm_M_tellState.2.2.1 80 = .ok (.aload_n 0, 1) := by decide +kernel
theorem d_M_tellState_81 : decode zm_M_tellState.2.2.1 81 = .ok (.iload_n 1, 1) := by decide +kernel
theorem d_M_tellState_82 : decode zm_M_tellState.2.2.1 82 = .ok (.invokevirtual 206, 3) := by decide +kernel
theorem d_M_tellState_85 : decode zm_M_tellState.2.2.1 85 = .ok (.ireturn, 1) := by decide +kernel
theorem d_M_tellState_86 : decode zm_M_tellState.2.2.1 86 = .ok (.aload_n 0, 1) := by decide +kernel
theorem d_M_tellState_87 : decode zm_M_tellState.2.2.1 87 = .ok (.iload_n 1, 1) := by decide +kernel
theorem d_M_tellState_88 : decode zm_M_tellState.2.2.1 88 = .ok (.invokevirtual 182, 3) := by decide +kernel
theorem d_M_tellState_91 : decode zm_M_tellState.2.2.1 91 = .ok (.ireturn, 1) := by decide +kernel
theorem d_M_tellState_92 : decode zm_M_tellState.2.2.1 92 = .ok (.aload_n 0, 1) := by decide +kernel
theorem d_M_tellState_93 : decode zm_M_tellState.2.2.1 93 = .ok (.getfield 57, 3) := by decide +kernel
theorem d_M_tellState_96 : decode zm_M_tellState.2.2.1 96 = .ok (.iload_n 1, 1) := by decide +kernel
theorem d_M_tellState_97 : decode zm_M_tellState.2.2.1 97 = .ok (.iaload, 1) := by decide +kernel
theorem d_M_tellState_98 : decode zm_M_tellState.2.2.1 98 = .ok (.ireturn, 1) := by decide +kernel
theorem d_M_stateNow_0 : decode zm_M_stateNow.2.2.1 0 = .ok (.aload_n 0, 1) := by decide +kernel
theorem d_M_stateNow_1 : decode zm_M_stateNow.2.2.1 1 = .ok (.invokevirtual 167, 3) := by decide +kernel
theorem d_M_stateNow_4 : decode zm_M_stateNow.2.2.1 4 = .ok (.iload_n 1, 1) := by decide +kernel
theorem d_M_stateNow_5 : decode zm_M_stateNow.2.2.1 5 = .ok (.iconst 0, 1) := by decide +kernel
theorem d_M_stateNow_6 : decode zm_M_stateNow.2.2.1 6 = .ok (.aload_n 0, 1) := by decide +kernel
theorem d_M_stateNow_7 : decode zm_M_stateNow.2.2.1 7 = .ok (.getfield 148, 3) := by decide +kernel
theorem d_M_stateNow_10 : decode zm_M_stateNow.2.2.1 10 = .ok (.iconst 1, 1) := by decide +kernel
theorem d_M_stateNow_11 : decode zm_M_stateNow.2.2.1 11 = .ok (.isub, 1) := by decide +kernel
theorem d_M_stateNow_12 : decode zm_M_stateNow.2.2.1 12 = .ok (.invokestatic 72, 3) := by decide +kernel
theorem d_M_stateNow_15 : decode zm_M_stateNow.2.2.1 15 = .ok (.ifCond .ne 6, 3) := by decide +kernel
theorem d_M_stateNow_18 : decode zm_M_stateNow.2.2.1 18 = .ok (.bipush (-101), 2) := by decide +kernel
theorem d_M_stateNow_20 : decode zm_M_stateNow.2.2.1 20 = .ok (.ireturn, 1) := by decide +kernel
theorem d_M_stateNow_21 : decode zm_M_stateNow.2.2.1 21 = .ok (.iload_n 2, 1) := by decide +kernel
theorem d_M_stateNow_22 : decode zm_M_stateNow.2.2.1 22 = .ok (.iconst 0, 1) := by decide +kernel
theorem d_M_stateNow_23 : decode zm_M_stateNow.2.2.1 23 = .ok (.bipush 6, 2) := by decide +kernel
theorem d_M_stateNow_25 : decode zm_M_stateNow.2.2.1 25 = .ok (.invokestatic 72, 3) := by decide +kernel
theorem d_M_stateNow_28 : decode zm_M_stateNow.2.2.1 28 = .ok (.ifCond .eq 12, 3) := by decide +kernel
theorem d_M_stateNow_31 : decode zm_M_stateNow.2.2.1 31 = .ok (.aload_n 0, 1) := by decide +kernel
theorem d_M_stateNow_32 : decode zm_M_stateNow.2.2.1 32 = .ok (.iload_n 1, 1) := by decide +kernel
theorem d_M_stateNow_33 : decode zm_M_stateNow.2.2.1 33 = .ok (.iload_n 2, 1) := by decide +kernel
theorem d_M_stateNow_34 : decode zm_M_stateNow.2.2.1 34 = .ok (.invokevirtual 209, 3) := by decide +kernel
theorem d_M_stateNow_37 : decode zm_M_stateNow.2.2.1 37 = .ok (.goto 5, 3) := by decide +kernel
theorem d_M_stateNow_40 : decode zm_M_stateNow.2.2.1 40 = .ok (.bipush (-102), 2) := by decide +kernel
theorem d_M_stateNow_42 : decode zm_M_stateNow.2.2.1 42 = .ok (.ireturn, 1) := by decide +kernel
theorem d_M_state_0 : decode zm_M_state.2.2.1 0 = .ok (.aload_n 0, 1) := by decide +kernel
theorem d_M_state_1 : decode zm_M_state.2.2.1 1 = .ok (.iload_n 1, 1) := by decide +kernel
theorem d_M_state_2 : decode zm_M_state.2.2.1 2 = .ok (.iload_n 2, 1) := by decide +kernel
theorem d_M_state_3 : decode zm_M_state.2.2.1 3 = .ok (.invokevirtual 212, 3) := by decide +kernel
theorem d_M_state_6 : decode zm_M_state.2.2.1 6 = .ok (.ireturn, 1) := by decide +kernel
theorem d_M_far_0 : decode zm_M_far.2.2.1 0 = .ok (.aload_n 0, 1) := by decide +kernel
theorem d_M_far_1 : decode zm_M_far.2.2.1 1 = .ok (.invokevirtual 167, 3) := by decide +kernel
theorem d_M_far_4 : decode zm_M_far.2.2.1 4 = .ok (.iload_n 1, 1) := by decide +kernel
theorem d_M_far_5 : decode zm_M_far.2.2.1 5 = .ok (.iconst 0, 1) := by decide +kernel
theorem d_M_far_6 : decode zm_M_far.2.2.1 6 = .ok (.aload_n 0, 1) := by decide +kernel
theorem d_M_far_7 : decode zm_M_far.2.2.1 7 = .ok (.getfield 148, 3) := by decide +kernel
theorem d_M_far_10 : decode zm_M_far.2.2.1 10 = .ok (.iconst 1, 1) := by decide +kernel
theorem d_M_far_11 : decode zm_M_far.2.2.1 11 = .ok (.isub, 1) := by decide +kernel
theorem d_M_far_12 : decode zm_M_far.2.2.1 12 = .ok (.invokestatic 72, 3) := by decide +kernel
theorem d_M_far_15 : decode zm_M_far.2.2.1 15 = .ok (.ifCond .eq 26, 3) := by decide +kernel
theorem d_M_far_18 : decode zm_M_far.2.2.1 18 = .ok (.iload_n 2, 1) := by decide +kernel
theorem d_M_far_19 : decode zm_M_far.2.2.1 19 = .ok (.iconst 0, 1) := by decide +kernel
theorem d_M_far_20 : decode zm_M_far.2.2.1 20 = .ok (.aload_n 0, 1) := by decide +kernel
theorem d_M_far_21 : decode zm_M_far.2.2.1 21 = .ok (.getfield 148, 3) := by decide +kernel
theorem d_M_far_24 : decode zm_M_far.2.2.1 24 = .ok (.iconst 1, 1) := by decide +kernel
theorem d_M_far_25 : decode zm_M_far.2.2.1 25 = .ok (.isub, 1) := by decide +kernel
theorem d_M_far_26 : decode zm_M_far.2.2.1 26 = .ok (.invokestatic 72, 3) := by decide +kernel
theorem d_M_far_29 : decode zm_M_far.2.2.1 29 = .ok (.ifCond .eq 12, 3) := by decide +kernel
theorem d_M_far_32 : decode zm_M_far.2.2.1 32 = .ok (.aload_n 0, 1) := by decide +kernel
theorem d_M_far_33 : decode zm_M_far.2.2.1 33 = .ok (.iload_n 1, 1) := by decide +kernel
theorem d_M_far_34 : decode zm_M_far.2.2.1 34 = .ok (.iload_n 2, 1) := by decide +kernel
theorem d_M_far_35 : decode zm_M_far.2.2.1 35 = .ok (.invokevirtual 157, 3) := by decide +kernel
theorem d_M_far_38 : decode zm_M_far.2.2.1 38 = .ok (.goto 5, 3) := by decide +kernel
theorem d_M_far_41 : decode zm_M_far.2.2.1 41 = .ok (.bipush (-101), 2) := by decide +kernel
theorem d_M_far_43 : decode zm_M_far.2.2.1 43 = .ok (.ireturn, 1) := by decide +kernel
theorem d_M_turned_0 : decode zm_M_turned.2.2.1 0 = .ok (.aload_n 0, 1) := by decide +kernel
theorem d_M_turned_1 : decode zm_M_turned.2.2.1 1 = .ok (.invokevirtual 167, 3) := by decide +kernel
theorem d_M_turned_4 : decode zm_M_turned.2.2.1 4 = .ok (.iload_n 1, 1) := by decide +kernel
theorem d_M_turned_5 : decode zm_M_turned.2.2.1 5 = .ok (.iconst 0, 1) := by decide +kernel
theorem d_M_turned_6 : decode zm_M_turned.2.2.1 6 = .ok (.aload_n 0, 1) := by decide +kernel
theorem d_M_turned_7 : decode zm_M_turned.2.2.1 7 = .ok (.getfield 148, 3) := by decide +kernel
theorem d_M_turned_10 : decode zm_M_turned.2.2.1 10 = .ok (.iconst 1, 1) := by decide +kernel
theorem d_M_turned_11 : decode zm_M_turned.2.2.1 11 = .ok (.isub, 1) := by decide +kernel
theorem d_M_turned_12 : decode zm_M_turned.2.2.1 12 = .ok (.invokestatic 72, 3) := by decide +kernel
theorem d_M_turned_15 : decode zm_M_turned.2.2.1 15 = .ok (.ifCond .eq 21, 3) := by decide +kernel
theorem d_M_turned_18 : decode zm_M_turned.2.2.1 18 = .ok (.iload_n 2, 1) := by decide +kernel
theorem d_M_turned_19 : decode zm_M_turned.2.2.1 19 = .ok (.iconst 0, 1) := by decide +kernel
theorem d_M_turned_20 : decode zm_M_turned.2.2.1 20 = .ok (.aload_n 0, 1) := by decide +kernel
theorem d_M_turned_21 : decode zm_M_turned.2.2.1 21 = .ok (.invokevirtual 141, 3) := by decide +kernel
theorem d_M_turned_24 : decode zm_M_turned.2.2.1 24 = .ok (.iconst 1, 1) := by decide +kernel
theorem d_M_turned_25 : decode zm_M_turned.2.2.1 25 = .ok (.isub, 1) := by decide +kernel
theorem d_M_turned_26 : decode zm_M_turned.2.2.1 26 = .ok (.invokestatic 72, 3) := by decide +kernel
theorem d_M_turned_29 : decode zm_M_turned.2.2.1 29 = .ok (.ifCond .eq 7, 3) := by decide +kernel
theorem d_M_turned_32 : decode zm_M_turned.2.2.1 32 = .ok (.iconst 1, 1) := by decide +kernel
theorem d_M_turned_33 : decode zm_M_turned.2.2.1 33 = .ok (.goto 4, 3) := by decide +kernel
theorem d_M_turned_36 : decode zm_M_turned.2.2.1 36 = .ok (.iconst 0, 1) := by decide +kernel
theorem d_M_turned_37 : decode zm_M_turned.2.2.1 37 = .ok (.istore_n 3, 1) := by decide +kernel
theorem d_M_turned_38 : decode zm_M_turned.2.2.1 38 = .ok (.iload_n 3, 1) := by decide +kernel
theorem d_M_turned_39 : decode zm_M_turned.2.2.1 39 = .ok (.ifCond .ne 8, 3) := by decide +kernel
theorem d_M_turned_42 : decode zm_M_turned.2.2.1 42 = .ok (.bipush (-101), 2) := by decide +kernel
theorem d_M_turned_44 : decode zm_M_turned.2.2.1 44 = .ok (.goto 17, 3) := by decide +kernel
theorem d_M_turned_47 : decode zm_M_turned.2.2.1 47 = .ok (.aload_n 0, 1) := by decide +kernel
theorem d_M_turned_48 : decode zm_M_turned.2.2.1 48 = .ok (.iload_n 1, 1) := by decide +kernel
theorem d_M_turned_49 : decode zm_M_turned.2.2.1 49 = .ok (.iload_n 2, 1) := by decide +kernel
theorem d_M_turned_50 : decode zm_M_turned.2.2.1 50 = .ok (.invokevirtual 163, 3) := by decide +kernel
theorem d_M_turned_53 : decode zm_M_turned.2.2.1 53 = .ok (.ifCond .eq 7, 3) := by decide +kernel
theorem d_M_turned_56 : decode zm_M_turned.2.2.1 56 = .ok (.iconst 1, 1) := by decide +kernel
theorem d_M_turned_57 : decode zm_M_turned.2.2.1 57 = .ok (.goto 4, 3) := by decide +kernel
theorem d_M_turned_60 : decode zm_M_turned.2.2.1 60 = .ok (.iconst 0, 1) := by decide +kernel
theorem d_M_turned_61 : decode zm_M_turned.2.2.1 61 = .ok (.ireturn, 1) := by decide +kernel
theorem d_M_isTaken_0 : decode zm_M_isTaken.2.2.1 0 = .ok (.iconst 0, 1) := by decide +kernel
theorem d_M_isTaken_1 : decode zm_M_isTaken.2.2.1 1 = .ok (.istore 4, 2) := by decide +kernel
theorem d_M_isTaken_3 : decode zm_M_isTaken.2.2.1 3 = .ok (.iconst 0, 1) := by decide +kernel
theorem d_M_isTaken_4 : decode zm_M_isTaken.2.2.1 4 = .ok (.istore 5, 2) := by decide +kernel
theorem d_M_isTaken_6 : decode zm_M_isTaken.2.2.1 6 = .ok (.iload 5, 2) := by decide +kernel
theorem d_M_isTaken_8 : decode zm_M_isTaken.2.2.1 8 = .ok (.aload_n 0, 1) := by decide +kernel
theorem d_M_isTaken_9 : decode zm_M_isTaken.2.2.1 9 = .ok (.getfield 215, 3) := by decide +kernel
theorem d_M_isTaken_12 : decode zm_M_isTaken.2.2.1 12 = .ok (.if_icmp .ge 54, 3) := by decide +kernel
theorem d_M_isTaken_15 : decode zm_M_isTaken.2.2.1 15 = .ok (.iload 4, 2) := by decide +kernel
theorem d_M_isTaken_17 : decode zm_M_isTaken.2.2.1 17 = .ok (.ifCond .ne 36, 3) := by decide +kernel
theorem d_M_isTaken_20 : decode zm_M_isTaken.2.2.1 20 = .ok (.aload_n 0, 1) := by decide +kernel
theorem d_M_isTaken_21 : decode zm_M_isTaken.2.2.1 21 = .ok (.getfield 26, 3) := by decide +kernel
theorem d_M_isTaken_24 : decode zm_M_isTaken.2.2.1 24 = .ok (.iload 5, 2) := by decide +kernel
theorem d_M_isTaken_26 : decode zm_M_isTaken.2.2.1 26 = .ok (.iaload, 1) := by decide +kernel
theorem d_M_isTaken_27 : decode zm_M_isTaken.2.2.1 27 = .ok (.iload_n 2, 1) := by decide +kernel
theorem d_M_isTaken_28 : decode zm_M_isTaken.2.2.1 28 = .ok (.if_icmp .ne 29, 3) := by decide +kernel
theorem d_M_isTaken_31 : decode zm_M_isTaken.2.2.1 31 = .ok (.aload_n 0, 1) := by decide +kernel
theorem d_M_isTaken_32 : decode zm_M_isTaken.2.2.1 32 = .ok (.getfield 23, 3) := by decide +kernel
theorem d_M_isTaken_35 : decode zm_M_isTaken.2.2.1 35 = .ok (.iload 5, 2) := by decide +kernel
theorem d_M_isTaken_37 : decode zm_M_isTaken.2.2.1 37 = .ok (.iaload, 1) := by decide +kernel
theorem d_M_isTaken_38 : decode zm_M_isTaken.2.2.1 38 = .ok (.iload_n 1, 1) := by decide +kernel
theorem d_M_isTaken_39 : decode zm_M_isTaken.2.2.1 39 = .ok (.if_icmp .eq 14, 3) := by decide +kernel
theorem d_M_isTaken_42 : decode zm_M_isTaken.2.2.1 42 = .ok (.aload_n 0, 1) := by decide +kernel
theorem d_M_isTaken_43 : decode zm_M_isTaken.2.2.1 43 = .ok (.getfield 29, 3) := by decide +kernel
theorem d_M_isTaken_46 : decode zm_M_isTaken.2.2.1 46 = .ok (.iload 5, 2) := by decide +kernel
theorem d_M_isTaken_48 : decode zm_M_isTaken.2.2.1 48 = .ok (.iaload, 1) := by decide +kernel
theorem d_M_isTaken_49 : decode zm_M_isTaken.2.2.1 49 = .ok (.iload_n 3, 1) := by decide +kernel
theorem d_M_isTaken_50 : decode zm_M_isTaken.2.2.1 50 = .ok (.if_icmp .ne 7, 3) := by decide +kernel
theorem d_M_isTaken_53 : decode zm_M_isTaken.2.2.1 53 = .ok (.iconst 1, 1) := by decide +kernel
theorem d_M_isTaken_54 : decode zm_M_isTaken.2.2.1 54 = .ok (.goto 4, 3) := by decide +kernel
theorem d_M_isTaken_57 : decode zm_M_isTaken.2.2.1 57 = .ok (.iconst 0, 1) := by decide +kernel
theorem d_M_isTaken_58 : decode zm_M_isTaken.2.2.1 58 = .ok (.istore 4, 2) := by decide +kernel
theorem d_M_isTaken_60 : decode zm_M_isTaken.2.2.1 60 = .ok (.iinc 5 1, 3) := by decide +kernel
theorem d_M_isTaken_63 : decode zm_M_isTaken.2.2.1 63 = .ok (.goto (-57), 3) := by decide +kernel
theorem d_M_isTaken_66 : decode zm_M_isTaken.2.2.1 66 = .ok (.iload 4, 2) := by decide +kernel
theorem d_M_isTaken_68 : decode zm_M_isTaken.2.2.1 68 = .ok (.ireturn, 1) := by decide +kernel
theorem d_M_see_0 : decode zm_M_see.2.2.1 0 = .ok (.iload_n 1, 1) := by decide +kernel
theorem d_M_see_1 : decode zm_M_see.2.2.1 1 = .ok (.iconst 0, 1) := by decide +kernel
theorem d_M_see_2 : decode zm_M_see.2.2.1 2 = .ok (.iconst 5, 1) := by decide +kernel
theorem d_M_see_3 : decode zm_M_see.2.2.1 3 = .ok (.invokestatic 72, 3) := by decide +kernel
theorem d_M_see_6 : decode zm_M_see.2.2.1 6 = .ok (.ifCond .eq 33, 3) := by decide +kernel
theorem d_M_see_9 : decode zm_M_see.2.2.1 9 = .ok (.iload_n 2, 1) := by decide +kernel
theorem d_M_see_10 : decode zm_M_see.2.2.1 10 = .ok (.iconst 0, 1) := by decide +kernel
theorem d_M_see_11 : decode zm_M_see.2.2.1 11 = .ok (.iconst 5, 1) := by decide +kernel
theorem d_M_see_12 : decode zm_M_see.2.2.1 12 = .ok (.invokestatic 72, 3) := by decide +kernel
theorem d_M_see_15 : decode zm_M_see.2.2.1 15 = .ok (.ifCond .eq 24, 3) := by decide +kernel
theorem d_M_see_18 : decode zm_M_see.2.2.1 18 = .ok (.iload_n 3, 1) := by decide +kernel
theorem d_M_see_19 : decode zm_M_see.2.2.1 19 = .ok (.iconst 0, 1) := by decide +kernel
theorem d_M_see_20 : decode zm_M_see.2.2.1 20 = .ok (.bipush 9, 2) := by decide +kernel
theorem d_M_see_22 : decode zm_M_see.2.2.1 22 = .ok (.invokestatic 72, 3) := by decide +kernel
theorem d_M_see_25 : decode zm_M_see.2.2.1 25 = .ok (.ifCond .eq 14, 3) := by decide +kernel
theorem d_M_see_28 : decode zm_M_see.2.2.1 28 = .ok (.iload 4, 2) := by decide +kernel
theorem d_M_see_30 : decode zm_M_see.2.2.1 30 = .ok (.iconst 1, 1) := by decide +kernel
theorem d_M_see_31 : decode zm_M_see.2.2.1 31 = .ok (.bipush 9, 2) := by decide +kernel
theorem d_M_see_33 : decode zm_M_see.2.2.1 33 = .ok (.invokestatic 72, 3) := by decide +kernel
theorem d_M_see_36 : decode zm_M_see.2.2.1 36 = .ok (.ifCond .ne 6, 3) := by decide +kernel
theorem d_M_see_39 : decode zm_M_see.2.2.1 39 = .ok (.bipush (-102), 2) := by decide +kernel
theorem d_M_see_41 : decode zm_M_see.2.2.1 41 = .ok (.ireturn, 1) := by decide +kernel
theorem d_M_see_42 : decode zm_M_see.2.2.1 42 = .ok (.aload_n 0, 1) := by decide +kernel
theorem d_M_see_43 : decode zm_M_see.2.2.1 43 = .ok (.iload_n 1, 1) := by decide +kernel
theorem d_M_see_44 : decode zm_M_see.2.2.1 44 = .ok (.iload_n 2, 1) := by decide +kernel
theorem d_M_see_45 : decode zm_M_see.2.2.1 45 = .ok (.iload_n 3, 1) := by decide +kernel
theorem d_M_see_46 : decode zm_M_see.2.2.1 46 = .ok (.invokevirtual 218, 3) := by decide +kernel
theorem d_M_see_49 : decode zm_M_see.2.2.1 49 = .ok (.ifCond .eq 6, 3) := by decide +kernel
theorem d_M_see_52 : decode zm_M_see.2.2.1 52 = .ok (.bipush (-103), 2) := by decide +kernel
theorem d_M_see_54 : decode zm_M_see.2.2.1 54 = .ok (.ireturn, 1) := by decide +kernel
theorem d_M_see_55 : decode zm_M_see.2.2.1 55 = .ok (.aload_n 0, 1) := by decide +kernel
theorem d_M_see_56 : decode zm_M_see.2.2.1 56 = .ok (.getfield 215, 3) := by decide +kernel
theorem d_M_see_59 : decode zm_M_see.2.2.1 59 = .ok (.bipush 12, 2) := by decide +kernel
theorem d_M_see_61 : decode zm_M_see.2.2.1 61 = .ok (.if_icmp .ne 6, 3) := by decide +kernel
theorem d_M_see_64 : decode zm_M_see.2.2.1 64 = .ok (.bipush (-104), 2) := by decide +kernel
theorem d_M_see_66 : decode zm_M_see.2.2.1 66 = .ok (.ireturn, 1) := by decide +kernel
theorem d_M_see_67 : decode zm_M_see.2.2.1 67 = .ok (.aload_n 0, 1) := by decide +kernel
theorem d_M_see_68 : decode zm_M_see.2.2.1 68 = .ok (.getfield 23, 3) := by decide +kernel
theorem d_M_see_71 : decode zm_M_see.2.2.1 71 = .ok (.aload_n 0, 1) := by decide +kernel
theorem d_M_see_72 : decode zm_M_see.2.2.1 72 = .ok (.getfield 215, 3) := by decide +kernel
theorem d_M_see_75 : decode zm_M_see.2.2.1 75 = .ok (.iload_n 1, 1) := by decide +kernel
theorem d_M_see_76 : decode zm_M_see.2.2.1 76 = .ok (.iastore, 1) := by decide +kernel
theorem d_M_see_77 : decode zm_M_see.2.2.1 77 = .ok (.aload_n 0, 1) := by decide +kernel
theorem d_M_see_78 : decode zm_M_see.2.2.1 78 = .ok (.getfield 26, 3) := by decide +kernel
theorem d_M_see_81 : decode zm_M_see.2.2.1 81 = .ok (.aload_n 0, 1) := by decide +kernel
theorem d_M_see_82 : decode zm_M_see.2.2.1 82 = .ok (.getfield 215, 3) := by decide +kernel
theorem d_M_see_85 : decode zm_M_see.2.2.1 85 = .ok (.iload_n 2, 1) := by decide +kernel
theorem d_M_see_86 : decode zm_M_see.2.2.1 86 = .ok (.iastore, 1) := by decide +kernel
theorem d_M_see_87 : decode zm_M_see.2.2.1 87 = .ok (.aload_n 0, 1) := by decide +kernel
theorem d_M_see_88 : decode zm_M_see.2.2.1 88 = .ok (.getfield 29, 3) := by decide +kernel
theorem d_M_see_91 : decode zm_M_see.2.2.1 91 = .ok (.aload_n 0, 1) := by decide +kernel
theorem d_M_see_92 : decode zm_M_see.2.2.1 92 = .ok (.getfield 215, 3) := by decide +kernel
theorem d_M_see_95 : decode zm_M_see.2.2.1 95 = .ok (.iload_n 3, 1) := by decide +kernel
theorem d_M_see_96 : decode zm_M_see.2.2.1 96 = .ok (.iastore, 1) := by decide +kernel
theorem d_M_see_97 : decode zm_M_see.2.2.1 97 = .ok (.aload_n 0, 1) := by decide +kernel
theorem d_M_see_98 : decode zm_M_see.2.2.1 98 = .ok (.getfield 32, 3) := by decide +kernel
theorem d_M_see_101 : decode zm_M_see.2.2.1 101 = .ok (.aload_n 0, 1) := by decide +kernel
theorem d_M_see_102 : decode zm_M_see.2.2.1 102 = .ok (.getfield 215, 3) := by decide +kernel
theorem d_M_see_105 : decode zm_M_see.2.2.1 105 = .ok (.iload 4, 2) := by decide +kernel
theorem d_M_see_107 : decode zm_M_see.2.2.1 107 = .ok (.iastore, 1) := by decide +kernel
theorem d_M_see_108 : decode zm_M_see.2.2.1 108 = .ok (.aload_n 0, 1) := by decide +kernel
theorem d_M_see_109 : decode zm_M_see.2.2.1 109 = .ok (.dup, 1) := by decide +kernel
theorem d_M_see_110 : decode zm_M_see.2.2.1 110 = .ok (.getfield 215, 3) := by decide +kernel
theorem d_M_see_113 : decode zm_M_see.2.2.1 113 = .ok (.iconst 1, 1) := by decide +kernel
theorem d_M_see_114 : decode zm_M_see.2.2.1 114 = .ok (.iadd, 1) := by decide +kernel
theorem d_M_see_115 : decode zm_M_see.2.2.1 115 = .ok (.putfield 215, 3) := by decide +kernel
theorem d_M_see_118 : decode zm_M_see.2.2.1 118 = .ok (.aload_n 0, 1) := by decide +kernel
theorem d_M_see_119 : decode zm_M_see.2.2.1 119 = .ok (.getfield 215, 3) := by decide +kernel
theorem d_M_see_122 : decode zm_M_see.2.2.1 122 = .ok (.iconst 1, 1) := by decide +kernel
theorem d_M_see_123 : decode zm_M_see.2.2.1 123 = .ok (.isub, 1) := by decide +kernel
theorem d_M_see_124 : decode zm_M_see.2.2.1 124 = .ok (.ireturn, 1) := by decide +kernel
theorem d_M_isSighting_0 : decode zm_M_isSighting.2.2.1 0 = .ok (.iload_n 1, 1) := by decide +kernel
theorem d_M_isSighting_1 : decode zm_M_isSighting.2.2.1 1 = .ok (.iconst 0, 1) := by decide +kernel
theorem d_M_isSighting_2 : decode zm_M_isSighting.2.2.1 2 = .ok (.aload_n 0, 1) := by decide +kernel
theorem d_M_isSighting_3 : decode zm_M_isSighting.2.2.1 3 = .ok (.getfield 215, 3) := by decide +kernel
theorem d_M_isSighting_6 : decode zm_M_isSighting.2.2.1 6 = .ok (.iconst 1, 1) := by decide +kernel
theorem d_M_isSighting_7 : decode zm_M_isSighting.2.2.1 7 = .ok (.isub, 1) := by decide +kernel
theorem d_M_isSighting_8 : decode zm_M_isSighting.2.2.1 8 = .ok (.invokestatic 72, 3) := by decide +kernel
theorem d_M_isSighting_11 : decode zm_M_isSighting.2.2.1 11 = .ok (.ireturn, 1) := by decide +kernel
theorem d_M_unsee_0 : decode zm_M_unsee.2.2.1 0 = .ok (.aload_n 0, 1) := by decide +kernel
theorem d_M_unsee_1 : decode zm_M_unsee.2.2.1 1 = .ok (.iload_n 1, 1) := by decide +kernel
theorem d_M_unsee_2 : decode zm_M_unsee.2.2.1 2 = .ok (.invokevirtual 221, 3) := by decide +kernel
theorem d_M_unsee_5 : decode zm_M_unsee.2.2.1 5 = .ok (.ifCond .ne 6, 3) := by decide +kernel
theorem d_M_unsee_8 : decode zm_M_unsee.2.2.1 8 = .ok (.bipush (-101), 2) := by decide +kernel
theorem d_M_unsee_10 : decode zm_M_unsee.2.2.1 10 = .ok (.ireturn, 1) := by decide +kernel
theorem d_M_unsee_11 : decode zm_M_unsee.2.2.1 11 = .ok (.aload_n 0, 1) := by decide +kernel
theorem d_M_unsee_12 : decode zm_M_unsee.2.2.1 12 = .ok (.dup, 1) := by decide +kernel
theorem d_M_unsee_13 : decode zm_M_unsee.2.2.1 13 = .ok (.getfield 215, 3) := by decide +kernel
theorem d_M_unsee_16 : decode zm_M_unsee.2.2.1 16 = .ok (.iconst 1, 1) := by decide +kernel
theorem d_M_unsee_17 : decode zm_M_unsee.2.2.1 17 = .ok (.isub, 1) := by decide +kernel
theorem d_M_unsee_18 : decode zm_M_unsee.2.2.1 18 = .ok (.putfield 215, 3) := by decide +kernel
theorem d_M_unsee_21 : decode zm_M_unsee.2.2.1 21 = .ok (.aload_n 0, 1) := by decide +kernel
theorem d_M_unsee_22 : decode zm_M_unsee.2.2.1 22 = .ok (.dup, 1) := by decide +kernel
theorem d_M_unsee_23 : decode zm_M_unsee.2.2.1 23 = .ok (.getfield 224, 3) := by decide +kernel
theorem d_M_unsee_26 : decode zm_M_unsee.2.2.1 26 = .ok (.iconst 1, 1) := by decide +kernel
theorem d_M_unsee_27 : decode zm_M_unsee.2.2.1 27 = .ok (.iadd, 1) := by decide +kernel
theorem d_M_unsee_28 : decode zm_M_unsee.2.2.1 28 = .ok (.putfield 224, 3) := by decide +kernel
theorem d_M_unsee_31 : decode zm_M_unsee.2.2.1 31 = .ok (.iload_n 1, 1) := by decide +kernel
theorem d_M_unsee_32 : decode zm_M_unsee.2.2.1 32 = .ok (.istore_n 2, 1) := by decide +kernel
theorem d_M_unsee_33 : decode zm_M_unsee.2.2.1 33 = .ok (.iload_n 2, 1) := by decide +kernel
theorem d_M_unsee_34 : decode zm_M_unsee.2.2.1 34 = .ok (.aload_n 0, 1) := by decide +kernel
theorem d_M_unsee_35 : decode zm_M_unsee.2.2.1 35 = .ok (.getfield 215, 3) := by decide +kernel
theorem d_M_unsee_38 : decode zm_M_unsee.2.2.1 38 = .ok (.if_icmp .ge 65, 3) := by decide +kernel
theorem d_M_unsee_41 : decode zm_M_unsee.2.2.1 41 = .ok (.aload_n 0, 1) := by decide +kernel
theorem d_M_unsee_42 : decode zm_M_unsee.2.2.1 42 = .ok (.getfield 23, 3) := by decide +kernel
theorem d_M_unsee_45 : decode zm_M_unsee.2.2.1 45 = .ok (.iload_n 2, 1) := by decide +kernel
theorem d_M_unsee_46 : decode zm_M_unsee.2.2.1 46 = .ok (.aload_n 0, 1) := by decide +kernel
theorem d_M_unsee_47 : decode zm_M_unsee.2.2.1 47 = .ok (.getfield 23, 3) := by decide +kernel
theorem d_M_unsee_50 : decode zm_M_unsee.2.2.1 50 = .ok (.iload_n 2, 1) := by decide +kernel
theorem d_M_unsee_51 : decode zm_M_unsee.2.2.1 51 = .ok (.iconst 1, 1) := by decide +kernel
theorem d_M_unsee_52 : decode zm_M_unsee.2.2.1 52 = .ok (.iadd, 1) := by decide +kernel
theorem d_M_unsee_53 : decode zm_M_unsee.2.2.1 53 = .ok (.iaload, 1) := by decide +kernel
theorem d_M_unsee_54 : decode zm_M_unsee.2.2.1 54 = .ok (.iastore, 1) := by decide +kernel
theorem d_M_unsee_55 : decode zm_M_unsee.2.2.1 55 = .ok (.aload_n 0, 1) := by decide +kernel
theorem d_M_unsee_56 : decode zm_M_unsee.2.2.1 56 = .ok (.getfield 26, 3) := by decide +kernel
theorem d_M_unsee_59 : decode zm_M_unsee.2.2.1 59 = .ok (.iload_n 2, 1) := by decide +kernel
theorem d_M_unsee_60 : decode zm_M_unsee.2.2.1 60 = .ok (.aload_n 0, 1) := by decide +kernel
theorem d_M_unsee_61 : decode zm_M_unsee.2.2.1 61 = .ok (.getfield 26, 3) := by decide +kernel
theorem d_M_unsee_64 : decode zm_M_unsee.2.2.1 64 = .ok (.iload_n 2, 1) := by decide +kernel
theorem d_M_unsee_65 : decode zm_M_unsee.2.2.1 65 = .ok (.iconst 1, 1) := by decide +kernel
theorem d_M_unsee_66 : decode zm_M_unsee.2.2.1 66 = .ok (.iadd, 1) := by decide +kernel
theorem d_M_unsee_67 : decode zm_M_unsee.2.2.1 67 = .ok (.iaload, 1) := by decide +kernel
theorem d_M_unsee_68 : decode zm_M_unsee.2.2.1 68 = .ok (.iastore, 1) := by decide +kernel
theorem d_M_unsee_69 : decode zm_M_unsee.2.2.1 69 = .ok (.aload_n 0, 1) := by decide +kernel
theorem d_M_unsee_70 : decode zm_M_unsee.2.2.1 70 = .ok (.getfield 29, 3) := by decide +kernel
theorem d_M_unsee_73 : decode zm_M_unsee.2.2.1 73 = .ok (.iload_n 2, 1) := by decide +kernel
theorem d_M_unsee_74 : decode zm_M_unsee.2.2.1 74 = .ok (.aload_n 0, 1) := by decide +kernel
theorem d_M_unsee_75 : decode zm_M_unsee.2.2.1 75 = .ok (.getfield 29, 3) := by decide +kernel
theorem d_M_unsee_78 : decode zm_M_unsee.2.2.1 78 = .ok (.iload_n 2, 1) := by decide +kernel
theorem d_M_unsee_79 : decode zm_M_unsee.2.2.1 79 = .ok (.iconst 1, 1) := by decide +kernel
theorem d_M_unsee_80 : decode zm_M_unsee.2.2.1 80 = .ok (.iadd, 1) := by decide +kernel
theorem d_M_unsee_81 : decode zm_M_unsee.2.2.1 81 = .ok (.iaload, 1) := by decide +kernel
theorem d_M_unsee_82 : decode zm_M_unsee.2.2.1 82 = .ok (.iastore, 1) := by decide +kernel
theorem d_M_unsee_83 : decode zm_M_unsee.2.2.1 83 = .ok (.aload_n 0, 1) := by decide +kernel
theorem d_M_unsee_84 : decode zm_M_unsee.2.2.1 84 = .ok (.getfield 32, 3) := by decide +kernel
theorem d_M_unsee_87 : decode zm_M_unsee.2.2.1 87 = .ok (.iload_n 2, 1) := by decide +kernel
theorem d_M_unsee_88 : decode zm_M_unsee.2.2.1 88 = .ok (.aload_n 0, 1) := by decide +kernel
theorem d_M_unsee_89 : decode zm_M_unsee.2.2.1 89 = .ok (.getfield 32, 3) := by decide +kernel
theorem d_M_unsee_92 : decode zm_M_unsee.2.2.1 92 = .ok (.iload_n 2, 1) := by decide +kernel
theorem d_M_unsee_93 : decode zm_M_unsee.2.2.1 93 = .ok (.iconst 1, 1) := by decide +kernel
theorem d_M_unsee_94 : decode zm_M_unsee.2.2.1 94 = .ok (.iadd, 1) := by decide +kernel
theorem d_M_unsee_95 : decode zm_M_unsee.2.2.1 95 = .ok (.iaload, 1) := by decide +kernel
theorem d_M_unsee_96 : decode zm_M_unsee.2.2.1 96 = .ok (.iastore, 1) := by decide +kernel
theorem d_M_unsee_97 : decode zm_M_unsee.2.2.1 97 = .ok (.iinc 2 1, 3) := by decide +kernel
theorem d_M_unsee_100 : decode zm_M_unsee.2.2.1 100 = .ok (.goto (-67), 3) := by decide +kernel
theorem d_M_unsee_103 : decode zm_M_unsee.2.2.1 103 = .ok (.aload_n 0, 1) := by decide +kernel
theorem d_M_unsee_104 : decode zm_M_unsee.2.2.1 104 = .ok (.getfield 215, 3) := by decide +kernel
theorem d_M_unsee_107 : decode zm_M_unsee.2.2.1 107 = .ok (.ireturn, 1) := by decide +kernel
theorem d_M_sightingNow_0 : decode zm_M_sightingNow.2.2.1 0 = .ok (.iload_n 2, 1) := by decide +kernel
theorem d_M_sightingNow_1 : decode zm_M_sightingNow.2.2.1 1 = .ok (.ifCond .ne 12, 3) := by decide +kernel
theorem d_M_sightingNow_4 : decode zm_M_sightingNow.2.2.1 4 = .ok (.aload_n 0, 1) := by decide +kernel
theorem d_M_sightingNow_5 : decode zm_M_sightingNow.2.2.1 5 = .ok (.getfield 23, 3) := by decide +kernel
theorem d_M_sightingNow_8 : decode zm_M_sightingNow.2.2.1 8 = .ok (.iload_n 1, 1) := by decide +kernel
theorem d_M_sightingNow_9 : decode zm_M_sightingNow.2.2.1 9 = .ok (.iaload, 1) := by decide +kernel
theorem d_M_sightingNow_10 : decode zm_M_sightingNow.2.2.1 10 = .ok (.goto 37, 3) := by decide +kernel
theorem d_M_sightingNow_13 : decode zm_M_sightingNow.2.2.1 13 = .ok (.iload_n 2, 1) := by decide +kernel
theorem d_M_sightingNow_14 : decode zm_M_sightingNow.2.2.1 14 = .ok (.iconst 1, 1) := by decide +kernel
theorem d_M_sightingNow_15 : decode zm_M_sightingNow.2.2.1 15 = .ok (.if_icmp .ne 12, 3) := by decide +kernel
theorem d_M_sightingNow_18 : decode zm_M_sightingNow.2.2.1 18 = .ok (.aload_n 0, 1) := by decide +kernel
theorem d_M_sightingNow_19 : decode zm_M_sightingNow.2.2.1 19 = .ok (.getfield 26, 3) := by decide +kernel
theorem d_M_sightingNow_22 : decode zm_M_sightingNow.2.2.1 22 = .ok (.iload_n 1, 1) := by decide +kernel
theorem d_M_sightingNow_23 : decode zm_M_sightingNow.2.2.1 23 = .ok (.iaload, 1) := by decide +kernel
theorem d_M_sightingNow_24 : decode zm_M_sightingNow.2.2.1 24 = .ok (.goto 23, 3) := by decide +kernel
theorem d_M_sightingNow_27 : decode zm_M_sightingNow.2.2.1 27 = .ok (.iload_n 2, 1) := by decide +kernel
theorem d_M_sightingNow_28 : decode zm_M_sightingNow.2.2.1 28 = .ok (.iconst 2, 1) := by decide +kernel
theorem d_M_sightingNow_29 : decode zm_M_sightingNow.2.2.1 29 = .ok (.if_icmp .ne 12, 3) := by decide +kernel
theorem d_M_sightingNow_32 : decode zm_M_sightingNow.2.2.1 32 = .ok (.aload_n 0, 1) := by decide +kernel
theorem d_M_sightingNow_33 : decode zm_M_sightingNow.2.2.1 33 = .ok (.getfield 29, 3) := by decide +kernel
theorem d_M_sightingNow_36 : decode zm_M_sightingNow.2.2.1 36 = .ok (.iload_n 1, 1) := by decide +kernel
theorem d_M_sightingNow_37 : decode zm_M_sightingNow.2.2.1 37 = .ok (.iaload, 1) := by decide +kernel
theorem d_M_sightingNow_38 : decode zm_M_sightingNow.2.2.1 38 = .ok (.goto 9, 3) := by decide +kernel
theorem d_M_sightingNow_41 : decode zm_M_sightingNow.2.2.1 41 = .ok (.aload_n 0, 1) := by decide +kernel
theorem d_M_sightingNow_42 : decode zm_M_sightingNow.2.2.1 42 = .ok (.getfield 32, 3) := by decide +kernel
theorem d_M_sightingNow_45 : decode zm_M_sightingNow.2.2.1 45 = .ok (.iload_n 1, 1) := by decide +kernel
theorem d_M_sightingNow_46 : decode zm_M_sightingNow.2.2.1 46 = .ok (.iaload, 1) := by decide +kernel
theorem d_M_sightingNow_47 : decode zm_M_sightingNow.2.2.1 47 = .ok (.ireturn, 1) := by decide +kernel
