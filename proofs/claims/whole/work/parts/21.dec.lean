theorem d_Stemma_joinNearest_0 : decode zm_Stemma_joinNearest.2.2.1 0 = .ok (.bipush 25, 2) := by decide +kernel
theorem d_Stemma_joinNearest_2 : decode zm_Stemma_joinNearest.2.2.1 2 = .ok (.istore_n 2, 1) := by decide +kernel
theorem d_Stemma_joinNearest_3 : decode zm_Stemma_joinNearest.2.2.1 3 = .ok (.iconst (-1), 1) := by decide +kernel
theorem d_Stemma_joinNearest_4 : decode zm_Stemma_joinNearest.2.2.1 4 = .ok (.istore_n 3, 1) := by decide +kernel
theorem d_Stemma_joinNearest_5 : decode zm_Stemma_joinNearest.2.2.1 5 = .ok (.iconst (-1), 1) := by decide +kernel
theorem d_Stemma_joinNearest_6 : decode zm_Stemma_joinNearest.2.2.1 6 = .ok (.istore 4, 2) := by decide +kernel
theorem d_Stemma_joinNearest_8 : decode zm_Stemma_joinNearest.2.2.1 8 = .ok (.iconst 0, 1) := by decide +kernel
theorem d_Stemma_joinNearest_9 : decode zm_Stemma_joinNearest.2.2.1 9 = .ok (.istore 5, 2) := by decide +kernel
theorem d_Stemma_joinNearest_11 : decode zm_Stemma_joinNearest.2.2.1 11 = .ok (.iload 5, 2) := by decide +kernel
theorem d_Stemma_joinNearest_13 : decode zm_Stemma_joinNearest.2.2.1 13 = .ok (.aload_n 0, 1) := by decide +kernel
theorem d_Stemma_joinNearest_14 : decode zm_Stemma_joinNearest.2.2.1 14 = .ok (.getfield 38, 3) := by decide +kernel
theorem d_Stemma_joinNearest_17 : decode zm_Stemma_joinNearest.2.2.1 17 = .ok (.if_icmp .ge 77, 3) := by decide +kernel
theorem d_Stemma_joinNearest_20 : decode zm_Stemma_joinNearest.2.2.1 20 = .ok (.iconst 0, 1) := by decide +kernel
theorem d_Stemma_joinNearest_21 : decode zm_Stemma_joinNearest.2.2.1 21 = .ok (.istore 6, 2) := by decide +kernel
theorem d_Stemma_joinNearest_23 : decode zm_Stemma_joinNearest.2.2.1 23 = .ok (.iload 6, 2) := by decide +kernel
theorem d_Stemma_joinNearest_25 : decode zm_Stemma_joinNearest.2.2.1 25 = .ok (.aload_n 0, 1) := by decide +kernel
theorem d_Stemma_joinNearest_26 : decode zm_Stemma_joinNearest.2.2.1 26 = .ok (.getfield 38, 3) := by decide +kernel
theorem d_Stemma_joinNearest_29 : decode zm_Stemma_joinNearest.2.2.1 29 = .ok (.if_icmp .ge 59, 3) := by decide +kernel
theorem d_Stemma_joinNearest_32 : decode zm_Stemma_joinNearest.2.2.1 32 = .ok (.aload_n 0, 1) := by decide +kernel
theorem d_Stemma_joinNearest_33 : decode zm_Stemma_joinNearest.2.2.1 33 = .ok (.getfield 32, 3) := by decide +kernel
theorem d_Stemma_joinNearest_36 : decode zm_Stemma_joinNearest.2.2.1 36 = .ok (.iload 5, 2) := by decide +kernel
theorem d_Stemma_joinNearest_38 : decode zm_Stemma_joinNearest.2.2.1 38 = .ok (.iaload, 1) := by decide +kernel
theorem d_Stemma_joinNearest_39 : decode zm_Stemma_joinNearest.2.2.1 39 = .ok (.iconst (-1), 1) := by decide +kernel
theorem d_Stemma_joinNearest_40 : decode zm_Stemma_joinNearest.2.2.1 40 = .ok (.if_icmp .eq 42, 3) := by decide +kernel
theorem d_Stemma_joinNearest_43 : decode zm_Stemma_joinNearest.2.2.1 43 = .ok (.aload_n 0, 1) := by decide +kernel
theorem d_Stemma_joinNearest_44 : decode zm_Stemma_joinNearest.2.2.1 44 = .ok (.getfield 32, 3) := by decide +kernel
theorem d_Stemma_joinNearest_47 : decode zm_Stemma_joinNearest.2.2.1 47 = .ok (.iload 6, 2) := by decide +kernel
theorem d_Stemma_joinNearest_49 : decode zm_Stemma_joinNearest.2.2.1 49 = .ok (.iaload, 1) := by decide +kernel
theorem d_Stemma_joinNearest_50 : decode zm_Stemma_joinNearest.2.2.1 50 = .ok (.iconst (-1), 1) := by decide +kernel
theorem d_Stemma_joinNearest_51 : decode zm_Stemma_joinNearest.2.2.1 51 = .ok (.if_icmp .ne 31, 3) := by decide +kernel
theorem d_Stemma_joinNearest_54 : decode zm_Stemma_joinNearest.2.2.1 54 = .ok (.aload_n 0, 1) := by decide +kernel
theorem d_Stemma_joinNearest_55 : decode zm_Stemma_joinNearest.2.2.1 55 = .ok (.iload 5, 2) := by decide +kernel
theorem d_Stemma_joinNearest_57 : decode zm_Stemma_joinNearest.2.2.1 57 = .ok (.iload 6, 2) := by decide +kernel
theorem d_Stemma_joinNearest_59 : decode zm_Stemma_joinNearest.2.2.1 59 = .ok (.invokevirtual 107, 3) := by decide +kernel
theorem d_Stemma_joinNearest_62 : decode zm_Stemma_joinNearest.2.2.1 62 = .ok (.iload_n 2, 1) := by decide +kernel
theorem d_Stemma_joinNearest_63 : decode zm_Stemma_joinNearest.2.2.1 63 = .ok (.if_icmp .ge 19, 3) := by decide +kernel
theorem d_Stemma_joinNearest_66 : decode zm_Stemma_joinNearest.2.2.1 66 = .ok (.aload_n 0, 1) := by decide +kernel
theorem d_Stemma_joinNearest_67 : decode zm_Stemma_joinNearest.2.2.1 67 = .ok (.iload 5, 2) := by decide +kernel
theorem d_Stemma_joinNearest_69 : decode zm_Stemma_joinNearest.2.2.1 69 = .ok (.iload 6, 2) := by decide +kernel
theorem d_Stemma_joinNearest_71 : decode zm_Stemma_joinNearest.2.2.1 71 = .ok (.invokevirtual 107, 3) := by decide +kernel
theorem d_Stemma_joinNearest_74 : decode zm_Stemma_joinNearest.2.2.1 74 = .ok (.istore_n 2, 1) := by decide +kernel
theorem d_Stemma_joinNearest_75 : decode zm_Stemma_joinNearest.2.2.1 75 = .ok (.iload 5, 2) := by decide +kernel
theorem d_Stemma_joinNearest_77 : decode zm_Stemma_joinNearest.2.2.1 77 = .ok (.istore_n 3, 1) := by decide +kernel
theorem d_Stemma_joinNearest_78 : decode zm_Stemma_joinNearest.2.2.1 78 = .ok (.iload 6, 2) := by decide +kernel
theorem d_Stemma_joinNearest_80 : decode zm_Stemma_joinNearest.2.2.1 80 = .ok (.istore 4, 2) := by decide +kernel
theorem d_Stemma_joinNearest_82 : decode zm_Stemma_joinNearest.2.2.1 82 = .ok (.iinc 6 1, 3) := by decide +kernel
theorem d_Stemma_joinNearest_85 : decode zm_Stemma_joinNearest.2.2.1 85 = .ok (.goto (-62), 3) := by decide +kernel
theorem d_Stemma_joinNearest_88 : decode zm_Stemma_joinNearest.2.2.1 88 = .ok (.iinc 5 1, 3) := by decide +kernel
theorem d_Stemma_joinNearest_91 : decode zm_Stemma_joinNearest.2.2.1 91 = .ok (.goto (-80), 3) := by decide +kernel
theorem d_Stemma_joinNearest_94 : decode zm_Stemma_joinNearest.2.2.1 94 = .ok (.iload 4, 2) := by decide +kernel
theorem d_Stemma_joinNearest_96 : decode zm_Stemma_joinNearest.2.2.1 96 = .ok (.ifCond .lt 27, 3) := by decide +kernel
theorem d_Stemma_joinNearest_99 : decode zm_Stemma_joinNearest.2.2.1 99 = .ok (.aload_n 0, 1) := by decide +kernel
theorem d_Stemma_joinNearest_100 : decode zm_Stemma_joinNearest.2.2.1 100 = .ok (.getfield 26, 3) := by decide +kernel
theorem d_Stemma_joinNearest_103 : decode zm_Stemma_joinNearest.2.2.1 103 = .ok (.iload 4, 2) := by decide +kernel
theorem d_Stemma_joinNearest_105 : decode zm_Stemma_joinNearest.2.2.1 105 = .ok (.iload_n 3, 1) := by decide +kernel
theorem d_Stemma_joinNearest_106 : decode zm_Stemma_joinNearest.2.2.1 106 = .ok (.iastore, 1) := by decide +kernel
theorem d_Stemma_joinNearest_107 : decode zm_Stemma_joinNearest.2.2.1 107 = .ok (.aload_n 0, 1) := by decide +kernel
theorem d_Stemma_joinNearest_108 : decode zm_Stemma_joinNearest.2.2.1 108 = .ok (.getfield 29, 3) := by decide +kernel
theorem d_Stemma_joinNearest_111 : decode zm_Stemma_joinNearest.2.2.1 111 = .ok (.iload 4, 2) := by decide +kernel
theorem d_Stemma_joinNearest_113 : decode zm_Stemma_joinNearest.2.2.1 113 = .ok (.iload_n 2, 1) := by decide +kernel
theorem d_Stemma_joinNearest_114 : decode zm_Stemma_joinNearest.2.2.1 114 = .ok (.iastore, 1) := by decide +kernel
theorem d_Stemma_joinNearest_115 : decode zm_Stemma_joinNearest.2.2.1 115 = .ok (.aload_n 0, 1) := by decide +kernel
theorem d_Stemma_joinNearest_116 : decode zm_Stemma_joinNearest.2.2.1 116 = .ok (.getfield 32, 3) := by decide +kernel
theorem d_Stemma_joinNearest_119 : decode zm_Stemma_joinNearest.2.2.1 119 = .ok (.iload 4, 2) := by decide +kernel
theorem d_Stemma_joinNearest_121 : decode zm_Stemma_joinNearest.2.2.1 121 = .ok (.iload_n 1, 1) := by decide +kernel
theorem d_Stemma_joinNearest_122 : decode zm_Stemma_joinNearest.2.2.1 122 = .ok (.iastore, 1) := by decide +kernel
theorem d_Stemma_joinNearest_123 : decode zm_Stemma_joinNearest.2.2.1 123 = .ok (.return_, 1) := by decide +kernel
theorem d_Stemma_findReverted_0 : decode zm_Stemma_findReverted.2.2.1 0 = .ok (.iconst 0, 1) := by decide +kernel
theorem d_Stemma_findReverted_1 : decode zm_Stemma_findReverted.2.2.1 1 = .ok (.istore_n 1, 1) := by decide +kernel
theorem d_Stemma_findReverted_2 : decode zm_Stemma_findReverted.2.2.1 2 = .ok (.iload_n 1, 1) := by decide +kernel
theorem d_Stemma_findReverted_3 : decode zm_Stemma_findReverted.2.2.1 3 = .ok (.aload_n 0, 1) := by decide +kernel
theorem d_Stemma_findReverted_4 : decode zm_Stemma_findReverted.2.2.1 4 = .ok (.getfield 38, 3) := by decide +kernel
theorem d_Stemma_findReverted_7 : decode zm_Stemma_findReverted.2.2.1 7 = .ok (.if_icmp .ge 53, 3) := by decide +kernel
theorem d_Stemma_findReverted_10 : decode zm_Stemma_findReverted.2.2.1 10 = .ok (.aload_n 0, 1) := by decide +kernel
theorem d_Stemma_findReverted_11 : decode zm_Stemma_findReverted.2.2.1 11 = .ok (.getfield 35, 3) := by decide +kernel
theorem d_Stemma_findReverted_14 : decode zm_Stemma_findReverted.2.2.1 14 = .ok (.iload_n 1, 1) := by decide +kernel
theorem d_Stemma_findReverted_15 : decode zm_Stemma_findReverted.2.2.1 15 = .ok (.iconst 0, 1) := by decide +kernel
theorem d_Stemma_findReverted_16 : decode zm_Stemma_findReverted.2.2.1 16 = .ok (.iastore, 1) := by decide +kernel
theorem d_Stemma_findReverted_17 : decode zm_Stemma_findReverted.2.2.1 17 = .ok (.iconst 0, 1) := by decide +kernel
theorem d_Stemma_findReverted_18 : decode zm_Stemma_findReverted.2.2.1 18 = .ok (.istore_n 2, 1) := by decide +kernel
theorem d_Stemma_findReverted_19 : decode zm_Stemma_findReverted.2.2.1 19 = .ok (.iload_n 2, 1) := by decide +kernel
theorem d_Stemma_findReverted_20 : decode zm_Stemma_findReverted.2.2.1 20 = .ok (.aload_n 0, 1) := by decide +kernel
theorem d_Stemma_findReverted_21 : decode zm_Stemma_findReverted.2.2.1 21 = .ok (.getfield 42, 3) := by decide +kernel
theorem d_Stemma_findReverted_24 : decode zm_Stemma_findReverted.2.2.1 24 = .ok (.if_icmp .ge 30, 3) := by decide +kernel
theorem d_Stemma_findReverted_27 : decode zm_Stemma_findReverted.2.2.1 27 = .ok (.aload_n 0, 1) := by decide +kernel
theorem d_Stemma_findReverted_28 : decode zm_Stemma_findReverted.2.2.1 28 = .ok (.iload_n 1, 1) := by decide +kernel
theorem d_Stemma_findReverted_29 : decode zm_Stemma_findReverted.2.2.1 29 = .ok (.iload_n 2, 1) := by decide +kernel
theorem d_Stemma_findReverted_30 : decode zm_Stemma_findReverted.2.2.1 30 = .ok (.invokevirtual 110, 3) := by decide +kernel
theorem d_Stemma_findReverted_33 : decode zm_Stemma_findReverted.2.2.1 33 = .ok (.ifCond .eq 15, 3) := by decide +kernel
theorem d_Stemma_findReverted_36 : decode zm_Stemma_findReverted.2.2.1 36 = .ok (.aload_n 0, 1) := by decide +kernel
theorem d_Stemma_findReverted_37 : decode zm_Stemma_findReverted.2.2.1 37 = .ok (.getfield 35, 3) := by decide +kernel
theorem d_Stemma_findReverted_40 : decode zm_Stemma_findReverted.2.2.1 40 = .ok (.iload_n 1, 1) := by decide +kernel
theorem d_Stemma_findReverted_41 : decode zm_Stemma_findReverted.2.2.1 41 = .ok (.dup2, 1) := by decide +kernel
theorem d_Stemma_findReverted_42 : decode zm_Stemma_findReverted.2.2.1 42 = .ok (.iaload, 1) := by decide +kernel
theorem d_Stemma_findReverted_43 : decode zm_Stemma_findReverted.2.2.1 43 = .ok (.iconst 1, 1) := by decide +kernel
theorem d_Stemma_findReverted_44 : decode zm_Stemma_findReverted.2.2.1 44 = .ok (.iload_n 2, 1) := by decide +kernel
theorem d_Stemma_findReverted_45 : decode zm_Stemma_findReverted.2.2.1 45 = .ok (.ishl, 1) := by decide +kernel
theorem d_Stemma_findReverted_46 : decode zm_Stemma_findReverted.2.2.1 46 = .ok (.ior, 1) := by decide +kernel
theorem d_Stemma_findReverted_47 : decode zm_Stemma_findReverted.2.2.1 47 = .ok (.iastore, 1) := by decide +kernel
theorem d_Stemma_findReverted_48 : decode zm_Stemma_findReverted.2.2.1 48 = .ok (.iinc 2 1, 3) := by decide +kernel
theorem d_Stemma_findReverted_51 : decode zm_Stemma_findReverted.2.2.1 51 = .ok (.goto (-32), 3) := by decide +kernel
theorem d_Stemma_findReverted_54 : decode zm_Stemma_findReverted.2.2.1 54 = .ok (.iinc 1 1, 3) := by decide +kernel
theorem d_Stemma_findReverted_57 : decode zm_Stemma_findReverted.2.2.1 57 = .ok (.goto (-55), 3) := by decide +kernel
theorem d_Stemma_findReverted_60 : decode zm_Stemma_findReverted.2.2.1 60 = .ok (.return_, 1) := by decide +kernel
theorem d_Stemma_goesBack_0 : decode zm_Stemma_goesBack.2.2.1 0 = .ok (.aload_n 0, 1) := by decide +kernel
theorem d_Stemma_goesBack_1 : decode zm_Stemma_goesBack.2.2.1 1 = .ok (.iload_n 1, 1) := by decide +kernel
theorem d_Stemma_goesBack_2 : decode zm_Stemma_goesBack.2.2.1 2 = .ok (.iload_n 2, 1) := by decide +kernel
theorem d_Stemma_goesBack_3 : decode zm_Stemma_goesBack.2.2.1 3 = .ok (.invokevirtual 114, 3) := by decide +kernel
theorem d_Stemma_goesBack_6 : decode zm_Stemma_goesBack.2.2.1 6 = .ok (.istore_n 3, 1) := by decide +kernel
theorem d_Stemma_goesBack_7 : decode zm_Stemma_goesBack.2.2.1 7 = .ok (.aload_n 0, 1) := by decide +kernel
theorem d_Stemma_goesBack_8 : decode zm_Stemma_goesBack.2.2.1 8 = .ok (.iload_n 1, 1) := by decide +kernel
theorem d_Stemma_goesBack_9 : decode zm_Stemma_goesBack.2.2.1 9 = .ok (.invokevirtual 117, 3) := by decide +kernel
theorem d_Stemma_goesBack_12 : decode zm_Stemma_goesBack.2.2.1 12 = .ok (.istore 4, 2) := by decide +kernel
theorem d_Stemma_goesBack_14 : decode zm_Stemma_goesBack.2.2.1 14 = .ok (.iload 4, 2) := by decide +kernel
theorem d_Stemma_goesBack_16 : decode zm_Stemma_goesBack.2.2.1 16 = .ok (.iconst (-1), 1) := by decide +kernel
theorem d_Stemma_goesBack_17 : decode zm_Stemma_goesBack.2.2.1 17 = .ok (.if_icmp .eq 14, 3) := by decide +kernel
theorem d_Stemma_goesBack_20 : decode zm_Stemma_goesBack.2.2.1 20 = .ok (.aload_n 0, 1) := by decide +kernel
theorem d_Stemma_goesBack_21 : decode zm_Stemma_goesBack.2.2.1 21 = .ok (.iload 4, 2) := by decide +kernel
theorem d_Stemma_goesBack_23 : decode zm_Stemma_goesBack.2.2.1 23 = .ok (.iload_n 2, 1) := by decide +kernel
theorem d_Stemma_goesBack_24 : decode zm_Stemma_goesBack.2.2.1 24 = .ok (.invokevirtual 114, 3) := by decide +kernel
theorem d_Stemma_goesBack_27 : decode zm_Stemma_goesBack.2.2.1 27 = .ok (.iload_n 3, 1) := by decide +kernel
theorem d_Stemma_goesBack_28 : decode zm_Stemma_goesBack.2.2.1 28 = .ok (.if_icmp .ne 5, 3) := by decide +kernel
theorem d_Stemma_goesBack_31 : decode zm_Stemma_goesBack.2.2.1 31 = .ok (.iconst 0, 1) := by decide +kernel
theorem d_Stemma_goesBack_32 : decode zm_Stemma_goesBack.2.2.1 32 = .ok (.ireturn, 1) := by decide +kernel
theorem d_Stemma_goesBack_33 : decode zm_Stemma_goesBack.2.2.1 33 = .ok (.aload_n 0, 1) := by decide +kernel
theorem d_Stemma_goesBack_34 : decode zm_Stemma_goesBack.2.2.1 34 = .ok (.iload 4, 2) := by decide +kernel
theorem d_Stemma_goesBack_36 : decode zm_Stemma_goesBack.2.2.1 36 = .ok (.invokevirtual 117, 3) := by decide +kernel
theorem d_Stemma_goesBack_39 : decode zm_Stemma_goesBack.2.2.1 39 = .ok (.istore 5, 2) := by decide +kernel
theorem d_Stemma_goesBack_41 : decode zm_Stemma_goesBack.2.2.1 41 = .ok (.iconst 0, 1) := by decide +kernel
theorem d_Stemma_goesBack_42 : decode zm_Stemma_goesBack.2.2.1 42 = .ok (.istore 6, 2) := by decide +kernel
theorem d_Stemma_goesBack_44 : decode zm_Stemma_goesBack.2.2.1 44 = .ok (.iload 6, 2) := by decide +kernel
theorem d_Stemma_goesBack_46 : decode zm_Stemma_goesBack.2.2.1 46 = .ok (.aload_n 0, 1) := by decide +kernel
theorem d_Stemma_goesBack_47 : decode zm_Stemma_goesBack.2.2.1 47 = .ok (.getfield 38, 3) := by decide +kernel
theorem d_Stemma_goesBack_50 : decode zm_Stemma_goesBack.2.2.1 50 = .ok (.if_icmp .ge 36, 3) := by decide +kernel
theorem d_Stemma_goesBack_53 : decode zm_Stemma_goesBack.2.2.1 53 = .ok (.iload 5, 2) := by decide +kernel
theorem d_Stemma_goesBack_55 : decode zm_Stemma_goesBack.2.2.1 55 = .ok (.iconst (-1), 1) := by decide +kernel
theorem d_Stemma_goesBack_56 : decode zm_Stemma_goesBack.2.2.1 56 = .ok (.if_icmp .eq 30, 3) := by decide +kernel
theorem d_Stemma_goesBack_59 : decode zm_Stemma_goesBack.2.2.1 59 = .ok (.aload_n 0, 1) := by decide +kernel
theorem d_Stemma_goesBack_60 : decode zm_Stemma_goesBack.2.2.1 60 = .ok (.iload 5, 2) := by decide +kernel
theorem d_Stemma_goesBack_62 : decode zm_Stemma_goesBack.2.2.1 62 = .ok (.iload_n 2, 1) := by decide +kernel
theorem d_Stemma_goesBack_63 : decode zm_Stemma_goesBack.2.2.1 63 = .ok (.invokevirtual 114, 3) := by decide +kernel
theorem d_Stemma_goesBack_66 : decode zm_Stemma_goesBack.2.2.1 66 = .ok (.iload_n 3, 1) := by decide +kernel
theorem d_Stemma_goesBack_67 : decode zm_Stemma_goesBack.2.2.1 67 = .ok (.if_icmp .ne 5, 3) := by decide +kernel
theorem d_Stemma_goesBack_70 : decode zm_Stemma_goesBack.2.2.1 70 = .ok (.iconst 1, 1) := by decide +kernel
theorem d_Stemma_goesBack_71 : decode zm_Stemma_goesBack.2.2.1 71 = .ok (.ireturn, 1) := by decide +kernel
theorem d_Stemma_goesBack_72 : decode zm_Stemma_goesBack.2.2.1 72 = .ok (.aload_n 0, 1) := by decide +kernel
theorem d_Stemma_goesBack_73 : decode zm_Stemma_goesBack.2.2.1 73 = .ok (.iload 5, 2) := by decide +kernel
theorem d_Stemma_goesBack_75 : decode zm_Stemma_goesBack.2.2.1 75 = .ok (.invokevirtual 117, 3) := by decide +kernel
theorem d_Stemma_goesBack_78 : decode zm_Stemma_goesBack.2.2.1 78 = .ok (.istore 5, 2) := by decide +kernel
theorem d_Stemma_goesBack_80 : decode zm_Stemma_goesBack.2.2.1 80 = .ok (.iinc 6 1, 3) := by decide +kernel
theorem d_Stemma_goesBack_83 : decode zm_Stemma_goesBack.2.2.1 83 = .ok (.goto (-39), 3) := by decide +kernel
theorem d_Stemma_goesBack_86 : decode zm_Stemma_goesBack.2.2.1 86 = .ok (.iconst 0, 1) := by decide +kernel
theorem d_Stemma_goesBack_87 : decode zm_Stemma_goesBack.2.2.1 87 = .ok (.ireturn, 1) := by decide +kernel
theorem d_Stemma_size_0 : decode zm_Stemma_size.2.2.1 0 = .ok (.aload_n 0, 1) := by decide +kernel
theorem d_Stemma_size_1 : decode zm_Stemma_size.2.2.1 1 = .ok (.getfield 38, 3) := by decide +kernel
theorem d_Stemma_size_4 : decode zm_Stemma_size.2.2.1 4 = .ok (.ireturn, 1) := by decide +kernel
theorem d_Stemma_has_0 : decode zm_Stemma_has.2.2.1 0 = .ok (.iload_n 1, 1) := by decide +kernel
theorem d_Stemma_has_1 : decode zm_Stemma_has.2.2.1 1 = .ok (.ifCond .lt 15, 3) := by decide +kernel
theorem d_Stemma_has_4 : decode zm_Stemma_has.2.2.1 4 = .ok (.iload_n 1, 1) := by decide +kernel
theorem d_Stemma_has_5 : decode zm_Stemma_has.2.2.1 5 = .ok (.aload_n 0, 1) := by decide +kernel
theorem d_Stemma_has_6 : decode zm_Stemma_has.2.2.1 6 = .ok (.getfield 38, 3) := by decide +kernel
theorem d_Stemma_has_9 : decode zm_Stemma_has.2.2.1 9 = .ok (.if_icmp .ge 7, 3) := by decide +kernel
theorem d_Stemma_has_12 : decode zm_Stemma_has.2.2.1 12 = .ok (.iconst 1, 1) := by decide +kernel
theorem d_Stemma_has_13 : decode zm_Stemma_has.2.2.1 13 = .ok (.goto 4, 3) := by decide +kernel
theorem d_Stemma_has_16 : decode zm_Stemma_has.2.2.1 16 = .ok (.iconst 0, 1) := by decide +kernel
theorem d_Stemma_has_17 : decode zm_Stemma_has.2.2.1 17 = .ok (.ireturn, 1) := by decide +kernel
theorem d_Stemma_isExcluded_0 : decode zm_Stemma_isExcluded.2.2.1 0 = .ok (.aload_n 0, 1) := by decide +kernel
theorem d_Stemma_isExcluded_1 : decode zm_Stemma_isExcluded.2.2.1 1 = .ok (.iload_n 1, 1) := by decide +kernel
theorem d_Stemma_isExcluded_2 : decode zm_Stemma_isExcluded.2.2.1 2 = .ok (.invokevirtual 120, 3) := by decide +kernel
theorem d_Stemma_isExcluded_5 : decode zm_Stemma_isExcluded.2.2.1 5 = .ok (.iconst (-1), 1) := by decide +kernel
theorem d_Stemma_isExcluded_6 : decode zm_Stemma_isExcluded.2.2.1 6 = .ok (.if_icmp .ne 7, 3) := by decide +kernel
theorem d_Stemma_isExcluded_9 : decode zm_Stemma_isExcluded.2.2.1 9 = .ok (.iconst 1, 1) := by decide +kernel
theorem d_Stemma_isExcluded_10 : decode zm_Stemma_isExcluded.2.2.1 10 = .ok (.goto 4, 3) := by decide +kernel
theorem d_Stemma_isExcluded_13 : decode zm_Stemma_isExcluded.2.2.1 13 = .ok (.iconst 0, 1) := by decide +kernel
theorem d_Stemma_isExcluded_14 : decode zm_Stemma_isExcluded.2.2.1 14 = .ok (.ireturn, 1) := by decide +kernel
theorem d_Stemma_stateOfCopy_0 : decode zm_Stemma_stateOfCopy.2.2.1 0 = .ok (.iload_n 1, 1) := by decide +kernel
theorem d_Stemma_stateOfCopy_1 : decode zm_Stemma_stateOfCopy.2.2.1 1 = .ok (.ifCond .lt 18, 3) := by decide +kernel
theorem d_Stemma_stateOfCopy_4 : decode zm_Stemma_stateOfCopy.2.2.1 4 = .ok (.iload_n 1, 1) := by decide +kernel
theorem d_Stemma_stateOfCopy_5 : decode zm_Stemma_stateOfCopy.2.2.1 5 = .ok (.bipush 6, 2) := by decide +kernel
theorem d_Stemma_stateOfCopy_7 : decode zm_Stemma_stateOfCopy.2.2.1 7 = .ok (.if_icmp .ge 12, 3) := by decide +kernel
theorem d_Stemma_stateOfCopy_10 : decode zm_Stemma_stateOfCopy.2.2.1 10 = .ok (.aload_n 0, 1) := by decide +kernel
theorem d_Stemma_stateOfCopy_11 : decode zm_Stemma_stateOfCopy.2.2.1 11 = .ok (.getfield 16, 3) := by decide +kernel
theorem d_Stemma_stateOfCopy_14 : decode zm_Stemma_stateOfCopy.2.2.1 14 = .ok (.iload_n 1, 1) := by decide +kernel
theorem d_Stemma_stateOfCopy_15 : decode zm_Stemma_stateOfCopy.2.2.1 15 = .ok (.iaload, 1) := by decide +kernel
theorem d_Stemma_stateOfCopy_16 : decode zm_Stemma_stateOfCopy.2.2.1 16 = .ok (.goto 4, 3) := by decide +kernel
theorem d_Stemma_stateOfCopy_19 : decode zm_Stemma_stateOfCopy.2.2.1 19 = .ok (.iconst (-1), 1) := by decide +kernel
theorem d_Stemma_stateOfCopy_20 : decode zm_Stemma_stateOfCopy.2.2.1 20 = .ok (.ireturn, 1) := by decide +kernel
theorem d_Stemma_readingAt_0 : decode zm_Stemma_readingAt.2.2.1 0 = .ok (.iload_n 1, 1) := by decide +kernel
theorem d_Stemma_readingAt_1 : decode zm_Stemma_readingAt.2.2.1 1 = .ok (.ifCond .lt 25, 3) := by decide +kernel
theorem d_Stemma_readingAt_4 : decode zm_Stemma_readingAt.2.2.1 4 = .ok (.iload_n 1, 1) := by decide +kernel
theorem d_Stemma_readingAt_5 : decode zm_Stemma_readingAt.2.2.1 5 = .ok (.bipush 6, 2) := by decide +kernel
theorem d_Stemma_readingAt_7 : decode zm_Stemma_readingAt.2.2.1 7 = .ok (.if_icmp .ge 19, 3) := by decide +kernel
theorem d_Stemma_readingAt_10 : decode zm_Stemma_readingAt.2.2.1 10 = .ok (.iload_n 2, 1) := by decide +kernel
theorem d_Stemma_readingAt_11 : decode zm_Stemma_readingAt.2.2.1 11 = .ok (.ifCond .lt 15, 3) := by decide +kernel
theorem d_Stemma_readingAt_14 : decode zm_Stemma_readingAt.2.2.1 14 = .ok (.iload_n 2, 1) := by decide +kernel
theorem d_Stemma_readingAt_15 : decode zm_Stemma_readingAt.2.2.1 15 = .ok (.aload_n 0, 1) := by decide +kernel
theorem d_Stemma_readingAt_16 : decode zm_Stemma_readingAt.2.2.1 16 = .ok (.getfield 42, 3) := by decide +kernel
theorem d_Stemma_readingAt_19 : decode zm_Stemma_readingAt.2.2.1 19 = .ok (.if_icmp .ge 7, 3) := by decide +kernel
theorem d_Stemma_readingAt_22 : decode zm_Stemma_readingAt.2.2.1 22 = .ok (.iconst 1, 1) := by decide +kernel
theorem d_Stemma_readingAt_23 : decode zm_Stemma_readingAt.2.2.1 23 = .ok (.goto 4, 3) := by decide +kernel
theorem d_Stemma_readingAt_26 : decode zm_Stemma_readingAt.2.2.1 26 = .ok (.iconst 0, 1) := by decide +kernel
theorem d_Stemma_readingAt_27 : decode zm_Stemma_readingAt.2.2.1 27 = .ok (.istore_n 3, 1) := by decide +kernel
theorem d_Stemma_readingAt_28 : decode zm_Stemma_readingAt.2.2.1 28 = .ok (.iload_n 3, 1) := by decide +kernel
theorem d_Stemma_readingAt_29 : decode zm_Stemma_readingAt.2.2.1 29 = .ok (.ifCond .eq 14, 3) := by decide +kernel
theorem d_Stemma_readingAt_32 : decode zm_Stemma_readingAt.2.2.1 32 = .ok (.aload_n 0, 1) := by decide +kernel
theorem d_Stemma_readingAt_33 : decode zm_Stemma_readingAt.2.2.1 33 = .ok (.getfield 11, 3) := by decide +kernel
theorem d_Stemma_readingAt_36 : decode zm_Stemma_readingAt.2.2.1 36 = .ok (.iload_n 1, 1) := by decide +kernel
theorem d_Stemma_readingAt_37 : decode zm_Stemma_readingAt.2.2.1 37 = .ok (.aaload, 1) := by decide +kernel
theorem d_Stemma_readingAt_38 : decode zm_Stemma_readingAt.2.2.1 38 = .ok (.iload_n 2, 1) := by decide +kernel
theorem d_Stemma_readingAt_39 : decode zm_Stemma_readingAt.2.2.1 39 = .ok (.iaload, 1) := by decide +kernel
theorem d_Stemma_readingAt_40 : decode zm_Stemma_readingAt.2.2.1 40 = .ok (.goto 4, 3) := by decide +kernel
theorem d_Stemma_readingAt_43 : decode zm_Stemma_readingAt.2.2.1 43 = .ok (.iconst (-1), 1) := by decide +kernel
theorem d_Stemma_readingAt_44 : decode zm_Stemma_readingAt.2.2.1 44 = .ok (.ireturn, 1) := by decide +kernel
theorem d_Stemma_differences_0 : decode zm_Stemma_differences.2.2.1 0 = .ok (.iconst 0, 1) := by decide +kernel
theorem d_Stemma_differences_1 : decode zm_Stemma_differences.2.2.1 1 = .ok (.istore_n 3, 1) := by decide +kernel
theorem d_Stemma_differences_2 : decode zm_Stemma_differences.2.2.1 2 = .ok (.iconst 0, 1) := by decide +kernel
theorem d_Stemma_differences_3 : decode zm_Stemma_differences.2.2.1 3 = .ok (.istore 4, 2) := by decide +kernel
theorem d_Stemma_differences_5 : decode zm_Stemma_differences.2.2.1 5 = .ok (.iload 4, 2) := by decide +kernel
theorem d_Stemma_differences_7 : decode zm_Stemma_differences.2.2.1 7 = .ok (.aload_n 0, 1) := by decide +kernel
theorem d_Stemma_differences_8 : decode zm_Stemma_differences.2.2.1 8 = .ok (.getfield 42, 3) := by decide +kernel
theorem d_Stemma_differences_11 : decode zm_Stemma_differences.2.2.1 11 = .ok (.if_icmp .ge 29, 3) := by decide +kernel
theorem d_Stemma_differences_14 : decode zm_Stemma_differences.2.2.1 14 = .ok (.aload_n 0, 1) := by decide +kernel
theorem d_Stemma_differences_15 : decode zm_Stemma_differences.2.2.1 15 = .ok (.iload_n 1, 1) := by decide +kernel
theorem d_Stemma_differences_16 : decode zm_Stemma_differences.2.2.1 16 = .ok (.iload 4, 2) := by decide +kernel
theorem d_Stemma_differences_18 : decode zm_Stemma_differences.2.2.1 18 = .ok (.invokevirtual 122, 3) := by decide +kernel
theorem d_Stemma_differences_21 : decode zm_Stemma_differences.2.2.1 21 = .ok (.aload_n 0, 1) := by decide +kernel
theorem d_Stemma_differences_22 : decode zm_Stemma_differences.2.2.1 22 = .ok (.iload_n 2, 1) := by decide +kernel
theorem d_Stemma_differences_23 : decode zm_Stemma_differences.2.2.1 23 = .ok (.iload 4, 2) := by decide +kernel
theorem d_Stemma_differences_25 : decode zm_Stemma_differences.2.2.1 25 = .ok (.invokevirtual 122, 3) := by decide +kernel
theorem d_Stemma_differences_28 : decode zm_Stemma_differences.2.2.1 28 = .ok (.if_icmp .eq 6, 3) := by decide +kernel
theorem d_Stemma_differences_31 : decode zm_Stemma_differences.2.2.1 31 = .ok (.iinc 3 1, 3) := by decide +kernel
theorem d_Stemma_differences_34 : decode zm_Stemma_differences.2.2.1 34 = .ok (.iinc 4 1, 3) := by decide +kernel
theorem d_Stemma_differences_37 : decode zm_Stemma_differences.2.2.1 37 = .ok (.goto (-32), 3) := by decide +kernel
theorem d_Stemma_differences_40 : decode zm_Stemma_differences.2.2.1 40 = .ok (.iload_n 3, 1) := by decide +kernel
theorem d_Stemma_differences_41 : decode zm_Stemma_differences.2.2.1 41 = .ok (.ireturn, 1) := by decide +kernel
theorem d_Stemma_distance_0 : decode zm_Stemma_distance.2.2.1 0 = .ok (.aload_n 0, 1) := by decide +kernel
theorem d_Stemma_distance_1 : decode zm_Stemma_distance.2.2.1 1 = .ok (.iload_n 1, 1) := by decide +kernel
theorem d_Stemma_distance_2 : decode zm_Stemma_distance.2.2.1 2 = .ok (.invokevirtual 125, 3) := by decide +kernel
theorem d_Stemma_distance_5 : decode zm_Stemma_distance.2.2.1 5 = .ok (.ifCond .eq 30, 3) := by decide +kernel
theorem d_Stemma_distance_8 : decode zm_Stemma_distance.2.2.1 8 = .ok (.aload_n 0, 1) := by decide +kernel
theorem d_Stemma_distance_9 : decode zm_Stemma_distance.2.2.1 9 = .ok (.iload_n 2, 1) := by decide +kernel
theorem d_Stemma_distance_10 : decode zm_Stemma_distance.2.2.1 10 = .ok (.invokevirtual 125, 3) := by decide +kernel
theorem d_Stemma_distance_13 : decode zm_Stemma_distance.2.2.1 13 = .ok (.ifCond .eq 22, 3) := by decide +kernel
theorem d_Stemma_distance_16 : decode zm_Stemma_distance.2.2.1 16 = .ok (.aload_n 0, 1) := by decide +kernel
theorem d_Stemma_distance_17 : decode zm_Stemma_distance.2.2.1 17 = .ok (.aload_n 0, 1) := by decide +kernel
theorem d_Stemma_distance_18 : decode zm_Stemma_distance.2.2.1 18 = .ok (.getfield 20, 3) := by decide +kernel
theorem d_Stemma_distance_21 : decode zm_Stemma_distance.2.2.1 21 = .ok (.iload_n 1, 1) := by decide +kernel
theorem d_Stemma_distance_22 : decode zm_Stemma_distance.2.2.1 22 = .ok (.iaload, 1) := by decide +kernel
theorem d_Stemma_distance_23 : decode zm_Stemma_distance.2.2.1 23 = .ok (.aload_n 0, 1) := by decide +kernel
theorem d_Stemma_distance_24 : decode zm_Stemma_distance.2.2.1 24 = .ok (.getfield 20, 3) := by decide +kernel
theorem d_Stemma_distance_27 : decode zm_Stemma_distance.2.2.1 27 = .ok (.iload_n 2, 1) := by decide +kernel
theorem d_Stemma_distance_28 : decode zm_Stemma_distance.2.2.1 28 = .ok (.iaload, 1) := by decide +kernel
theorem d_Stemma_distance_29 : decode zm_Stemma_distance.2.2.1 29 = .ok (.invokevirtual 100, 3) := by decide +kernel
theorem d_Stemma_distance_32 : decode zm_Stemma_distance.2.2.1 32 = .ok (.goto 4, 3) := by decide +kernel
theorem d_Stemma_distance_35 : decode zm_Stemma_distance.2.2.1 35 = .ok (.iconst 0, 1) := by decide +kernel
theorem d_Stemma_distance_36 : decode zm_Stemma_distance.2.2.1 36 = .ok (.ireturn, 1) := by decide +kernel
theorem d_Stemma_readingOfState_0 : decode zm_Stemma_readingOfState.2.2.1 0 = .ok (.aload_n 0, 1) := by decide +kernel
theorem d_Stemma_readingOfState_1 : decode zm_Stemma_readingOfState.2.2.1 1 = .ok (.iload_n 1, 1) := by decide +kernel
theorem d_Stemma_readingOfState_2 : decode zm_Stemma_readingOfState.2.2.1 2 = .ok (.invokevirtual 125, 3) := by decide +kernel
theorem d_Stemma_readingOfState_5 : decode zm_Stemma_readingOfState.2.2.1 5 = .ok (.ifCond .eq 17, 3) := by decide +kernel
theorem d_Stemma_readingOfState_8 : decode zm_Stemma_readingOfState.2.2.1 8 = .ok (.aload_n 0, 1) := by decide +kernel
theorem d_Stemma_readingOfState_9 : decode zm_Stemma_readingOfState.2.2.1 9 = .ok (.aload_n 0, 1) := by decide +kernel
theorem d_Stemma_readingOfState_10 : decode zm_Stemma_readingOfState.2.2.1 10 = .ok (.getfield 20, 3) := by decide +kernel
theorem d_Stemma_readingOfState_13 : decode zm_Stemma_readingOfState.2.2.1 13 = .ok (.iload_n 1, 1) := by decide +kernel
theorem d_Stemma_readingOfState_14 : decode zm_Stemma_readingOfState.2.2.1 14 = .ok (.iaload, 1) := by decide +kernel
theorem d_Stemma_readingOfState_15 : decode zm_Stemma_readingOfState.2.2.1 15 = .ok (.iload_n 2, 1) := by decide +kernel
theorem d_Stemma_readingOfState_16 : decode zm_Stemma_readingOfState.2.2.1 16 = .ok (.invokevirtual 122, 3) := by decide +kernel
theorem d_Stemma_readingOfState_19 : decode zm_Stemma_readingOfState.2.2.1 19 = .ok (.goto 4, 3) := by decide +kernel
theorem d_Stemma_readingOfState_22 : decode zm_Stemma_readingOfState.2.2.1 22 = .ok (.iconst (-1), 1) := by decide +kernel
theorem d_Stemma_readingOfState_23 : decode zm_Stemma_readingOfState.2.2.1 23 = .ok (.ireturn, 1) := by decide +kernel
theorem d_Stemma_parentOf_0 : decode zm_Stemma_parentOf.2.2.1 0 = .ok (.aload_n 0, 1) := by decide +kernel
theorem d_Stemma_parentOf_1 : decode zm_Stemma_parentOf.2.2.1 1 = .ok (.iload_n 1, 1) := by decide +kernel
theorem d_Stemma_parentOf_2 : decode zm_Stemma_parentOf.2.2.1 2 = .ok (.invokevirtual 125, 3) := by decide +kernel
theorem d_Stemma_parentOf_5 : decode zm_Stemma_parentOf.2.2.1 5 = .ok (.ifCond .eq 12, 3) := by decide +kernel
theorem d_Stemma_parentOf_8 : decode zm_Stemma_parentOf.2.2.1 8 = .ok (.aload_n 0, 1) := by decide +kernel
theorem d_Stemma_parentOf_9 : decode zm_Stemma_parentOf.2.2.1 9 = .ok (.getfield 26, 3) := by decide +kernel
theorem d_Stemma_parentOf_12 : decode zm_Stemma_parentOf.2.2.1 12 = .ok (.iload_n 1, 1) := by decide +kernel
theorem d_Stemma_parentOf_13 : decode zm_Stemma_parentOf.2.2.1 13 = .ok (.iaload, 1) := by decide +kernel
theorem d_Stemma_parentOf_14 : decode zm_Stemma_parentOf.2.2.1 14 = .ok (.goto 4, 3) := by decide +kernel
theorem d_Stemma_parentOf_17 : decode zm_Stemma_parentOf.2.2.1 17 = .ok (.iconst (-1), 1) := by decide +kernel
theorem d_Stemma_parentOf_18 : decode zm_Stemma_parentOf.2.2.1 18 = .ok (.ireturn, 1) := by decide +kernel
theorem d_Stemma_isReverted_0 : decode zm_Stemma_isReverted.2.2.1 0 = .ok (.aload_n 0, 1) := by decide +kernel
theorem d_Stemma_isReverted_1 : decode zm_Stemma_isReverted.2.2.1 1 = .ok (.iload_n 1, 1) := by decide +kernel
theorem d_Stemma_isReverted_2 : decode zm_Stemma_isReverted.2.2.1 2 = .ok (.invokevirtual 125, 3) := by decide +kernel
theorem d_Stemma_isReverted_5 : decode zm_Stemma_isReverted.2.2.1 5 = .ok (.ifCond .eq 32, 3) := by decide +kernel
theorem d_Stemma_isReverted_8 : decode zm_Stemma_isReverted.2.2.1 8 = .ok (.iload_n 2, 1) := by decide +kernel
theorem d_Stemma_isReverted_9 : decode zm_Stemma_isReverted.2.2.1 9 = .ok (.ifCond .lt 28, 3) := by decide +kernel
theorem d_Stemma_isReverted_12 : decode zm_Stemma_isReverted.2.2.1 12 = .ok (.iload_n 2, 1) := by decide +kernel
theorem d_Stemma_isReverted_13 : decode zm_Stemma_isReverted.2.2.1 13 = .ok (.aload_n 0, 1) := by decide +kernel
theorem d_Stemma_isReverted_14 : decode zm_Stemma_isReverted.2.2.1 14 = .ok (.getfield 42, 3) := by decide +kernel
theorem d_Stemma_isReverted_17 : decode zm_Stemma_isReverted.2.2.1 17 = .ok (.if_icmp .ge 20, 3) := by decide +kernel
theorem d_Stemma_isReverted_20 : decode zm_Stemma_isReverted.2.2.1 20 = .ok (.aload_n 0, 1) := by decide +kernel
theorem d_Stemma_isReverted_21 : decode zm_Stemma_isReverted.2.2.1 21 = .ok (.getfield 35, 3) := by decide +kernel
theorem d_Stemma_isReverted_24 : decode zm_Stemma_isReverted.2.2.1 24 = .ok (.iload_n 1, 1) := by decide +kernel
theorem d_Stemma_isReverted_25 : decode zm_Stemma_isReverted.2.2.1 25 = .ok (.iaload, 1) := by decide +kernel
theorem d_Stemma_isReverted_26 : decode zm_Stemma_isReverted.2.2.1 26 = .ok (.iload_n 2, 1) := by decide +kernel
theorem d_Stemma_isReverted_27 : decode zm_Stemma_isReverted.2.2.1 27 = .ok (.ishr, 1) := by decide +kernel
theorem d_Stemma_isReverted_28 : decode zm_Stemma_isReverted.2.2.1 28 = .ok (.iconst 1, 1) := by decide +kernel
theorem d_Stemma_isReverted_29 : decode zm_Stemma_isReverted.2.2.1 29 = .ok (.iand, 1) := by decide +kernel
theorem d_Stemma_isReverted_30 : decode zm_Stemma_isReverted.2.2.1 30 = .ok (.ifCond .eq 7, 3) := by decide +kernel
theorem d_Stemma_isReverted_33 : decode zm_Stemma_isReverted.2.2.1 33 = .ok (.iconst 1, 1) := by decide +kernel
theorem d_Stemma_isReverted_34 : decode zm_Stemma_isReverted.2.2.1 34 = .ok (.goto 4, 3) := by decide +kernel
theorem d_Stemma_isReverted_37 : decode zm_Stemma_isReverted.2.2.1 37 = .ok (.iconst 0, 1) := by decide +kernel
theorem d_Stemma_isReverted_38 : decode zm_Stemma_isReverted.2.2.1 38 = .ok (.ireturn, 1) := by decide +kernel
theorem d_Stemma_ancestors_0 : decode zm_Stemma_ancestors.2.2.1 0 = .ok (.iconst 0, 1) := by decide +kernel
theorem d_Stemma_ancestors_1 : decode zm_Stemma_ancestors.2.2.1 1 = .ok (.istore_n 2, 1) := by decide +kernel
theorem d_Stemma_ancestors_2 : decode zm_Stemma_ancestors.2.2.1 2 = .ok (.aload_n 0, 1) := by decide +kernel
theorem d_Stemma_ancestors_3 : decode zm_Stemma_ancestors.2.2.1 3 = .ok (.iload_n 1, 1) := by decide +kernel
theorem d_Stemma_ancestors_4 : decode zm_Stemma_ancestors.2.2.1 4 = .ok (.invokevirtual 117, 3) := by decide +kernel
theorem d_Stemma_ancestors_7 : decode zm_Stemma_ancestors.2.2.1 7 = .ok (.istore_n 3, 1) := by decide +kernel
theorem d_Stemma_ancestors_8 : decode zm_Stemma_ancestors.2.2.1 8 = .ok (.iconst 0, 1) := by decide +kernel
theorem d_Stemma_ancestors_9 : decode zm_Stemma_ancestors.2.2.1 9 = .ok (.istore 4, 2) := by decide +kernel
theorem d_Stemma_ancestors_11 : decode zm_Stemma_ancestors.2.2.1 11 = .ok (.iload 4, 2) := by decide +kernel
theorem d_Stemma_ancestors_13 : decode zm_Stemma_ancestors.2.2.1 13 = .ok (.aload_n 0, 1) := by decide +kernel
theorem d_Stemma_ancestors_14 : decode zm_Stemma_ancestors.2.2.1 14 = .ok (.getfield 38, 3) := by decide +kernel
theorem d_Stemma_ancestors_17 : decode zm_Stemma_ancestors.2.2.1 17 = .ok (.if_icmp .ge 23, 3) := by decide +kernel
theorem d_Stemma_ancestors_20 : decode zm_Stemma_ancestors.2.2.1 20 = .ok (.iload_n 3, 1) := by decide +kernel
theorem d_Stemma_ancestors_21 : decode zm_Stemma_ancestors.2.2.1 21 = .ok (.iconst (-1), 1) := by decide +kernel
theorem d_Stemma_ancestors_22 : decode zm_Stemma_ancestors.2.2.1 22 = .ok (.if_icmp .eq 18, 3) := by decide +kernel
theorem d_Stemma_ancestors_25 : decode zm_Stemma_ancestors.2.2.1 25 = .ok (.iinc 2 1, 3) := by decide +kernel
theorem d_Stemma_ancestors_28 : decode zm_Stemma_ancestors.2.2.1 28 = .ok (.aload_n 0, 1) := by decide +kernel
theorem d_Stemma_ancestors_29 : decode zm_Stemma_ancestors.2.2.1 29 = .ok (.iload_n 3, 1) := by decide +kernel
theorem d_Stemma_ancestors_30 : decode zm_Stemma_ancestors.2.2.1 30 = .ok (.invokevirtual 117, 3) := by decide +kernel
theorem d_Stemma_ancestors_33 : decode zm_Stemma_ancestors.2.2.1 33 = .ok (.istore_n 3, 1) := by decide +kernel
theorem d_Stemma_ancestors_34 : decode zm_Stemma_ancestors.2.2.1 34 = .ok (.iinc 4 1, 3) := by decide +kernel
theorem d_Stemma_ancestors_37 : decode zm_Stemma_ancestors.2.2.1 37 = .ok (.goto (-26), 3) := by decide +kernel
theorem d_Stemma_ancestors_40 : decode zm_Stemma_ancestors.2.2.1 40 = .ok (.iload_n 2, 1) := by decide +kernel
theorem d_Stemma_ancestors_41 : decode zm_Stemma_ancestors.2.2.1 41 = .ok (.ireturn, 1) := by decide +kernel
theorem d_Stemma_describe_0 : decode zm_Stemma_describe.2.2.1 0 = .ok (.aload_n 0, 1) := by decide +kernel
theorem d_Stemma_describe_1 : decode zm_Stemma_describe.2.2.1 1 = .ok (.iload_n 1, 1) := by decide +kernel
theorem d_Stemma_describe_2 : decode zm_Stemma_describe.2.2.1 2 = .ok (.invokevirtual 125, 3) := by decide +kernel
theorem d_Stemma_describe_5 : decode zm_Stemma_describe.2.2.1 5 = .ok (.ifCond .ne 5, 3) := by decide +kernel
theorem d_Stemma_describe_8 : decode zm_Stemma_describe.2.2.1 8 = .ok (.iconst (-1), 1) := by decide +kernel
theorem d_Stemma_describe_9 : decode zm_Stemma_describe.2.2.1 9 = .ok (.ireturn, 1) := by decide +kernel
theorem d_Stemma_describe_10 : decode zm_Stemma_describe.2.2.1 10 = .ok (.iload_n 2, 1) := by decide +kernel
theorem d_Stemma_describe_11 : decode zm_Stemma_describe.2.2.1 11 = .ok (.tableswitch 81 0 5 #[37, 44, 51, 58, 65, 71], 37) := by decide +kernel
theorem d_Stemma_describe_48 : decode zm_Stemma_describe.2.2.1 48 = .ok (.aload_n 0, 1) := by decide +kernel
theorem d_Stemma_describe_49 : decode zm_Stemma_describe.2.2.1 49 = .ok (.getfield 20, 3) := by decide +kernel
theorem d_Stemma_describe_52 : decode zm_Stemma_describe.2.2.1 52 = .ok (.iload_n 1, 1) := by decide +kernel
theorem d_Stemma_describe_53 : decode zm_Stemma_describe.2.2.1 53 = .ok (.iaload, 1) := by decide +kernel
theorem d_Stemma_describe_54 : decode zm_Stemma_describe.2.2.1 54 = .ok (.ireturn, 1) := by decide +kernel
theorem d_Stemma_describe_55 : decode zm_Stemma_describe.2.2.1 55 = .ok (.aload_n 0, 1) := by decide +kernel
theorem d_Stemma_describe_56 : decode zm_Stemma_describe.2.2.1 56 = .ok (.getfield 23, 3) := by decide +kernel
theorem d_Stemma_describe_59 : decode zm_Stemma_describe.2.2.1 59 = .ok (.iload_n 1, 1) := by decide +kernel
theorem d_Stemma_describe_60 : decode zm_Stemma_describe.2.2.1 60 = .ok (.iaload, 1) := by decide +kernel
theorem d_Stemma_describe_61 : decode zm_Stemma_describe.2.2.1 61 = .ok (.ireturn, 1) := by decide +kernel
theorem d_Stemma_describe_62 : decode zm_Stemma_describe.2.2.1 62 = .ok (.aload_n 0, 1) := by decide +kernel
theorem d_Stemma_describe_63 : decode zm_Stemma_describe.2.2.1 63 = .ok (.getfield 26, 3) := by decide +kernel
theorem d_Stemma_describe_66 : decode zm_Stemma_describe.2.2.1 66 = .ok (.iload_n 1, 1) := by decide +kernel
theorem d_Stemma_describe_67 : decode zm_Stemma_describe.2.2.1 67 = .ok (.iaload, 1) := by decide +kernel
theorem d_Stemma_describe_68 : decode zm_Stemma_describe.2.2.1 68 = .ok (.ireturn, 1) := by decide +kernel
theorem d_Stemma_describe_69 : decode zm_Stemma_describe.2.2.1 69 = .ok (.aload_n 0, 1) := by decide +kernel
theorem d_Stemma_describe_70 : decode zm_Stemma_describe.2.2.1 70 = .ok (.getfield 29, 3) := by decide +kernel
theorem d_Stemma_describe_73 : decode zm_Stemma_describe.2.2.1 73 = .ok (.iload_n 1, 1) := by decide +kernel
theorem d_Stemma_describe_74 : decode zm_Stemma_describe.2.2.1 74 = .ok (.iaload, 1) := by decide +kernel
theorem d_Stemma_describe_75 : decode zm_Stemma_describe.2.2.1 75 = .ok (.ireturn, 1) := by decide +kernel
theorem d_Stemma_describe_76 : decode zm_Stemma_describe.2.2.1 76 = .ok (.aload_n 0, 1) := by decide +kernel
theorem d_Stemma_describe_77 : decode zm_Stemma_describe.2.2.1 77 = .ok (.iload_n 1, 1) := by decide +kernel
theorem d_Stemma_describe_78 : decode zm_Stemma_describe.2.2.1 78 = .ok (.invokevirtual 129, 3) := by decide +kernel
theorem d_Stemma_describe_81 : decode zm_Stemma_describe.2.2.1 81 = .ok (.ireturn, 1) := by decide +kernel
theorem d_Stemma_describe_82 : decode zm_Stemma_describe.2.2.1 82 = .ok (.aload_n 0, 1) := by decide +kernel
theorem d_Stemma_describe_83 : decode zm_Stemma_describe.2.2.1 83 = .ok (.getfield 35, 3) := by decide +kernel
theorem d_Stemma_describe_86 : decode zm_Stemma_describe.2.2.1 86 = .ok (.iload_n 1, 1) := by decide +kernel
theorem d_Stemma_describe_87 : decode zm_Stemma_describe.2.2.1 87 = .ok (.iaload, 1) := by decide +kernel
theorem d_Stemma_describe_88 : decode zm_Stemma_describe.2.2.1 88 = .ok (.invokestatic 132, 3) := by decide +kernel
theorem d_Stemma_describe_91 : decode zm_Stemma_describe.2.2.1 91 = .ok (.ireturn, 1) := by decide +kernel
theorem d_Stemma_describe_92 : decode zm_Stemma_describe.2.2.1 92 = .ok (.aload_n 0, 1) := by decide +kernel
theorem d_Stemma_describe_93 : decode zm_Stemma_describe.2.2.1 93 = .ok (.getfield 32, 3) := by decide +kernel
theorem d_Stemma_describe_96 : decode zm_Stemma_describe.2.2.1 96 = .ok (.iload_n 1, 1) := by decide +kernel
theorem d_Stemma_describe_97 : decode zm_Stemma_describe.2.2.1 97 = .ok (.iaload, 1) := by decide +kernel
theorem d_Stemma_describe_98 : decode zm_Stemma_describe.2.2.1 98 = .ok (.ireturn, 1) := by decide +kernel
theorem d_Stemma_describeAll_0 : decode zm_Stemma_describeAll.2.2.1 0 = .ok (.iload_n 1, 1) := by decide +kernel
theorem d_Stemma_describeAll_1 : decode zm_Stemma_describeAll.2.2.1 1 = .ok (.tableswitch 60 0 4 #[35, 40, 45, 50, 55], 35) := by decide +kernel
theorem d_Stemma_describeAll_36 : decode zm_Stemma_describeAll.2.2.1 36 = .ok (.aload_n 0, 1) := by decide +kernel
theorem d_Stemma_describeAll_37 : decode zm_Stemma_describeAll.2.2.1 37 = .ok (.getfield 38, 3) := by decide +kernel
theorem d_Stemma_describeAll_40 : decode zm_Stemma_describeAll.2.2.1 40 = .ok (.ireturn, 1) := by decide +kernel
theorem d_Stemma_describeAll_41 : decode zm_Stemma_describeAll.2.2.1 41 = .ok (.aload_n 0, 1) := by decide +kernel
theorem d_Stemma_describeAll_42 : decode zm_Stemma_describeAll.2.2.1 42 = .ok (.getfield 45, 3) := by decide +kernel
theorem d_Stemma_describeAll_45 : decode zm_Stemma_describeAll.2.2.1 45 = .ok (.ireturn, 1) := by decide +kernel
theorem d_Stemma_describeAll_46 : decode zm_Stemma_describeAll.2.2.1 46 = .ok (.aload_n 0, 1) := by decide +kernel
theorem d_Stemma_describeAll_47 : decode zm_Stemma_describeAll.2.2.1 47 = .ok (.invokevirtual 137, 3) := by decide +kernel
theorem d_Stemma_describeAll_50 : decode zm_Stemma_describeAll.2.2.1 50 = .ok (.ireturn, 1) := by decide +kernel
theorem d_Stemma_describeAll_51 : decode zm_Stemma_describeAll.2.2.1 51 = .ok (.aload_n 0, 1) := by decide +kernel
theorem d_Stemma_describeAll_52 : decode zm_Stemma_describeAll.2.2.1 52 = .ok (.invokevirtual 138, 3) := by decide +kernel
theorem d_Stemma_describeAll_55 : decode zm_Stemma_describeAll.2.2.1 55 = .ok (.ireturn, 1) := by decide +kernel
theorem d_Stemma_describeAll_56 : decode zm_Stemma_describeAll.2.2.1 56 = .ok (.aload_n 0, 1) := by decide +kernel
theorem d_Stemma_describeAll_57 : decode zm_Stemma_describeAll.2.2.1 57 = .ok (.invokevirtual 141, 3) := by decide +kernel
theorem d_Stemma_describeAll_60 : decode zm_Stemma_describeAll.2.2.1 60 = .ok (.ireturn, 1) := by decide +kernel
theorem d_Stemma_describeAll_61 : decode zm_Stemma_describeAll.2.2.1 61 = .ok (.aload_n 0, 1) := by decide +kernel
theorem d_Stemma_describeAll_62 : decode zm_Stemma_describeAll.2.2.1 62 = .ok (.invokevirtual 144, 3) := by decide +kernel
theorem d_Stemma_describeAll_65 : decode zm_Stemma_describeAll.2.2.1 65 = .ok (.ireturn, 1) := by decide +kernel
theorem d_Stemma_length_0 : decode zm_Stemma_length.2.2.1 0 = .ok (.iconst 0, 1) := by decide +kernel
theorem d_Stemma_length_1 : decode zm_Stemma_length.2.2.1 1 = .ok (.istore_n 1, 1) := by decide +kernel
theorem d_Stemma_length_2 : decode zm_Stemma_length.2.2.1 2 = .ok (.iconst 0, 1) := by decide +kernel
theorem d_Stemma_length_3 : decode zm_Stemma_length.2.2.1 3 = .ok (.istore_n 2, 1) := by decide +kernel
theorem d_Stemma_length_4 : decode zm_Stemma_length.2.2.1 4 = .ok (.iload_n 2, 1) := by decide +kernel
theorem d_Stemma_length_5 : decode zm_Stemma_length.2.2.1 5 = .ok (.aload_n 0, 1) := by decide +kernel
theorem d_Stemma_length_6 : decode zm_Stemma_length.2.2.1 6 = .ok (.getfield 38, 3) := by decide +kernel
theorem d_Stemma_length_9 : decode zm_Stemma_length.2.2.1 9 = .ok (.if_icmp .ge 18, 3) := by decide +kernel
theorem d_Stemma_length_12 : decode zm_Stemma_length.2.2.1 12 = .ok (.iload_n 1, 1) := by decide +kernel
theorem d_Stemma_length_13 : decode zm_Stemma_length.2.2.1 13 = .ok (.aload_n 0, 1) := by decide +kernel
theorem d_Stemma_length_14 : decode zm_Stemma_length.2.2.1 14 = .ok (.getfield 29, 3) := by decide +kernel
theorem d_Stemma_length_17 : decode zm_Stemma_length.2.2.1 17 = .ok (.iload_n 2, 1) := by decide +kernel
theorem d_Stemma_length_18 : decode zm_Stemma_length.2.2.1 18 = .ok (.iaload, 1) := by decide +kernel
theorem d_Stemma_length_19 : decode zm_Stemma_length.2.2.1 19 = .ok (.iadd, 1) := by decide +kernel
theorem d_Stemma_length_20 : decode zm_Stemma_length.2.2.1 20 = .ok (.istore_n 1, 1) := by decide +kernel
theorem d_Stemma_length_21 : decode zm_Stemma_length.2.2.1 21 = .ok (.iinc 2 1, 3) := by decide +kernel
theorem d_Stemma_length_24 : decode zm_Stemma_length.2.2.1 24 = .ok (.goto (-20), 3) := by decide +kernel
theorem d_Stemma_length_27 : decode zm_Stemma_length.2.2.1 27 = .ok (.iload_n 1, 1) := by decide +kernel
theorem d_Stemma_length_28 : decode zm_Stemma_length.2.2.1 28 = .ok (.ireturn, 1) := by decide +kernel
theorem d_Stemma_variedPlaces_0 : decode zm_Stemma_variedPlaces.2.2.1 0 = .ok (.iconst 0, 1) := by decide +kernel
theorem d_Stemma_variedPlaces_1 : decode zm_Stemma_variedPlaces.2.2.1 1 = .ok (.istore_n 1, 1) := by decide +kernel
theorem d_Stemma_variedPlaces_2 : decode zm_Stemma_variedPlaces.2.2.1 2 = .ok (.iconst 0, 1) := by decide +kernel
theorem d_Stemma_variedPlaces_3 : decode zm_Stemma_variedPlaces.2.2.1 3 = .ok (.istore_n 2, 1) := by decide +kernel
theorem d_Stemma_variedPlaces_4 : decode zm_Stemma_variedPlaces.2.2.1 4 = .ok (.iload_n 2, 1) := by decide +kernel
theorem d_Stemma_variedPlaces_5 : decode zm_Stemma_variedPlaces.2.2.1 5 = .ok (.aload_n 0, 1) := by decide +kernel
theorem d_Stemma_variedPlaces_6 : decode zm_Stemma_variedPlaces.2.2.1 6 = .ok (.getfield 42, 3) := by decide +kernel
theorem d_Stemma_variedPlaces_9 : decode zm_Stemma_variedPlaces.2.2.1 9 = .ok (.if_icmp .ge 67, 3) := by decide +kernel
theorem d_Stemma_variedPlaces_12 : decode zm_Stemma_variedPlaces.2.2.1 12 = .ok (.iconst 0, 1) := by decide +kernel
theorem d_Stemma_variedPlaces_13 : decode zm_Stemma_variedPlaces.2.2.1 13 = .ok (.istore_n 3, 1) := by decide +kernel
theorem d_Stemma_variedPlaces_14 : decode zm_Stemma_variedPlaces.2.2.1 14 = .ok (.iconst 1, 1) := by decide +kernel
theorem d_Stemma_variedPlaces_15 : decode zm_Stemma_variedPlaces.2.2.1 15 = .ok (.istore 4, 2) := by decide +kernel
theorem d_Stemma_variedPlaces_17 : decode zm_Stemma_variedPlaces.2.2.1 17 = .ok (.iload 4, 2) := by decide +kernel
theorem d_Stemma_variedPlaces_19 : decode zm_Stemma_variedPlaces.2.2.1 19 = .ok (.aload_n 0, 1) := by decide +kernel
theorem d_Stemma_variedPlaces_20 : decode zm_Stemma_variedPlaces.2.2.1 20 = .ok (.getfield 38, 3) := by decide +kernel
theorem d_Stemma_variedPlaces_23 : decode zm_Stemma_variedPlaces.2.2.1 23 = .ok (.if_icmp .ge 35, 3) := by decide +kernel
theorem d_Stemma_variedPlaces_26 : decode zm_Stemma_variedPlaces.2.2.1 26 = .ok (.iload_n 3, 1) := by decide +kernel
theorem d_Stemma_variedPlaces_27 : decode zm_Stemma_variedPlaces.2.2.1 27 = .ok (.ifCond .ne 19, 3) := by decide +kernel
theorem d_Stemma_variedPlaces_30 : decode zm_Stemma_variedPlaces.2.2.1 30 = .ok (.aload_n 0, 1) := by decide +kernel
theorem d_Stemma_variedPlaces_31 : decode zm_Stemma_variedPlaces.2.2.1 31 = .ok (.iload 4, 2) := by decide +kernel
theorem d_Stemma_variedPlaces_33 : decode zm_Stemma_variedPlaces.2.2.1 33 = .ok (.iload_n 2, 1) := by decide +kernel
theorem d_Stemma_variedPlaces_34 : decode zm_Stemma_variedPlaces.2.2.1 34 = .ok (.invokevirtual 114, 3) := by decide +kernel
theorem d_Stemma_variedPlaces_37 : decode zm_Stemma_variedPlaces.2.2.1 37 = .ok (.aload_n 0, 1) := by decide +kernel
theorem d_Stemma_variedPlaces_38 : decode zm_Stemma_variedPlaces.2.2.1 38 = .ok (.iconst 0, 1) := by decide +kernel
theorem d_Stemma_variedPlaces_39 : decode zm_Stemma_variedPlaces.2.2.1 39 = .ok (.iload_n 2, 1) := by decide +kernel
theorem d_Stemma_variedPlaces_40 : decode zm_Stemma_variedPlaces.2.2.1 40 = .ok (.invokevirtual 114, 3) := by decide +kernel
theorem d_Stemma_variedPlaces_43 : decode zm_Stemma_variedPlaces.2.2.1 43 = .ok (.if_icmp .eq 7, 3) := by decide +kernel
theorem d_Stemma_variedPlaces_46 : decode zm_Stemma_variedPlaces.2.2.1 46 = .ok (.iconst 1, 1) := by decide +kernel
theorem d_Stemma_variedPlaces_47 : decode zm_Stemma_variedPlaces.2.2.1 47 = .ok (.goto 4, 3) := by decide +kernel
theorem d_Stemma_variedPlaces_50 : decode zm_Stemma_variedPlaces.2.2.1 50 = .ok (.iconst 0, 1) := by decide +kernel
theorem d_Stemma_variedPlaces_51 : decode zm_Stemma_variedPlaces.2.2.1 51 = .ok (.istore_n 3, 1) := by decide +kernel
theorem d_Stemma_variedPlaces_52 : decode zm_Stemma_variedPlaces.2.2.1 52 = .ok (.iinc 4 1, 3) := by decide +kernel
theorem d_Stemma_variedPlaces_55 : decode zm_Stemma_variedPlaces.2.2.1 55 = .ok (.goto (-38), 3) := by decide +kernel
theorem d_Stemma_variedPlaces_58 : decode zm_Stemma_variedPlaces.2.2.1 58 = .ok (.iload_n 1, 1) := by decide +kernel
theorem d_Stemma_variedPlaces_59 : decode zm_Stemma_variedPlaces.2.2.1 59 = .ok (.iload_n 3, 1) := by decide +kernel
theorem d_Stemma_variedPlaces_60 : decode zm_Stemma_variedPlaces.2.2.1 60 = .ok (.ifCond .eq 7, 3) := by decide +kernel
theorem d_Stemma_variedPlaces_63 : decode zm_Stemma_variedPlaces.2.2.1 63 = .ok (.iconst 1, 1) := by decide +kernel
theorem d_Stemma_variedPlaces_64 : decode zm_Stemma_variedPlaces.2.2.1 64 = .ok (.goto 4, 3) := by decide +kernel
theorem d_Stemma_variedPlaces_67 : decode zm_Stemma_variedPlaces.2.2.1 67 = .ok (.iconst 0, 1) := by decide +kernel
theorem d_Stemma_variedPlaces_68 : decode zm_Stemma_variedPlaces.2.2.1 68 = .ok (.iadd, 1) := by decide +kernel
theorem d_Stemma_variedPlaces_69 : decode zm_Stemma_variedPlaces.2.2.1 69 = .ok (.istore_n 1, 1) := by decide +kernel
theorem d_Stemma_variedPlaces_70 : decode zm_Stemma_variedPlaces.2.2.1 70 = .ok (.iinc 2 1, 3) := by decide +kernel
theorem d_Stemma_variedPlaces_73 : decode zm_Stemma_variedPlaces.2.2.1 73 = .ok (.goto (-69), 3) := by decide +kernel
theorem d_Stemma_variedPlaces_76 : decode zm_Stemma_variedPlaces.2.2.1 76 = .ok (.iload_n 1, 1) := by decide +kernel
theorem d_Stemma_variedPlaces_77 : decode zm_Stemma_variedPlaces.2.2.1 77 = .ok (.ireturn, 1) := by decide +kernel
theorem d_Stemma_reversions_0 : decode zm_Stemma_reversions.2.2.1 0 = .ok (.iconst 0, 1) := by decide +kernel
theorem d_Stemma_reversions_1 : decode zm_Stemma_reversions.2.2.1 1 = .ok (.istore_n 1, 1) := by decide +kernel
theorem d_Stemma_reversions_2 : decode zm_Stemma_reversions.2.2.1 2 = .ok (.iconst 0, 1) := by decide +kernel
theorem d_Stemma_reversions_3 : decode zm_Stemma_reversions.2.2.1 3 = .ok (.istore_n 2, 1) := by decide +kernel
theorem d_Stemma_reversions_4 : decode zm_Stemma_reversions.2.2.1 4 = .ok (.iload_n 2, 1) := by decide +kernel
theorem d_Stemma_reversions_5 : decode zm_Stemma_reversions.2.2.1 5 = .ok (.aload_n 0, 1) := by decide +kernel
theorem d_Stemma_reversions_6 : decode zm_Stemma_reversions.2.2.1 6 = .ok (.getfield 38, 3) := by decide +kernel
theorem d_Stemma_reversions_9 : decode zm_Stemma_reversions.2.2.1 9 = .ok (.if_icmp .ge 21, 3) := by decide +kernel
theorem d_Stemma_reversions_12 : decode zm_Stemma_reversions.2.2.1 12 = .ok (.iload_n 1, 1) := by decide +kernel
theorem d_Stemma_reversions_13 : decode zm_Stemma_reversions.2.2.1 13 = .ok (.aload_n 0, 1) := by decide +kernel
theorem d_Stemma_reversions_14 : decode zm_Stemma_reversions.2.2.1 14 = .ok (.getfield 35, 3) := by decide +kernel
theorem d_Stemma_reversions_17 : decode zm_Stemma_reversions.2.2.1 17 = .ok (.iload_n 2, 1) := by decide +kernel
theorem d_Stemma_reversions_18 : decode zm_Stemma_reversions.2.2.1 18 = .ok (.iaload, 1) := by decide +kernel
theorem d_Stemma_reversions_19 : decode zm_Stemma_reversions.2.2.1 19 = .ok (.invokestatic 132, 3) := by decide +kernel
theorem d_Stemma_reversions_22 : decode zm_Stemma_reversions.2.2.1 22 = .ok (.iadd, 1) := by decide +kernel
theorem d_Stemma_reversions_23 : decode zm_Stemma_reversions.2.2.1 23 = .ok (.istore_n 1, 1) := by decide +kernel
theorem d_Stemma_reversions_24 : decode zm_Stemma_reversions.2.2.1 24 = .ok (.iinc 2 1, 3) := by decide +kernel
theorem d_Stemma_reversions_27 : decode zm_Stemma_reversions.2.2.1 27 = .ok (.goto (-23), 3) := by decide +kernel
theorem d_Stemma_reversions_30 : decode zm_Stemma_reversions.2.2.1 30 = .ok (.iload_n 1, 1) := by decide +kernel
theorem d_Stemma_reversions_31 : decode zm_Stemma_reversions.2.2.1 31 = .ok (.ireturn, 1) := by decide +kernel
theorem d_Stemma_leaves_0 : decode zm_Stemma_leaves.2.2.1 0 = .ok (.iconst 0, 1) := by decide +kernel
theorem d_Stemma_leaves_1 : decode zm_Stemma_leaves.2.2.1 1 = .ok (.istore_n 1, 1) := by decide +kernel
theorem d_Stemma_leaves_2 : decode zm_Stemma_leaves.2.2.1 2 = .ok (.iconst 1, 1) := by decide +kernel
theorem d_Stemma_leaves_3 : decode zm_Stemma_leaves.2.2.1 3 = .ok (.istore_n 2, 1) := by decide +kernel
theorem d_Stemma_leaves_4 : decode zm_Stemma_leaves.2.2.1 4 = .ok (.iload_n 2, 1) := by decide +kernel
theorem d_Stemma_leaves_5 : decode zm_Stemma_leaves.2.2.1 5 = .ok (.aload_n 0, 1) := by decide +kernel
theorem d_Stemma_leaves_6 : decode zm_Stemma_leaves.2.2.1 6 = .ok (.getfield 38, 3) := by decide +kernel
theorem d_Stemma_leaves_9 : decode zm_Stemma_leaves.2.2.1 9 = .ok (.if_icmp .ge 20, 3) := by decide +kernel
theorem d_Stemma_leaves_12 : decode zm_Stemma_leaves.2.2.1 12 = .ok (.iload_n 1, 1) := by decide +kernel
theorem d_Stemma_leaves_13 : decode zm_Stemma_leaves.2.2.1 13 = .ok (.iconst 1, 1) := by decide +kernel
theorem d_Stemma_leaves_14 : decode zm_Stemma_leaves.2.2.1 14 = .ok (.aload_n 0, 1) := by decide +kernel
theorem d_Stemma_leaves_15 : decode zm_Stemma_leaves.2.2.1 15 = .ok (.getfield 26, 3) := by decide +kernel
theorem d_Stemma_leaves_18 : decode zm_Stemma_leaves.2.2.1 18 = .ok (.iload_n 2, 1) := by decide +kernel
theorem d_Stemma_leaves_19 : decode zm_Stemma_leaves.2.2.1 19 = .ok (.iaload, 1) := by decide +kernel
theorem d_Stemma_leaves_20 : decode zm_Stemma_leaves.2.2.1 20 = .ok (.ishl, 1) := by decide +kernel
theorem d_Stemma_leaves_21 : decode zm_Stemma_leaves.2.2.1 21 = .ok (.ior, 1) := by decide +kernel
theorem d_Stemma_leaves_22 : decode zm_Stemma_leaves.2.2.1 22 = .ok (.istore_n 1, 1) := by decide +kernel
theorem d_Stemma_leaves_23 : decode zm_Stemma_leaves.2.2.1 23 = .ok (.iinc 2 1, 3) := by decide +kernel
theorem d_Stemma_leaves_26 : decode zm_Stemma_leaves.2.2.1 26 = .ok (.goto (-22), 3) := by decide +kernel
theorem d_Stemma_leaves_29 : decode zm_Stemma_leaves.2.2.1 29 = .ok (.aload_n 0, 1) := by decide +kernel
theorem d_Stemma_leaves_30 : decode zm_Stemma_leaves.2.2.1 30 = .ok (.getfield 38, 3) := by decide +kernel
theorem d_Stemma_leaves_33 : decode zm_Stemma_leaves.2.2.1 33 = .ok (.iload_n 1, 1) := by decide +kernel
theorem d_Stemma_leaves_34 : decode zm_Stemma_leaves.2.2.1 34 = .ok (.invokestatic 132, 3) := by decide +kernel
theorem d_Stemma_leaves_37 : decode zm_Stemma_leaves.2.2.1 37 = .ok (.isub, 1) := by decide +kernel
theorem d_Stemma_leaves_38 : decode zm_Stemma_leaves.2.2.1 38 = .ok (.ireturn, 1) := by decide +kernel
theorem d_Sight_size_0 : decode zm_Sight_size.2.2.1 0 = .ok (.aload_n 0, 1) := by decide +kernel
theorem d_Sight_size_1 : decode zm_Sight_size.2.2.1 1 = .ok (.getfield 16, 3) := by decide +kernel
theorem d_Sight_size_4 : decode zm_Sight_size.2.2.1 4 = .ok (.ireturn, 1) := by decide +kernel
theorem d_Sight_changes_0 : decode zm_Sight_changes.2.2.1 0 = .ok (.aload_n 0, 1) := by decide +kernel
theorem d_Sight_changes_1 : decode zm_Sight_changes.2.2.1 1 = .ok (.getfield 20, 3) := by decide +kernel
theorem d_Sight_changes_4 : decode zm_Sight_changes.2.2.1 4 = .ok (.ireturn, 1) := by decide +kernel
theorem d_Sight_has_0 : decode zm_Sight_has.2.2.1 0 = .ok (.iload_n 1, 1) := by decide +kernel
theorem d_Sight_has_1 : decode zm_Sight_has.2.2.1 1 = .ok (.ifCond .lt 15, 3) := by decide +kernel
theorem d_Sight_has_4 : decode zm_Sight_has.2.2.1 4 = .ok (.iload_n 1, 1) := by decide +kernel
theorem d_Sight_has_5 : decode zm_Sight_has.2.2.1 5 = .ok (.aload_n 0, 1) := by decide +kernel
theorem d_Sight_has_6 : decode zm_Sight_has.2.2.1 6 = .ok (.getfield 16, 3) := by decide +kernel
theorem d_Sight_has_9 : decode zm_Sight_has.2.2.1 9 = .ok (.if_icmp .ge 7, 3) := by decide +kernel
theorem d_Sight_has_12 : decode zm_Sight_has.2.2.1 12 = .ok (.iconst 1, 1) := by decide +kernel
theorem d_Sight_has_13 : decode zm_Sight_has.2.2.1 13 = .ok (.goto 4, 3) := by decide +kernel
theorem d_Sight_has_16 : decode zm_Sight_has.2.2.1 16 = .ok (.iconst 0, 1) := by decide +kernel
theorem d_Sight_has_17 : decode zm_Sight_has.2.2.1 17 = .ok (.ireturn, 1) := by decide +kernel
theorem d_Sight_get_0 : decode zm_Sight_get.2.2.1 0 = .ok (.aload_n 0, 1) := by decide +kernel
theorem d_Sight_get_1 : decode zm_Sight_get.2.2.1 1 = .ok (.iload_n 1, 1) := by decide +kernel
theorem d_Sight_get_2 : decode zm_Sight_get.2.2.1 2 = .ok (.invokevirtual 23, 3) := by decide +kernel
theorem d_Sight_get_5 : decode zm_Sight_get.2.2.1 5 = .ok (.ifCond .eq 23, 3) := by decide +kernel
theorem d_Sight_get_8 : decode zm_Sight_get.2.2.1 8 = .ok (.iload_n 2, 1) := by decide +kernel
theorem d_Sight_get_9 : decode zm_Sight_get.2.2.1 9 = .ok (.ifCond .lt 19, 3) := by decide +kernel
theorem d_Sight_get_12 : decode zm_Sight_get.2.2.1 12 = .ok (.iload_n 2, 1) := by decide +kernel
theorem d_Sight_get_13 : decode zm_Sight_get.2.2.1 13 = .ok (.iconst 4, 1) := by decide +kernel
theorem d_Sight_get_14 : decode zm_Sight_get.2.2.1 14 = .ok (.if_icmp .ge 14, 3) := by decide +kernel
theorem d_Sight_get_17 : decode zm_Sight_get.2.2.1 17 = .ok (.aload_n 0, 1) := by decide +kernel
theorem d_Sight_get_18 : decode zm_Sight_get.2.2.1 18 = .ok (.getfield 11, 3) := by decide +kernel
theorem d_Sight_get_21 : decode zm_Sight_get.2.2.1 21 = .ok (.iload_n 1, 1) := by decide +kernel
theorem d_Sight_get_22 : decode zm_Sight_get.2.2.1 22 = .ok (.aaload, 1) := by decide +kernel
theorem d_Sight_get_23 : decode zm_Sight_get.2.2.1 23 = .ok (.iload_n 2, 1) := by decide +kernel
theorem d_Sight_get_24 : decode zm_Sight_get.2.2.1 24 = .ok (.iaload, 1) := by decide +kernel
theorem d_Sight_get_25 : decode zm_Sight_get.2.2.1 25 = .ok (.goto 4, 3) := by decide +kernel
theorem d_Sight_get_28 : decode zm_Sight_get.2.2.1 28 = .ok (.iconst (-1), 1) := by decide +kernel
theorem d_Sight_get_29 : decode zm_Sight_get.2.2.1 29 = .ok (.ireturn, 1) := by decide +kernel
theorem d_Sight_clash_0 : decode zm_Sight_clash.2.2.1 0 = .ok (.iconst 0, 1) := by decide +kernel
theorem d_Sight_clash_1 : decode zm_Sight_clash.2.2.1 1 = .ok (.istore 4, 2) := by decide +kernel
theorem d_Sight_clash_3 : decode zm_Sight_clash.2.2.1 3 = .ok (.iload 4, 2) := by decide +kernel
theorem d_Sight_clash_5 : decode zm_Sight_clash.2.2.1 5 = .ok (.aload_n 0, 1) := by decide +kernel
theorem d_Sight_clash_6 : decode zm_Sight_clash.2.2.1 6 = .ok (.getfield 16, 3) := by decide +kernel
theorem d_Sight_clash_9 : decode zm_Sight_clash.2.2.1 9 = .ok (.if_icmp .ge 50, 3) := by decide +kernel
theorem d_Sight_clash_12 : decode zm_Sight_clash.2.2.1 12 = .ok (.aload_n 0, 1) := by decide +kernel
theorem d_Sight_clash_13 : decode zm_Sight_clash.2.2.1 13 = .ok (.getfield 11, 3) := by decide +kernel
theorem d_Sight_clash_16 : decode zm_Sight_clash.2.2.1 16 = .ok (.iload 4, 2) := by decide +kernel
theorem d_Sight_clash_18 : decode zm_Sight_clash.2.2.1 18 = .ok (.aaload, 1) := by decide +kernel
theorem d_Sight_clash_19 : decode zm_Sight_clash.2.2.1 19 = .ok (.iconst 1, 1) := by decide +kernel
theorem d_Sight_clash_20 : decode zm_Sight_clash.2.2.1 20 = .ok (.iaload, 1) := by decide +kernel
theorem d_Sight_clash_21 : decode zm_Sight_clash.2.2.1 21 = .ok (.iload_n 2, 1) := by decide +kernel
theorem d_Sight_clash_22 : decode zm_Sight_clash.2.2.1 22 = .ok (.if_icmp .ne 31, 3) := by decide +kernel
theorem d_Sight_clash_25 : decode zm_Sight_clash.2.2.1 25 = .ok (.aload_n 0, 1) := by decide +kernel
theorem d_Sight_clash_26 : decode zm_Sight_clash.2.2.1 26 = .ok (.getfield 11, 3) := by decide +kernel
theorem d_Sight_clash_29 : decode zm_Sight_clash.2.2.1 29 = .ok (.iload 4, 2) := by decide +kernel
theorem d_Sight_clash_31 : decode zm_Sight_clash.2.2.1 31 = .ok (.aaload, 1) := by decide +kernel
theorem d_Sight_clash_32 : decode zm_Sight_clash.2.2.1 32 = .ok (.iconst 0, 1) := by decide +kernel
theorem d_Sight_clash_33 : decode zm_Sight_clash.2.2.1 33 = .ok (.iaload, 1) := by decide +kernel
theorem d_Sight_clash_34 : decode zm_Sight_clash.2.2.1 34 = .ok (.iload_n 1, 1) := by decide +kernel
theorem d_Sight_clash_35 : decode zm_Sight_clash.2.2.1 35 = .ok (.if_icmp .eq 16, 3) := by decide +kernel
theorem d_Sight_clash_38 : decode zm_Sight_clash.2.2.1 38 = .ok (.aload_n 0, 1) := by decide +kernel
theorem d_Sight_clash_39 : decode zm_Sight_clash.2.2.1 39 = .ok (.getfield 11, 3) := by decide +kernel
theorem d_Sight_clash_42 : decode zm_Sight_clash.2.2.1 42 = .ok (.iload 4, 2) := by decide +kernel
theorem d_Sight_clash_44 : decode zm_Sight_clash.2.2.1 44 = .ok (.aaload, 1) := by decide +kernel
theorem d_Sight_clash_45 : decode zm_Sight_clash.2.2.1 45 = .ok (.iconst 2, 1) := by decide +kernel
theorem d_Sight_clash_46 : decode zm_Sight_clash.2.2.1 46 = .ok (.iaload, 1) := by decide +kernel
theorem d_Sight_clash_47 : decode zm_Sight_clash.2.2.1 47 = .ok (.iload_n 3, 1) := by decide +kernel
theorem d_Sight_clash_48 : decode zm_Sight_clash.2.2.1 48 = .ok (.if_icmp .ne 5, 3) := by decide +kernel
theorem d_Sight_clash_51 : decode zm_Sight_clash.2.2.1 51 = .ok (.iconst 1, 1) := by decide +kernel
theorem d_Sight_clash_52 : decode zm_Sight_clash.2.2.1 52 = .ok (.ireturn, 1) := by decide +kernel
theorem d_Sight_clash_53 : decode zm_Sight_clash.2.2.1 53 = .ok (.iinc 4 1, 3) := by decide +kernel
theorem d_Sight_clash_56 : decode zm_Sight_clash.2.2.1 56 = .ok (.goto (-53), 3) := by decide +kernel
theorem d_Sight_clash_59 : decode zm_Sight_clash.2.2.1 59 = .ok (.iconst 0, 1) := by decide +kernel
theorem d_Sight_clash_60 : decode zm_Sight_clash.2.2.1 60 = .ok (.ireturn, 1) := by decide +kernel
theorem d_Sight_add_0 : decode zm_Sight_add.2.2.1 0 = .ok (.aload_n 0, 1) := by decide +kernel
theorem d_Sight_add_1 : decode zm_Sight_add.2.2.1 1 = .ok (.getfield 16, 3) := by decide +kernel
theorem d_Sight_add_4 : decode zm_Sight_add.2.2.1 4 = .ok (.bipush 12, 2) := by decide +kernel
theorem d_Sight_add_6 : decode zm_Sight_add.2.2.1 6 = .ok (.if_icmp .lt 4, 3) := by decide +kernel
theorem d_Sight_add_9 : decode zm_Sight_add.2.2.1 9 = .ok (.return_, 1) := by decide +kernel
theorem d_Sight_add_10 : decode zm_Sight_add.2.2.1 10 = .ok (.aload_n 0, 1) := by decide +kernel
theorem d_Sight_add_11 : decode zm_Sight_add.2.2.1 11 = .ok (.getfield 11, 3) := by decide +kernel
theorem d_Sight_add_14 : decode zm_Sight_add.2.2.1 14 = .ok (.aload_n 0, 1) := by decide +kernel
theorem d_Sight_add_15 : decode zm_Sight_add.2.2.1 15 = .ok (.getfield 16, 3) := by decide +kernel
theorem d_Sight_add_18 : decode zm_Sight_add.2.2.1 18 = .ok (.aaload, 1) := by decide +kernel
theorem d_Sight_add_19 : decode zm_Sight_add.2.2.1 19 = .ok (.iconst 0, 1) := by decide +kernel
theorem d_Sight_add_20 : decode zm_Sight_add.2.2.1 20 = .ok (.iload_n 1, 1) := by decide +kernel
theorem d_Sight_add_21 : decode zm_Sight_add.2.2.1 21 = .ok (.iastore, 1) := by decide +kernel
theorem d_Sight_add_22 : decode zm_Sight_add.2.2.1 22 = .ok (.aload_n 0, 1) := by decide +kernel
theorem d_Sight_add_23 : decode zm_Sight_add.2.2.1 23 = .ok (.getfield 11, 3) := by decide +kernel
theorem d_Sight_add_26 : decode zm_Sight_add.2.2.1 26 = .ok (.aload_n 0, 1) := by decide +kernel
theorem d_Sight_add_27 : decode zm_Sight_add.2.2.1 27 = .ok (.getfield 16, 3) := by decide +kernel
theorem d_Sight_add_30 : decode zm_Sight_add.2.2.1 30 = .ok (.aaload, 1) := by decide +kernel
theorem d_Sight_add_31 : decode zm_Sight_add.2.2.1 31 = .ok (.iconst 1, 1) := by decide +kernel
theorem d_Sight_add_32 : decode zm_Sight_add.2.2.1 32 = .ok (.iload_n 2, 1) := by decide +kernel
theorem d_Sight_add_33 : decode zm_Sight_add.2.2.1 33 = .ok (.iastore, 1) := by decide +kernel
theorem d_Sight_add_34 : decode zm_Sight_add.2.2.1 34 = .ok (.aload_n 0, 1) := by decide +kernel
theorem d_Sight_add_35 : decode zm_Sight_add.2.2.1 35 = .ok (.getfield 11, 3) := by decide +kernel
theorem d_Sight_add_38 : decode zm_Sight_add.2.2.1 38 = .ok (.aload_n 0, 1) := by decide +kernel
theorem d_Sight_add_39 : decode zm_Sight_add.2.2.1 39 = .ok (.getfield 16, 3) := by decide +kernel
theorem d_Sight_add_42 : decode zm_Sight_add.2.2.1 42 = .ok (.aaload, 1) := by decide +kernel
theorem d_Sight_add_43 : decode zm_Sight_add.2.2.1 43 = .ok (.iconst 2, 1) := by decide +kernel
theorem d_Sight_add_44 : decode zm_Sight_add.2.2.1 44 = .ok (.iload_n 3, 1) := by decide +kernel
theorem d_Sight_add_45 : decode zm_Sight_add.2.2.1 45 = .ok (.iastore, 1) := by decide +kernel
theorem d_Sight_add_46 : decode zm_Sight_add.2.2.1 46 = .ok (.aload_n 0, 1) := by decide +kernel
theorem d_Sight_add_47 : decode zm_Sight_add.2.2.1 47 = .ok (.getfield 11, 3) := by decide +kernel
theorem d_Sight_add_50 : decode zm_Sight_add.2.2.1 50 = .ok (.aload_n 0, 1) := by decide +kernel
theorem d_Sight_add_51 : decode zm_Sight_add.2.2.1 51 = .ok (.getfield 16, 3) := by decide +kernel
theorem d_Sight_add_54 : decode zm_Sight_add.2.2.1 54 = .ok (.aaload, 1) := by decide +kernel
theorem d_Sight_add_55 : decode zm_Sight_add.2.2.1 55 = .ok (.iconst 3, 1) := by decide +kernel
theorem d_Sight_add_56 : decode zm_Sight_add.2.2.1 56 = .ok (.iload 4, 2) := by decide +kernel
theorem d_Sight_add_58 : decode zm_Sight_add.2.2.1 58 = .ok (.iastore, 1) := by decide +kernel
theorem d_Sight_add_59 : decode zm_Sight_add.2.2.1 59 = .ok (.aload_n 0, 1) := by decide +kernel
theorem d_Sight_add_60 : decode zm_Sight_add.2.2.1 60 = .ok (.dup, 1) := by decide +kernel
theorem d_Sight_add_61 : decode zm_Sight_add.2.2.1 61 = .ok (.getfield 16, 3) := by decide +kernel
theorem d_Sight_add_64 : decode zm_Sight_add.2.2.1 64 = .ok (.iconst 1, 1) := by decide +kernel
theorem d_Sight_add_65 : decode zm_Sight_add.2.2.1 65 = .ok (.iadd, 1) := by decide +kernel
theorem d_Sight_add_66 : decode zm_Sight_add.2.2.1 66 = .ok (.putfield 16, 3) := by decide +kernel
theorem d_Sight_add_69 : decode zm_Sight_add.2.2.1 69 = .ok (.aload_n 0, 1) := by decide +kernel
theorem d_Sight_add_70 : decode zm_Sight_add.2.2.1 70 = .ok (.dup, 1) := by decide +kernel
theorem d_Sight_add_71 : decode zm_Sight_add.2.2.1 71 = .ok (.getfield 20, 3) := by decide +kernel
theorem d_Sight_add_74 : decode zm_Sight_add.2.2.1 74 = .ok (.iconst 1, 1) := by decide +kernel
theorem d_Sight_add_75 : decode zm_Sight_add.2.2.1 75 = .ok (.iadd, 1) := by decide +kernel
theorem d_Sight_add_76 : decode zm_Sight_add.2.2.1 76 = .ok (.putfield 20, 3) := by decide +kernel
theorem d_Sight_add_79 : decode zm_Sight_add.2.2.1 79 = .ok (.return_, 1) := by decide +kernel
theorem d_Sight_remove_0 : decode zm_Sight_remove.2.2.1 0 = .ok (.aload_n 0, 1) := by decide +kernel
theorem d_Sight_remove_1 : decode zm_Sight_remove.2.2.1 1 = .ok (.iload_n 1, 1) := by decide +kernel
theorem d_Sight_remove_2 : decode zm_Sight_remove.2.2.1 2 = .ok (.invokevirtual 23, 3) := by decide +kernel
theorem d_Sight_remove_5 : decode zm_Sight_remove.2.2.1 5 = .ok (.ifCond .ne 4, 3) := by decide +kernel
theorem d_Sight_remove_8 : decode zm_Sight_remove.2.2.1 8 = .ok (.return_, 1) := by decide +kernel
theorem d_Sight_remove_9 : decode zm_Sight_remove.2.2.1 9 = .ok (.iload_n 1, 1) := by decide +kernel
theorem d_Sight_remove_10 : decode zm_Sight_remove.2.2.1 10 = .ok (.istore_n 2, 1) := by decide +kernel
theorem d_Sight_remove_11 : decode zm_Sight_remove.2.2.1 11 = .ok (.iload_n 2, 1) := by decide +kernel
theorem d_Sight_remove_12 : decode zm_Sight_remove.2.2.1 12 = .ok (.iconst 1, 1) := by decide +kernel
theorem d_Sight_remove_13 : decode zm_Sight_remove.2.2.1 13 = .ok (.iadd, 1) := by decide +kernel
theorem d_Sight_remove_14 : decode zm_Sight_remove.2.2.1 14 = .ok (.aload_n 0, 1) := by decide +kernel
theorem d_Sight_remove_15 : decode zm_Sight_remove.2.2.1 15 = .ok (.getfield 16, 3) := by decide +kernel
theorem d_Sight_remove_18 : decode zm_Sight_remove.2.2.1 18 = .ok (.if_icmp .ge 40, 3) := by decide +kernel
theorem d_Sight_remove_21 : decode zm_Sight_remove.2.2.1 21 = .ok (.iconst 0, 1) := by decide +kernel
theorem d_Sight_remove_22 : decode zm_Sight_remove.2.2.1 22 = .ok (.istore_n 3, 1) := by decide +kernel
theorem d_Sight_remove_23 : decode zm_Sight_remove.2.2.1 23 = .ok (.iload_n 3, 1) := by decide +kernel
theorem d_Sight_remove_24 : decode zm_Sight_remove.2.2.1 24 = .ok (.iconst 4, 1) := by decide +kernel
theorem d_Sight_remove_25 : decode zm_Sight_remove.2.2.1 25 = .ok (.if_icmp .ge 27, 3) := by decide +kernel
theorem d_Sight_remove_28 : decode zm_Sight_remove.2.2.1 28 = .ok (.aload_n 0, 1) := by decide +kernel
theorem d_Sight_remove_29 : decode zm_Sight_remove.2.2.1 29 = .ok (.getfield 11, 3) := by decide +kernel
theorem d_Sight_remove_32 : decode zm_Sight_remove.2.2.1 32 = .ok (.iload_n 2, 1) := by decide +kernel
theorem d_Sight_remove_33 : decode zm_Sight_remove.2.2.1 33 = .ok (.aaload, 1) := by decide +kernel
theorem d_Sight_remove_34 : decode zm_Sight_remove.2.2.1 34 = .ok (.iload_n 3, 1) := by decide +kernel
theorem d_Sight_remove_35 : decode zm_Sight_remove.2.2.1 35 = .ok (.aload_n 0, 1) := by decide +kernel
theorem d_Sight_remove_36 : decode zm_Sight_remove.2.2.1 36 = .ok (.getfield 11, 3) := by decide +kernel
theorem d_Sight_remove_39 : decode zm_Sight_remove.2.2.1 39 = .ok (.iload_n 2, 1) := by decide +kernel
theorem d_Sight_remove_40 : decode zm_Sight_remove.2.2.1 40 = .ok (.iconst 1, 1) := by decide +kernel
theorem d_Sight_remove_41 : decode zm_Sight_remove.2.2.1 41 = .ok (.iadd, 1) := by decide +kernel
theorem d_Sight_remove_42 : decode zm_Sight_remove.2.2.1 42 = .ok (.aaload, 1) := by decide +kernel
theorem d_Sight_remove_43 : decode zm_Sight_remove.2.2.1 43 = .ok (.iload_n 3, 1) := by decide +kernel
theorem d_Sight_remove_44 : decode zm_Sight_remove.2.2.1 44 = .ok (.iaload, 1) := by decide +kernel
theorem d_Sight_remove_45 : decode zm_Sight_remove.2.2.1 45 = .ok (.iastore, 1) := by decide +kernel
theorem d_Sight_remove_46 : decode zm_Sight_remove.2.2.1 46 = .ok (.iinc 3 1, 3) := by decide +kernel
theorem d_Sight_remove_49 : decode zm_Sight_remove.2.2.1 49 = .ok (.goto (-26), 3) := by decide +kernel
theorem d_Sight_remove_52 : decode zm_Sight_remove.2.2.1 52 = .ok (.iinc 2 1, 3) := by decide +kernel
theorem d_Sight_remove_55 : decode zm_Sight_remove.2.2.1 55 = .ok (.goto (-44), 3) := by decide +kernel
theorem d_Sight_remove_58 : decode zm_Sight_remove.2.2.1 58 = .ok (.aload_n 0, 1) := by decide +kernel
theorem d_Sight_remove_59 : decode zm_Sight_remove.2.2.1 59 = .ok (.dup, 1) := by decide +kernel
theorem d_Sight_remove_60 : decode zm_Sight_remove.2.2.1 60 = .ok (.getfield 16, 3) := by decide +kernel
theorem d_Sight_remove_63 : decode zm_Sight_remove.2.2.1 63 = .ok (.iconst 1, 1) := by decide +kernel
theorem d_Sight_remove_64 : decode zm_Sight_remove.2.2.1 64 = .ok (.isub, 1) := by decide +kernel
theorem d_Sight_remove_65 : decode zm_Sight_remove.2.2.1 65 = .ok (.putfield 16, 3) := by decide +kernel
theorem d_Sight_remove_68 : decode zm_Sight_remove.2.2.1 68 = .ok (.aload_n 0, 1) := by decide +kernel
theorem d_Sight_remove_69 : decode zm_Sight_remove.2.2.1 69 = .ok (.dup, 1) := by decide +kernel
theorem d_Sight_remove_70 : decode zm_Sight_remove.2.2.1 70 = .ok (.getfield 20, 3) := by decide +kernel
theorem d_Sight_remove_73 : decode zm_Sight_remove.2.2.1 73 = .ok (.iconst 1, 1) := by decide +kernel
theorem d_Sight_remove_74 : decode zm_Sight_remove.2.2.1 74 = .ok (.iadd, 1) := by decide +kernel
theorem d_Sight_remove_75 : decode zm_Sight_remove.2.2.1 75 = .ok (.putfield 20, 3) := by decide +kernel
theorem d_Sight_remove_78 : decode zm_Sight_remove.2.2.1 78 = .ok (.return_, 1) := by decide +kernel
theorem d_Sight_isLessWorn_0 : decode zm_Sight_isLessWorn.2.2.1 0 = .ok (.aload_n 0, 1) := by decide +kernel
theorem d_Sight_isLessWorn_1 : decode zm_Sight_isLessWorn.2.2.1 1 = .ok (.iload_n 1, 1) := by decide +kernel
theorem d_Sight_isLessWorn_2 : decode zm_Sight_isLessWorn.2.2.1 2 = .ok (.invokevirtual 23, 3) := by decide +kernel
theorem d_Sight_isLessWorn_5 : decode zm_Sight_isLessWorn.2.2.1 5 = .ok (.ifCond .eq 11, 3) := by decide +kernel
theorem d_Sight_isLessWorn_8 : decode zm_Sight_isLessWorn.2.2.1 8 = .ok (.aload_n 0, 1) := by decide +kernel
theorem d_Sight_isLessWorn_9 : decode zm_Sight_isLessWorn.2.2.1 9 = .ok (.iload_n 2, 1) := by decide +kernel
theorem d_Sight_isLessWorn_10 : decode zm_Sight_isLessWorn.2.2.1 10 = .ok (.invokevirtual 23, 3) := by decide +kernel
theorem d_Sight_isLessWorn_13 : decode zm_Sight_isLessWorn.2.2.1 13 = .ok (.ifCond .ne 5, 3) := by decide +kernel
theorem d_Sight_isLessWorn_16 : decode zm_Sight_isLessWorn.2.2.1 16 = .ok (.iconst 0, 1) := by decide +kernel
theorem d_Sight_isLessWorn_17 : decode zm_Sight_isLessWorn.2.2.1 17 = .ok (.ireturn, 1) := by decide +kernel
theorem d_Sight_isLessWorn_18 : decode zm_Sight_isLessWorn.2.2.1 18 = .ok (.aload_n 0, 1) := by decide +kernel
theorem d_Sight_isLessWorn_19 : decode zm_Sight_isLessWorn.2.2.1 19 = .ok (.getfield 11, 3) := by decide +kernel
theorem d_Sight_isLessWorn_22 : decode zm_Sight_isLessWorn.2.2.1 22 = .ok (.iload_n 1, 1) := by decide +kernel
theorem d_Sight_isLessWorn_23 : decode zm_Sight_isLessWorn.2.2.1 23 = .ok (.aaload, 1) := by decide +kernel
theorem d_Sight_isLessWorn_24 : decode zm_Sight_isLessWorn.2.2.1 24 = .ok (.iconst 0, 1) := by decide +kernel
theorem d_Sight_isLessWorn_25 : decode zm_Sight_isLessWorn.2.2.1 25 = .ok (.iaload, 1) := by decide +kernel
theorem d_Sight_isLessWorn_26 : decode zm_Sight_isLessWorn.2.2.1 26 = .ok (.aload_n 0, 1) := by decide +kernel
theorem d_Sight_isLessWorn_27 : decode zm_Sight_isLessWorn.2.2.1 27 = .ok (.getfield 11, 3) := by decide +kernel
theorem d_Sight_isLessWorn_30 : decode zm_Sight_isLessWorn.2.2.1 30 = .ok (.iload_n 2, 1) := by decide +kernel
theorem d_Sight_isLessWorn_31 : decode zm_Sight_isLessWorn.2.2.1 31 = .ok (.aaload, 1) := by decide +kernel
theorem d_Sight_isLessWorn_32 : decode zm_Sight_isLessWorn.2.2.1 32 = .ok (.iconst 0, 1) := by decide +kernel
theorem d_Sight_isLessWorn_33 : decode zm_Sight_isLessWorn.2.2.1 33 = .ok (.iaload, 1) := by decide +kernel
theorem d_Sight_isLessWorn_34 : decode zm_Sight_isLessWorn.2.2.1 34 = .ok (.if_icmp .ne 26, 3) := by decide +kernel
theorem d_Sight_isLessWorn_37 : decode zm_Sight_isLessWorn.2.2.1 37 = .ok (.aload_n 0, 1) := by decide +kernel
theorem d_Sight_isLessWorn_38 : decode zm_Sight_isLessWorn.2.2.1 38 = .ok (.getfield 11, 3) := by decide +kernel
theorem d_Sight_isLessWorn_41 : decode zm_Sight_isLessWorn.2.2.1 41 = .ok (.iload_n 1, 1) := by decide +kernel
theorem d_Sight_isLessWorn_42 : decode zm_Sight_isLessWorn.2.2.1 42 = .ok (.aaload, 1) := by decide +kernel
theorem d_Sight_isLessWorn_43 : decode zm_Sight_isLessWorn.2.2.1 43 = .ok (.iconst 3, 1) := by decide +kernel
theorem d_Sight_isLessWorn_44 : decode zm_Sight_isLessWorn.2.2.1 44 = .ok (.iaload, 1) := by decide +kernel
theorem d_Sight_isLessWorn_45 : decode zm_Sight_isLessWorn.2.2.1 45 = .ok (.aload_n 0, 1) := by decide +kernel
theorem d_Sight_isLessWorn_46 : decode zm_Sight_isLessWorn.2.2.1 46 = .ok (.getfield 11, 3) := by decide +kernel
theorem d_Sight_isLessWorn_49 : decode zm_Sight_isLessWorn.2.2.1 49 = .ok (.iload_n 2, 1) := by decide +kernel
theorem d_Sight_isLessWorn_50 : decode zm_Sight_isLessWorn.2.2.1 50 = .ok (.aaload, 1) := by decide +kernel
theorem d_Sight_isLessWorn_51 : decode zm_Sight_isLessWorn.2.2.1 51 = .ok (.iconst 3, 1) := by decide +kernel
theorem d_Sight_isLessWorn_52 : decode zm_Sight_isLessWorn.2.2.1 52 = .ok (.iaload, 1) := by decide +kernel
theorem d_Sight_isLessWorn_53 : decode zm_Sight_isLessWorn.2.2.1 53 = .ok (.if_icmp .ge 7, 3) := by decide +kernel
theorem d_Sight_isLessWorn_56 : decode zm_Sight_isLessWorn.2.2.1 56 = .ok (.iconst 1, 1) := by decide +kernel
theorem d_Sight_isLessWorn_57 : decode zm_Sight_isLessWorn.2.2.1 57 = .ok (.goto 4, 3) := by decide +kernel
theorem d_Sight_isLessWorn_60 : decode zm_Sight_isLessWorn.2.2.1 60 = .ok (.iconst 0, 1) := by decide +kernel
theorem d_Sight_isLessWorn_61 : decode zm_Sight_isLessWorn.2.2.1 61 = .ok (.ireturn, 1) := by decide +kernel
theorem d_Chrono_build_0 : decode zm_Chrono_build.2.2.1 0 = .ok (.aload_n 0, 1) := by decide +kernel
theorem d_Chrono_build_1 : decode zm_Chrono_build.2.2.1 1 = .ok (.getfield 34, 3) := by decide +kernel
theorem d_Chrono_build_4 : decode zm_Chrono_build.2.2.1 4 = .ok (.aload_n 1, 1) := by decide +kernel
theorem d_Chrono_build_5 : decode zm_Chrono_build.2.2.1 5 = .ok (.invokevirtual 37, 3) := by decide +kernel
theorem d_Chrono_build_8 : decode zm_Chrono_build.2.2.1 8 = .ok (.if_icmp .ne 4, 3) := by decide +kernel
theorem d_Chrono_build_11 : decode zm_Chrono_build.2.2.1 11 = .ok (.return_, 1) := by decide +kernel
theorem d_Chrono_build_12 : decode zm_Chrono_build.2.2.1 12 = .ok (.aload_n 0, 1) := by decide +kernel
theorem d_Chrono_build_13 : decode zm_Chrono_build.2.2.1 13 = .ok (.aload_n 1, 1) := by decide +kernel
theorem d_Chrono_build_14 : decode zm_Chrono_build.2.2.1 14 = .ok (.invokevirtual 37, 3) := by decide +kernel
theorem d_Chrono_build_17 : decode zm_Chrono_build.2.2.1 17 = .ok (.putfield 34, 3) := by decide +kernel
theorem d_Chrono_build_20 : decode zm_Chrono_build.2.2.1 20 = .ok (.iconst 0, 1) := by decide +kernel
theorem d_Chrono_build_21 : decode zm_Chrono_build.2.2.1 21 = .ok (.istore_n 2, 1) := by decide +kernel
theorem d_Chrono_build_22 : decode zm_Chrono_build.2.2.1 22 = .ok (.iload_n 2, 1) := by decide +kernel
theorem d_Chrono_build_23 : decode zm_Chrono_build.2.2.1 23 = .ok (.bipush 6, 2) := by decide +kernel
theorem d_Chrono_build_25 : decode zm_Chrono_build.2.2.1 25 = .ok (.if_icmp .ge 23, 3) := by decide +kernel
theorem d_Chrono_build_28 : decode zm_Chrono_build.2.2.1 28 = .ok (.aload_n 0, 1) := by decide +kernel
theorem d_Chrono_build_29 : decode zm_Chrono_build.2.2.1 29 = .ok (.getfield 9, 3) := by decide +kernel
theorem d_Chrono_build_32 : decode zm_Chrono_build.2.2.1 32 = .ok (.iload_n 2, 1) := by decide +kernel
theorem d_Chrono_build_33 : decode zm_Chrono_build.2.2.1 33 = .ok (.iconst 0, 1) := by decide +kernel
theorem d_Chrono_build_34 : decode zm_Chrono_build.2.2.1 34 = .ok (.iastore, 1) := by decide +kernel
theorem d_Chrono_build_35 : decode zm_Chrono_build.2.2.1 35 = .ok (.aload_n 0, 1) := by decide +kernel
theorem d_Chrono_build_36 : decode zm_Chrono_build.2.2.1 36 = .ok (.getfield 18, 3) := by decide +kernel
theorem d_Chrono_build_39 : decode zm_Chrono_build.2.2.1 39 = .ok (.iload_n 2, 1) := by decide +kernel
theorem d_Chrono_build_40 : decode zm_Chrono_build.2.2.1 40 = .ok (.iconst 0, 1) := by decide +kernel
theorem d_Chrono_build_41 : decode zm_Chrono_build.2.2.1 41 = .ok (.iastore, 1) := by decide +kernel
theorem d_Chrono_build_42 : decode zm_Chrono_build.2.2.1 42 = .ok (.iinc 2 1, 3) := by decide +kernel
theorem d_Chrono_build_45 : decode zm_Chrono_build.2.2.1 45 = .ok (.goto (-23), 3) := by decide +kernel
theorem d_Chrono_build_48 : decode zm_Chrono_build.2.2.1 48 = .ok (.aload_n 0, 1) := by decide +kernel
theorem d_Chrono_build_49 : decode zm_Chrono_build.2.2.1 49 = .ok (.iconst 0, 1) := by decide +kernel
theorem d_Chrono_build_50 : decode zm_Chrono_build.2.2.1 50 = .ok (.putfield 27, 3) := by decide +kernel
theorem d_Chrono_build_53 : decode zm_Chrono_build.2.2.1 53 = .ok (.iconst 0, 1) := by decide +kernel
theorem d_Chrono_build_54 : decode zm_Chrono_build.2.2.1 54 = .ok (.istore_n 2, 1) := by decide +kernel
theorem d_Chrono_build_55 : decode zm_Chrono_build.2.2.1 55 = .ok (.iload_n 2, 1) := by decide +kernel
theorem d_Chrono_build_56 : decode zm_Chrono_build.2.2.1 56 = .ok (.aload_n 1, 1) := by decide +kernel
theorem d_Chrono_build_57 : decode zm_Chrono_build.2.2.1 57 = .ok (.invokevirtual 43, 3) := by decide +kernel
theorem d_Chrono_build_60 : decode zm_Chrono_build.2.2.1 60 = .ok (.if_icmp .ge 15, 3) := by decide +kernel
theorem d_Chrono_build_63 : decode zm_Chrono_build.2.2.1 63 = .ok (.aload_n 0, 1) := by decide +kernel
theorem d_Chrono_build_64 : decode zm_Chrono_build.2.2.1 64 = .ok (.aload_n 1, 1) := by decide +kernel
theorem d_Chrono_build_65 : decode zm_Chrono_build.2.2.1 65 = .ok (.iload_n 2, 1) := by decide +kernel
theorem d_Chrono_build_66 : decode zm_Chrono_build.2.2.1 66 = .ok (.invokevirtual 46, 3) := by decide +kernel
theorem d_Chrono_build_69 : decode zm_Chrono_build.2.2.1 69 = .ok (.iinc 2 1, 3) := by decide +kernel
theorem d_Chrono_build_72 : decode zm_Chrono_build.2.2.1 72 = .ok (.goto (-17), 3) := by decide +kernel
theorem d_Chrono_build_75 : decode zm_Chrono_build.2.2.1 75 = .ok (.iconst 0, 1) := by decide +kernel
theorem d_Chrono_build_76 : decode zm_Chrono_build.2.2.1 76 = .ok (.istore_n 2, 1) := by decide +kernel
theorem d_Chrono_build_77 : decode zm_Chrono_build.2.2.1 77 = .ok (.iload_n 2, 1) := by decide +kernel
theorem d_Chrono_build_78 : decode zm_Chrono_build.2.2.1 78 = .ok (.bipush 6, 2) := by decide +kernel
theorem d_Chrono_build_80 : decode zm_Chrono_build.2.2.1 80 = .ok (.if_icmp .ge 25, 3) := by decide +kernel
theorem d_Chrono_build_83 : decode zm_Chrono_build.2.2.1 83 = .ok (.aload_n 0, 1) := by decide +kernel
theorem d_Chrono_build_84 : decode zm_Chrono_build.2.2.1 84 = .ok (.getfield 15, 3) := by decide +kernel
theorem d_Chrono_build_87 : decode zm_Chrono_build.2.2.1 87 = .ok (.iload_n 2, 1) := by decide +kernel
theorem d_Chrono_build_88 : decode zm_Chrono_build.2.2.1 88 = .ok (.aload_n 0, 1) := by decide +kernel
theorem d_Chrono_build_89 : decode zm_Chrono_build.2.2.1 89 = .ok (.aload_n 0, 1) := by decide +kernel
theorem d_Chrono_build_90 : decode zm_Chrono_build.2.2.1 90 = .ok (.getfield 9, 3) := by decide +kernel
theorem d_Chrono_build_93 : decode zm_Chrono_build.2.2.1 93 = .ok (.iload_n 2, 1) := by decide +kernel
theorem d_Chrono_build_94 : decode zm_Chrono_build.2.2.1 94 = .ok (.iaload, 1) := by decide +kernel
theorem d_Chrono_build_95 : decode zm_Chrono_build.2.2.1 95 = .ok (.invokevirtual 50, 3) := by decide +kernel
theorem d_Chrono_build_98 : decode zm_Chrono_build.2.2.1 98 = .ok (.iastore, 1) := by decide +kernel
theorem d_Chrono_build_99 : decode zm_Chrono_build.2.2.1 99 = .ok (.iinc 2 1, 3) := by decide +kernel
theorem d_Chrono_build_102 : decode zm_Chrono_build.2.2.1 102 = .ok (.goto (-25), 3) := by decide +kernel
theorem d_Chrono_build_105 : decode zm_Chrono_build.2.2.1 105 = .ok (.aload_n 0, 1) := by decide +kernel
theorem d_Chrono_build_106 : decode zm_Chrono_build.2.2.1 106 = .ok (.invokevirtual 54, 3) := by decide +kernel
theorem d_Chrono_build_109 : decode zm_Chrono_build.2.2.1 109 = .ok (.aload_n 0, 1) := by decide +kernel
theorem d_Chrono_build_110 : decode zm_Chrono_build.2.2.1 110 = .ok (.invokevirtual 57, 3) := by decide +kernel
theorem d_Chrono_build_113 : decode zm_Chrono_build.2.2.1 113 = .ok (.return_, 1) := by decide +kernel
theorem d_Chrono_enter_0 : decode zm_Chrono_enter.2.2.1 0 = .ok (.aload_n 1, 1) := by decide +kernel
theorem d_Chrono_enter_1 : decode zm_Chrono_enter.2.2.1 1 = .ok (.iload_n 2, 1) := by decide +kernel
theorem d_Chrono_enter_2 : decode zm_Chrono_enter.2.2.1 2 = .ok (.iconst 1, 1) := by decide +kernel
theorem d_Chrono_enter_3 : decode zm_Chrono_enter.2.2.1 3 = .ok (.invokevirtual 60, 3) := by decide +kernel
theorem d_Chrono_enter_6 : decode zm_Chrono_enter.2.2.1 6 = .ok (.istore_n 3, 1) := by decide +kernel
theorem d_Chrono_enter_7 : decode zm_Chrono_enter.2.2.1 7 = .ok (.iload_n 3, 1) := by decide +kernel
theorem d_Chrono_enter_8 : decode zm_Chrono_enter.2.2.1 8 = .ok (.ifCond .lt 9, 3) := by decide +kernel
theorem d_Chrono_enter_11 : decode zm_Chrono_enter.2.2.1 11 = .ok (.iload_n 3, 1) := by decide +kernel
theorem d_Chrono_enter_12 : decode zm_Chrono_enter.2.2.1 12 = .ok (.bipush 6, 2) := by decide +kernel
theorem d_Chrono_enter_14 : decode zm_Chrono_enter.2.2.1 14 = .ok (.if_icmp .lt 4, 3) := by decide +kernel
theorem d_Chrono_enter_17 : decode zm_Chrono_enter.2.2.1 17 = .ok (.return_, 1) := by decide +kernel
theorem d_Chrono_enter_18 : decode zm_Chrono_enter.2.2.1 18 = .ok (.aload_n 0, 1) := by decide +kernel
theorem d_Chrono_enter_19 : decode zm_Chrono_enter.2.2.1 19 = .ok (.dup, 1) := by decide +kernel
theorem d_Chrono_enter_20 : decode zm_Chrono_enter.2.2.1 20 = .ok (.getfield 27, 3) := by decide +kernel
theorem d_Chrono_enter_23 : decode zm_Chrono_enter.2.2.1 23 = .ok (.iconst 1, 1) := by decide +kernel
theorem d_Chrono_enter_24 : decode zm_Chrono_enter.2.2.1 24 = .ok (.iload_n 3, 1) := by decide +kernel
theorem d_Chrono_enter_25 : decode zm_Chrono_enter.2.2.1 25 = .ok (.ishl, 1) := by decide +kernel
theorem d_Chrono_enter_26 : decode zm_Chrono_enter.2.2.1 26 = .ok (.ior, 1) := by decide +kernel
theorem d_Chrono_enter_27 : decode zm_Chrono_enter.2.2.1 27 = .ok (.putfield 27, 3) := by decide +kernel
theorem d_Chrono_enter_30 : decode zm_Chrono_enter.2.2.1 30 = .ok (.aload_n 0, 1) := by decide +kernel
theorem d_Chrono_enter_31 : decode zm_Chrono_enter.2.2.1 31 = .ok (.getfield 9, 3) := by decide +kernel
theorem d_Chrono_enter_34 : decode zm_Chrono_enter.2.2.1 34 = .ok (.iload_n 3, 1) := by decide +kernel
theorem d_Chrono_enter_35 : decode zm_Chrono_enter.2.2.1 35 = .ok (.dup2, 1) := by decide +kernel
theorem d_Chrono_enter_36 : decode zm_Chrono_enter.2.2.1 36 = .ok (.iaload, 1) := by decide +kernel
theorem d_Chrono_enter_37 : decode zm_Chrono_enter.2.2.1 37 = .ok (.iconst 1, 1) := by decide +kernel
theorem d_Chrono_enter_38 : decode zm_Chrono_enter.2.2.1 38 = .ok (.aload_n 1, 1) := by decide +kernel
theorem d_Chrono_enter_39 : decode zm_Chrono_enter.2.2.1 39 = .ok (.iload_n 2, 1) := by decide +kernel
theorem d_Chrono_enter_40 : decode zm_Chrono_enter.2.2.1 40 = .ok (.iconst 0, 1) := by decide +kernel
theorem d_Chrono_enter_41 : decode zm_Chrono_enter.2.2.1 41 = .ok (.invokevirtual 60, 3) := by decide +kernel
theorem d_Chrono_enter_44 : decode zm_Chrono_enter.2.2.1 44 = .ok (.ishl, 1) := by decide +kernel
theorem d_Chrono_enter_45 : decode zm_Chrono_enter.2.2.1 45 = .ok (.ior, 1) := by decide +kernel
theorem d_Chrono_enter_46 : decode zm_Chrono_enter.2.2.1 46 = .ok (.iastore, 1) := by decide +kernel
theorem d_Chrono_enter_47 : decode zm_Chrono_enter.2.2.1 47 = .ok (.iconst 0, 1) := by decide +kernel
theorem d_Chrono_enter_48 : decode zm_Chrono_enter.2.2.1 48 = .ok (.istore 4, 2) := by decide +kernel
theorem d_Chrono_enter_50 : decode zm_Chrono_enter.2.2.1 50 = .ok (.iload 4, 2) := by decide +kernel
theorem d_Chrono_enter_52 : decode zm_Chrono_enter.2.2.1 52 = .ok (.aload_n 1, 1) := by decide +kernel
theorem d_Chrono_enter_53 : decode zm_Chrono_enter.2.2.1 53 = .ok (.invokevirtual 43, 3) := by decide +kernel
theorem d_Chrono_enter_56 : decode zm_Chrono_enter.2.2.1 56 = .ok (.if_icmp .ge 37, 3) := by decide +kernel
theorem d_Chrono_enter_59 : decode zm_Chrono_enter.2.2.1 59 = .ok (.aload_n 1, 1) := by decide +kernel
theorem d_Chrono_enter_60 : decode zm_Chrono_enter.2.2.1 60 = .ok (.iload_n 2, 1) := by decide +kernel
theorem d_Chrono_enter_61 : decode zm_Chrono_enter.2.2.1 61 = .ok (.iload 4, 2) := by decide +kernel
theorem d_Chrono_enter_63 : decode zm_Chrono_enter.2.2.1 63 = .ok (.invokevirtual 64, 3) := by decide +kernel
theorem d_Chrono_enter_66 : decode zm_Chrono_enter.2.2.1 66 = .ok (.ifCond .eq 21, 3) := by decide +kernel
theorem d_Chrono_enter_69 : decode zm_Chrono_enter.2.2.1 69 = .ok (.aload_n 0, 1) := by decide +kernel
theorem d_Chrono_enter_70 : decode zm_Chrono_enter.2.2.1 70 = .ok (.getfield 18, 3) := by decide +kernel
theorem d_Chrono_enter_73 : decode zm_Chrono_enter.2.2.1 73 = .ok (.iload_n 3, 1) := by decide +kernel
theorem d_Chrono_enter_74 : decode zm_Chrono_enter.2.2.1 74 = .ok (.dup2, 1) := by decide +kernel
theorem d_Chrono_enter_75 : decode zm_Chrono_enter.2.2.1 75 = .ok (.iaload, 1) := by decide +kernel
theorem d_Chrono_enter_76 : decode zm_Chrono_enter.2.2.1 76 = .ok (.iconst 1, 1) := by decide +kernel
theorem d_Chrono_enter_77 : decode zm_Chrono_enter.2.2.1 77 = .ok (.aload_n 1, 1) := by decide +kernel
theorem d_Chrono_enter_78 : decode zm_Chrono_enter.2.2.1 78 = .ok (.iload 4, 2) := by decide +kernel
theorem d_Chrono_enter_80 : decode zm_Chrono_enter.2.2.1 80 = .ok (.iconst 1, 1) := by decide +kernel
theorem d_Chrono_enter_81 : decode zm_Chrono_enter.2.2.1 81 = .ok (.invokevirtual 60, 3) := by decide +kernel
theorem d_Chrono_enter_84 : decode zm_Chrono_enter.2.2.1 84 = .ok (.ishl, 1) := by decide +kernel
theorem d_Chrono_enter_85 : decode zm_Chrono_enter.2.2.1 85 = .ok (.ior, 1) := by decide +kernel
theorem d_Chrono_enter_86 : decode zm_Chrono_enter.2.2.1 86 = .ok (.iastore, 1) := by decide +kernel
theorem d_Chrono_enter_87 : decode zm_Chrono_enter.2.2.1 87 = .ok (.iinc 4 1, 3) := by decide +kernel
theorem d_Chrono_enter_90 : decode zm_Chrono_enter.2.2.1 90 = .ok (.goto (-40), 3) := by decide +kernel
theorem d_Chrono_enter_93 : decode zm_Chrono_enter.2.2.1 93 = .ok (.return_, 1) := by decide +kernel
theorem d_Chrono_findCompanions_0 : decode zm_Chrono_findCompanions.2.2.1 0 = .ok (.iconst 0, 1) := by decide +kernel
theorem d_Chrono_findCompanions_1 : decode zm_Chrono_findCompanions.2.2.1 1 = .ok (.istore_n 2, 1) := by decide +kernel
theorem d_Chrono_findCompanions_2 : decode zm_Chrono_findCompanions.2.2.1 2 = .ok (.iconst 0, 1) := by decide +kernel
theorem d_Chrono_findCompanions_3 : decode zm_Chrono_findCompanions.2.2.1 3 = .ok (.istore_n 3, 1) := by decide +kernel
theorem d_Chrono_findCompanions_4 : decode zm_Chrono_findCompanions.2.2.1 4 = .ok (.iload_n 1, 1) := by decide +kernel
theorem d_Chrono_findCompanions_5 : decode zm_Chrono_findCompanions.2.2.1 5 = .ok (.ifCond .eq 41, 3) := by decide +kernel
theorem d_Chrono_findCompanions_8 : decode zm_Chrono_findCompanions.2.2.1 8 = .ok (.iload_n 3, 1) := by decide +kernel
theorem d_Chrono_findCompanions_9 : decode zm_Chrono_findCompanions.2.2.1 9 = .ok (.bipush 6, 2) := by decide +kernel
theorem d_Chrono_findCompanions_11 : decode zm_Chrono_findCompanions.2.2.1 11 = .ok (.if_icmp .ge 35, 3) := by decide +kernel
theorem d_Chrono_findCompanions_14 : decode zm_Chrono_findCompanions.2.2.1 14 = .ok (.aload_n 0, 1) := by decide +kernel
theorem d_Chrono_findCompanions_15 : decode zm_Chrono_findCompanions.2.2.1 15 = .ok (.getfield 9, 3) := by decide +kernel
theorem d_Chrono_findCompanions_18 : decode zm_Chrono_findCompanions.2.2.1 18 = .ok (.iload_n 3, 1) := by decide +kernel
theorem d_Chrono_findCompanions_19 : decode zm_Chrono_findCompanions.2.2.1 19 = .ok (.iaload, 1) := by decide +kernel
theorem d_Chrono_findCompanions_20 : decode zm_Chrono_findCompanions.2.2.1 20 = .ok (.ifCond .eq 20, 3) := by decide +kernel
theorem d_Chrono_findCompanions_23 : decode zm_Chrono_findCompanions.2.2.1 23 = .ok (.aload_n 0, 1) := by decide +kernel
theorem d_Chrono_findCompanions_24 : decode zm_Chrono_findCompanions.2.2.1 24 = .ok (.getfield 9, 3) := by decide +kernel
theorem d_Chrono_findCompanions_27 : decode zm_Chrono_findCompanions.2.2.1 27 = .ok (.iload_n 3, 1) := by decide +kernel
theorem d_Chrono_findCompanions_28 : decode zm_Chrono_findCompanions.2.2.1 28 = .ok (.iaload, 1) := by decide +kernel
theorem d_Chrono_findCompanions_29 : decode zm_Chrono_findCompanions.2.2.1 29 = .ok (.iload_n 1, 1) := by decide +kernel
theorem d_Chrono_findCompanions_30 : decode zm_Chrono_findCompanions.2.2.1 30 = .ok (.iand, 1) := by decide +kernel
theorem d_Chrono_findCompanions_31 : decode zm_Chrono_findCompanions.2.2.1 31 = .ok (.ifCond .ne 9, 3) := by decide +kernel
theorem d_Chrono_findCompanions_34 : decode zm_Chrono_findCompanions.2.2.1 34 = .ok (.iload_n 2, 1) := by decide +kernel
theorem d_Chrono_findCompanions_35 : decode zm_Chrono_findCompanions.2.2.1 35 = .ok (.iconst 1, 1) := by decide +kernel
theorem d_Chrono_findCompanions_36 : decode zm_Chrono_findCompanions.2.2.1 36 = .ok (.iload_n 3, 1) := by decide +kernel
theorem d_Chrono_findCompanions_37 : decode zm_Chrono_findCompanions.2.2.1 37 = .ok (.ishl, 1) := by decide +kernel
theorem d_Chrono_findCompanions_38 : decode zm_Chrono_findCompanions.2.2.1 38 = .ok (.ior, 1) := by decide +kernel
theorem d_Chrono_findCompanions_39 : decode zm_Chrono_findCompanions.2.2.1 39 = .ok (.istore_n 2, 1) := by decide +kernel
theorem d_Chrono_findCompanions_40 : decode zm_Chrono_findCompanions.2.2.1 40 = .ok (.iinc 3 1, 3) := by decide +kernel
theorem d_Chrono_findCompanions_43 : decode zm_Chrono_findCompanions.2.2.1 43 = .ok (.goto (-39), 3) := by decide +kernel
theorem d_Chrono_findCompanions_46 : decode zm_Chrono_findCompanions.2.2.1 46 = .ok (.iload_n 2, 1) := by decide +kernel
theorem d_Chrono_findCompanions_47 : decode zm_Chrono_findCompanions.2.2.1 47 = .ok (.ireturn, 1) := by decide +kernel
theorem d_Chrono_countOrders_0 : decode zm_Chrono_countOrders.2.2.1 0 = .ok (.aload_n 0, 1) := by decide +kernel
theorem d_Chrono_countOrders_1 : decode zm_Chrono_countOrders.2.2.1 1 = .ok (.getfield 21, 3) := by decide +kernel
theorem d_Chrono_countOrders_4 : decode zm_Chrono_countOrders.2.2.1 4 = .ok (.iconst 0, 1) := by decide +kernel
theorem d_Chrono_countOrders_5 : decode zm_Chrono_countOrders.2.2.1 5 = .ok (.iconst 1, 1) := by decide +kernel
theorem d_Chrono_countOrders_6 : decode zm_Chrono_countOrders.2.2.1 6 = .ok (.iastore, 1) := by decide +kernel
theorem d_Chrono_countOrders_7 : decode zm_Chrono_countOrders.2.2.1 7 = .ok (.iconst 1, 1) := by decide +kernel
theorem d_Chrono_countOrders_8 : decode zm_Chrono_countOrders.2.2.1 8 = .ok (.istore_n 1, 1) := by decide +kernel
theorem d_Chrono_countOrders_9 : decode zm_Chrono_countOrders.2.2.1 9 = .ok (.iload_n 1, 1) := by decide +kernel
theorem d_Chrono_countOrders_10 : decode zm_Chrono_countOrders.2.2.1 10 = .ok (.aload_n 0, 1) := by decide +kernel
theorem d_Chrono_countOrders_11 : decode zm_Chrono_countOrders.2.2.1 11 = .ok (.getfield 21, 3) := by decide +kernel
theorem d_Chrono_countOrders_14 : decode zm_Chrono_countOrders.2.2.1 14 = .ok (.arraylength, 1) := by decide +kernel
theorem d_Chrono_countOrders_15 : decode zm_Chrono_countOrders.2.2.1 15 = .ok (.if_icmp .ge 78, 3) := by decide +kernel
theorem d_Chrono_countOrders_18 : decode zm_Chrono_countOrders.2.2.1 18 = .ok (.aload_n 0, 1) := by decide +kernel
theorem d_Chrono_countOrders_19 : decode zm_Chrono_countOrders.2.2.1 19 = .ok (.getfield 21, 3) := by decide +kernel
theorem d_Chrono_countOrders_22 : decode zm_Chrono_countOrders.2.2.1 22 = .ok (.iload_n 1, 1) := by decide +kernel
theorem d_Chrono_countOrders_23 : decode zm_Chrono_countOrders.2.2.1 23 = .ok (.iconst 0, 1) := by decide +kernel
theorem d_Chrono_countOrders_24 : decode zm_Chrono_countOrders.2.2.1 24 = .ok (.iastore, 1) := by decide +kernel
theorem d_Chrono_countOrders_25 : decode zm_Chrono_countOrders.2.2.1 25 = .ok (.iconst 0, 1) := by decide +kernel
theorem d_Chrono_countOrders_26 : decode zm_Chrono_countOrders.2.2.1 26 = .ok (.istore_n 2, 1) := by decide +kernel
theorem d_Chrono_countOrders_27 : decode zm_Chrono_countOrders.2.2.1 27 = .ok (.iload_n 2, 1) := by decide +kernel
theorem d_Chrono_countOrders_28 : decode zm_Chrono_countOrders.2.2.1 28 = .ok (.bipush 6, 2) := by decide +kernel
theorem d_Chrono_countOrders_30 : decode zm_Chrono_countOrders.2.2.1 30 = .ok (.if_icmp .ge 57, 3) := by decide +kernel
theorem d_Chrono_countOrders_33 : decode zm_Chrono_countOrders.2.2.1 33 = .ok (.iload_n 1, 1) := by decide +kernel
theorem d_Chrono_countOrders_34 : decode zm_Chrono_countOrders.2.2.1 34 = .ok (.iload_n 2, 1) := by decide +kernel
theorem d_Chrono_countOrders_35 : decode zm_Chrono_countOrders.2.2.1 35 = .ok (.ishr, 1) := by decide +kernel
theorem d_Chrono_countOrders_36 : decode zm_Chrono_countOrders.2.2.1 36 = .ok (.iconst 1, 1) := by decide +kernel
theorem d_Chrono_countOrders_37 : decode zm_Chrono_countOrders.2.2.1 37 = .ok (.iand, 1) := by decide +kernel
theorem d_Chrono_countOrders_38 : decode zm_Chrono_countOrders.2.2.1 38 = .ok (.ifCond .eq 7, 3) := by decide +kernel
theorem d_Chrono_countOrders_41 : decode zm_Chrono_countOrders.2.2.1 41 = .ok (.iconst 1, 1) := by decide +kernel
theorem d_Chrono_countOrders_42 : decode zm_Chrono_countOrders.2.2.1 42 = .ok (.goto 4, 3) := by decide +kernel
theorem d_Chrono_countOrders_45 : decode zm_Chrono_countOrders.2.2.1 45 = .ok (.iconst 0, 1) := by decide +kernel
theorem d_Chrono_countOrders_46 : decode zm_Chrono_countOrders.2.2.1 46 = .ok (.istore_n 3, 1) := by decide +kernel
theorem d_Chrono_countOrders_47 : decode zm_Chrono_countOrders.2.2.1 47 = .ok (.iload_n 3, 1) := by decide +kernel
theorem d_Chrono_countOrders_48 : decode zm_Chrono_countOrders.2.2.1 48 = .ok (.ifCond .eq 33, 3) := by decide +kernel
theorem d_Chrono_countOrders_51 : decode zm_Chrono_countOrders.2.2.1 51 = .ok (.aload_n 0, 1) := by decide +kernel
theorem d_Chrono_countOrders_52 : decode zm_Chrono_countOrders.2.2.1 52 = .ok (.getfield 18, 3) := by decide +kernel
theorem d_Chrono_countOrders_55 : decode zm_Chrono_countOrders.2.2.1 55 = .ok (.iload_n 2, 1) := by decide +kernel
theorem d_Chrono_countOrders_56 : decode zm_Chrono_countOrders.2.2.1 56 = .ok (.iaload, 1) := by decide +kernel
theorem d_Chrono_countOrders_57 : decode zm_Chrono_countOrders.2.2.1 57 = .ok (.iload_n 1, 1) := by decide +kernel
theorem d_Chrono_countOrders_58 : decode zm_Chrono_countOrders.2.2.1 58 = .ok (.iand, 1) := by decide +kernel
theorem d_Chrono_countOrders_59 : decode zm_Chrono_countOrders.2.2.1 59 = .ok (.ifCond .ne 22, 3) := by decide +kernel
theorem d_Chrono_countOrders_62 : decode zm_Chrono_countOrders.2.2.1 62 = .ok (.aload_n 0, 1) := by decide +kernel
theorem d_Chrono_countOrders_63 : decode zm_Chrono_countOrders.2.2.1 63 = .ok (.getfield 21, 3) := by decide +kernel
theorem d_Chrono_countOrders_66 : decode zm_Chrono_countOrders.2.2.1 66 = .ok (.iload_n 1, 1) := by decide +kernel
theorem d_Chrono_countOrders_67 : decode zm_Chrono_countOrders.2.2.1 67 = .ok (.dup2, 1) := by decide +kernel
theorem d_Chrono_countOrders_68 : decode zm_Chrono_countOrders.2.2.1 68 = .ok (.iaload, 1) := by decide +kernel
theorem d_Chrono_countOrders_69 : decode zm_Chrono_countOrders.2.2.1 69 = .ok (.aload_n 0, 1) := by decide +kernel
theorem d_Chrono_countOrders_70 : decode zm_Chrono_countOrders.2.2.1 70 = .ok (.getfield 21, 3) := by decide +kernel
theorem d_Chrono_countOrders_73 : decode zm_Chrono_countOrders.2.2.1 73 = .ok (.iload_n 1, 1) := by decide +kernel
theorem d_Chrono_countOrders_74 : decode zm_Chrono_countOrders.2.2.1 74 = .ok (.iconst 1, 1) := by decide +kernel
theorem d_Chrono_countOrders_75 : decode zm_Chrono_countOrders.2.2.1 75 = .ok (.iload_n 2, 1) := by decide +kernel
theorem d_Chrono_countOrders_76 : decode zm_Chrono_countOrders.2.2.1 76 = .ok (.ishl, 1) := by decide +kernel
theorem d_Chrono_countOrders_77 : decode zm_Chrono_countOrders.2.2.1 77 = .ok (.ixor, 1) := by decide +kernel
theorem d_Chrono_countOrders_78 : decode zm_Chrono_countOrders.2.2.1 78 = .ok (.iaload, 1) := by decide +kernel
theorem d_Chrono_countOrders_79 : decode zm_Chrono_countOrders.2.2.1 79 = .ok (.iadd, 1) := by decide +kernel
theorem d_Chrono_countOrders_80 : decode zm_Chrono_countOrders.2.2.1 80 = .ok (.iastore, 1) := by decide +kernel
theorem d_Chrono_countOrders_81 : decode zm_Chrono_countOrders.2.2.1 81 = .ok (.iinc 2 1, 3) := by decide +kernel
theorem d_Chrono_countOrders_84 : decode zm_Chrono_countOrders.2.2.1 84 = .ok (.goto (-57), 3) := by decide +kernel
theorem d_Chrono_countOrders_87 : decode zm_Chrono_countOrders.2.2.1 87 = .ok (.iinc 1 1, 3) := by decide +kernel
theorem d_Chrono_countOrders_90 : decode zm_Chrono_countOrders.2.2.1 90 = .ok (.goto (-81), 3) := by decide +kernel
theorem d_Chrono_countOrders_93 : decode zm_Chrono_countOrders.2.2.1 93 = .ok (.aload_n 0, 1) := by decide +kernel
theorem d_Chrono_countOrders_94 : decode zm_Chrono_countOrders.2.2.1 94 = .ok (.aload_n 0, 1) := by decide +kernel
theorem d_Chrono_countOrders_95 : decode zm_Chrono_countOrders.2.2.1 95 = .ok (.getfield 21, 3) := by decide +kernel
theorem d_Chrono_countOrders_98 : decode zm_Chrono_countOrders.2.2.1 98 = .ok (.aload_n 0, 1) := by decide +kernel
theorem d_Chrono_countOrders_99 : decode zm_Chrono_countOrders.2.2.1 99 = .ok (.getfield 27, 3) := by decide +kernel
theorem d_Chrono_countOrders_102 : decode zm_Chrono_countOrders.2.2.1 102 = .ok (.iaload, 1) := by decide +kernel
theorem d_Chrono_countOrders_103 : decode zm_Chrono_countOrders.2.2.1 103 = .ok (.putfield 31, 3) := by decide +kernel
theorem d_Chrono_countOrders_106 : decode zm_Chrono_countOrders.2.2.1 106 = .ok (.return_, 1) := by decide +kernel
