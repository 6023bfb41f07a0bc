theorem d_M_mixStates_0 : decode zm_M_mixStates.2.2.1 0 = .ok (.iconst 0, 1) := by decide +kernel
theorem d_M_mixStates_1 : decode zm_M_mixStates.2.2.1 1 = .ok (.istore_n 1, 1) := by decide +kernel
theorem d_M_mixStates_2 : decode zm_M_mixStates.2.2.1 2 = .ok (.iload_n 1, 1) := by decide +kernel
theorem d_M_mixStates_3 : decode zm_M_mixStates.2.2.1 3 = .ok (.bipush 6, 2) := by decide +kernel
theorem d_M_mixStates_5 : decode zm_M_mixStates.2.2.1 5 = .ok (.if_icmp .ge 19, 3) := by decide +kernel
theorem d_M_mixStates_8 : decode zm_M_mixStates.2.2.1 8 = .ok (.aload_n 0, 1) := by decide +kernel
theorem d_M_mixStates_9 : decode zm_M_mixStates.2.2.1 9 = .ok (.aload_n 0, 1) := by decide +kernel
theorem d_M_mixStates_10 : decode zm_M_mixStates.2.2.1 10 = .ok (.iload_n 1, 1) := by decide +kernel
theorem d_M_mixStates_11 : decode zm_M_mixStates.2.2.1 11 = .ok (.invokevirtual 200, 3) := by decide +kernel
theorem d_M_mixStates_14 : decode zm_M_mixStates.2.2.1 14 = .ok (.i2l, 1) := by decide +kernel
theorem d_M_mixStates_15 : decode zm_M_mixStates.2.2.1 15 = .ok (.invokevirtual 314, 3) := by decide +kernel
theorem d_M_mixStates_18 : decode zm_M_mixStates.2.2.1 18 = .ok (.iinc 1 1, 3) := by decide +kernel
theorem d_M_mixStates_21 : decode zm_M_mixStates.2.2.1 21 = .ok (.goto (-19), 3) := by decide +kernel
theorem d_M_mixStates_24 : decode zm_M_mixStates.2.2.1 24 = .ok (.iconst 0, 1) := by decide +kernel
theorem d_M_mixStates_25 : decode zm_M_mixStates.2.2.1 25 = .ok (.istore_n 1, 1) := by decide +kernel
theorem d_M_mixStates_26 : decode zm_M_mixStates.2.2.1 26 = .ok (.iload_n 1, 1) := by decide +kernel
theorem d_M_mixStates_27 : decode zm_M_mixStates.2.2.1 27 = .ok (.aload_n 0, 1) := by decide +kernel
theorem d_M_mixStates_28 : decode zm_M_mixStates.2.2.1 28 = .ok (.getfield 148, 3) := by decide +kernel
theorem d_M_mixStates_31 : decode zm_M_mixStates.2.2.1 31 = .ok (.if_icmp .ge 34, 3) := by decide +kernel
theorem d_M_mixStates_34 : decode zm_M_mixStates.2.2.1 34 = .ok (.iconst 0, 1) := by decide +kernel
theorem d_M_mixStates_35 : decode zm_M_mixStates.2.2.1 35 = .ok (.istore_n 2, 1) := by decide +kernel
theorem d_M_mixStates_36 : decode zm_M_mixStates.2.2.1 36 = .ok (.iload_n 2, 1) := by decide +kernel
theorem d_M_mixStates_37 : decode zm_M_mixStates.2.2.1 37 = .ok (.bipush 7, 2) := by decide +kernel
theorem d_M_mixStates_39 : decode zm_M_mixStates.2.2.1 39 = .ok (.if_icmp .ge 20, 3) := by decide +kernel
theorem d_M_mixStates_42 : decode zm_M_mixStates.2.2.1 42 = .ok (.aload_n 0, 1) := by decide +kernel
theorem d_M_mixStates_43 : decode zm_M_mixStates.2.2.1 43 = .ok (.aload_n 0, 1) := by decide +kernel
theorem d_M_mixStates_44 : decode zm_M_mixStates.2.2.1 44 = .ok (.iload_n 1, 1) := by decide +kernel
theorem d_M_mixStates_45 : decode zm_M_mixStates.2.2.1 45 = .ok (.iload_n 2, 1) := by decide +kernel
theorem d_M_mixStates_46 : decode zm_M_mixStates.2.2.1 46 = .ok (.invokevirtual 209, 3) := by decide +kernel
theorem d_M_mixStates_49 : decode zm_M_mixStates.2.2.1 49 = .ok (.i2l, 1) := by decide +kernel
theorem d_M_mixStates_50 : decode zm_M_mixStates.2.2.1 50 = .ok (.invokevirtual 314, 3) := by decide +kernel
theorem d_M_mixStates_53 : decode zm_M_mixStates.2.2.1 53 = .ok (.iinc 2 1, 3) := by decide +kernel
theorem d_M_mixStates_56 : decode zm_M_mixStates.2.2.1 56 = .ok (.goto (-20), 3) := by decide +kernel
theorem d_M_mixStates_59 : decode zm_M_mixStates.2.2.1 59 = .ok (.iinc 1 1, 3) := by decide +kernel
theorem d_M_mixStates_62 : decode zm_M_mixStates.2.2.1 62 = .ok (.goto (-36), 3) := by decide +kernel
theorem d_M_mixStates_65 : decode zm_M_mixStates.2.2.1 65 = .ok (.return_, 1) := by decide +kernel
theorem d_M_mixFormes_0 : decode zm_M_mixFormes.2.2.1 0 = .ok (.iconst 0, 1) := by decide +kernel
theorem d_M_mixFormes_1 : decode zm_M_mixFormes.2.2.1 1 = .ok (.istore_n 1, 1) := by decide +kernel
theorem d_M_mixFormes_2 : decode zm_M_mixFormes.2.2.1 2 = .ok (.iload_n 1, 1) := by decide +kernel
theorem d_M_mixFormes_3 : decode zm_M_mixFormes.2.2.1 3 = .ok (.iconst 4, 1) := by decide +kernel
theorem d_M_mixFormes_4 : decode zm_M_mixFormes.2.2.1 4 = .ok (.aload_n 0, 1) := by decide +kernel
theorem d_M_mixFormes_5 : decode zm_M_mixFormes.2.2.1 5 = .ok (.getfield 215, 3) := by decide +kernel
theorem d_M_mixFormes_8 : decode zm_M_mixFormes.2.2.1 8 = .ok (.imul, 1) := by decide +kernel
theorem d_M_mixFormes_9 : decode zm_M_mixFormes.2.2.1 9 = .ok (.if_icmp .ge 24, 3) := by decide +kernel
theorem d_M_mixFormes_12 : decode zm_M_mixFormes.2.2.1 12 = .ok (.aload_n 0, 1) := by decide +kernel
theorem d_M_mixFormes_13 : decode zm_M_mixFormes.2.2.1 13 = .ok (.aload_n 0, 1) := by decide +kernel
theorem d_M_mixFormes_14 : decode zm_M_mixFormes.2.2.1 14 = .ok (.iload_n 1, 1) := by decide +kernel
theorem d_M_mixFormes_15 : decode zm_M_mixFormes.2.2.1 15 = .ok (.iconst 4, 1) := by decide +kernel
theorem d_M_mixFormes_16 : decode zm_M_mixFormes.2.2.1 16 = .ok (.idiv, 1) := by decide +kernel
theorem d_M_mixFormes_17 : decode zm_M_mixFormes.2.2.1 17 = .ok (.iload_n 1, 1) := by decide +kernel
theorem d_M_mixFormes_18 : decode zm_M_mixFormes.2.2.1 18 = .ok (.iconst 4, 1) := by decide +kernel
theorem d_M_mixFormes_19 : decode zm_M_mixFormes.2.2.1 19 = .ok (.irem, 1) := by decide +kernel
theorem d_M_mixFormes_20 : decode zm_M_mixFormes.2.2.1 20 = .ok (.invokevirtual 227, 3) := by decide +kernel
theorem d_M_mixFormes_23 : decode zm_M_mixFormes.2.2.1 23 = .ok (.i2l, 1) := by decide +kernel
theorem d_M_mixFormes_24 : decode zm_M_mixFormes.2.2.1 24 = .ok (.invokevirtual 314, 3) := by decide +kernel
theorem d_M_mixFormes_27 : decode zm_M_mixFormes.2.2.1 27 = .ok (.iinc 1 1, 3) := by decide +kernel
theorem d_M_mixFormes_30 : decode zm_M_mixFormes.2.2.1 30 = .ok (.goto (-28), 3) := by decide +kernel
theorem d_M_mixFormes_33 : decode zm_M_mixFormes.2.2.1 33 = .ok (.iconst 0, 1) := by decide +kernel
theorem d_M_mixFormes_34 : decode zm_M_mixFormes.2.2.1 34 = .ok (.istore_n 1, 1) := by decide +kernel
theorem d_M_mixFormes_35 : decode zm_M_mixFormes.2.2.1 35 = .ok (.iload_n 1, 1) := by decide +kernel
theorem d_M_mixFormes_36 : decode zm_M_mixFormes.2.2.1 36 = .ok (.bipush 30, 2) := by decide +kernel
theorem d_M_mixFormes_38 : decode zm_M_mixFormes.2.2.1 38 = .ok (.if_icmp .ge 24, 3) := by decide +kernel
theorem d_M_mixFormes_41 : decode zm_M_mixFormes.2.2.1 41 = .ok (.aload_n 0, 1) := by decide +kernel
theorem d_M_mixFormes_42 : decode zm_M_mixFormes.2.2.1 42 = .ok (.aload_n 0, 1) := by decide +kernel
theorem d_M_mixFormes_43 : decode zm_M_mixFormes.2.2.1 43 = .ok (.iload_n 1, 1) := by decide +kernel
theorem d_M_mixFormes_44 : decode zm_M_mixFormes.2.2.1 44 = .ok (.iconst 5, 1) := by decide +kernel
theorem d_M_mixFormes_45 : decode zm_M_mixFormes.2.2.1 45 = .ok (.idiv, 1) := by decide +kernel
theorem d_M_mixFormes_46 : decode zm_M_mixFormes.2.2.1 46 = .ok (.iload_n 1, 1) := by decide +kernel
theorem d_M_mixFormes_47 : decode zm_M_mixFormes.2.2.1 47 = .ok (.iconst 5, 1) := by decide +kernel
theorem d_M_mixFormes_48 : decode zm_M_mixFormes.2.2.1 48 = .ok (.irem, 1) := by decide +kernel
theorem d_M_mixFormes_49 : decode zm_M_mixFormes.2.2.1 49 = .ok (.invokevirtual 290, 3) := by decide +kernel
theorem d_M_mixFormes_52 : decode zm_M_mixFormes.2.2.1 52 = .ok (.i2l, 1) := by decide +kernel
theorem d_M_mixFormes_53 : decode zm_M_mixFormes.2.2.1 53 = .ok (.invokevirtual 314, 3) := by decide +kernel
theorem d_M_mixFormes_56 : decode zm_M_mixFormes.2.2.1 56 = .ok (.iinc 1 1, 3) := by decide +kernel
theorem d_M_mixFormes_59 : decode zm_M_mixFormes.2.2.1 59 = .ok (.goto (-24), 3) := by decide +kernel
theorem d_M_mixFormes_62 : decode zm_M_mixFormes.2.2.1 62 = .ok (.iconst 0, 1) := by decide +kernel
theorem d_M_mixFormes_63 : decode zm_M_mixFormes.2.2.1 63 = .ok (.istore_n 1, 1) := by decide +kernel
theorem d_M_mixFormes_64 : decode zm_M_mixFormes.2.2.1 64 = .ok (.iload_n 1, 1) := by decide +kernel
theorem d_M_mixFormes_65 : decode zm_M_mixFormes.2.2.1 65 = .ok (.bipush 6, 2) := by decide +kernel
theorem d_M_mixFormes_67 : decode zm_M_mixFormes.2.2.1 67 = .ok (.if_icmp .ge 19, 3) := by decide +kernel
theorem d_M_mixFormes_70 : decode zm_M_mixFormes.2.2.1 70 = .ok (.aload_n 0, 1) := by decide +kernel
theorem d_M_mixFormes_71 : decode zm_M_mixFormes.2.2.1 71 = .ok (.aload_n 0, 1) := by decide +kernel
theorem d_M_mixFormes_72 : decode zm_M_mixFormes.2.2.1 72 = .ok (.iload_n 1, 1) := by decide +kernel
theorem d_M_mixFormes_73 : decode zm_M_mixFormes.2.2.1 73 = .ok (.invokevirtual 302, 3) := by decide +kernel
theorem d_M_mixFormes_76 : decode zm_M_mixFormes.2.2.1 76 = .ok (.i2l, 1) := by decide +kernel
theorem d_M_mixFormes_77 : decode zm_M_mixFormes.2.2.1 77 = .ok (.invokevirtual 314, 3) := by decide +kernel
theorem d_M_mixFormes_80 : decode zm_M_mixFormes.2.2.1 80 = .ok (.iinc 1 1, 3) := by decide +kernel
theorem d_M_mixFormes_83 : decode zm_M_mixFormes.2.2.1 83 = .ok (.goto (-19), 3) := by decide +kernel
theorem d_M_mixFormes_86 : decode zm_M_mixFormes.2.2.1 86 = .ok (.iconst 0, 1) := by decide +kernel
theorem d_M_mixFormes_87 : decode zm_M_mixFormes.2.2.1 87 = .ok (.istore_n 1, 1) := by decide +kernel
theorem d_M_mixFormes_88 : decode zm_M_mixFormes.2.2.1 88 = .ok (.aload_n 0, 1) := by decide +kernel
theorem d_M_mixFormes_89 : decode zm_M_mixFormes.2.2.1 89 = .ok (.iload_n 1, 1) := by decide +kernel
theorem d_M_mixFormes_90 : decode zm_M_mixFormes.2.2.1 90 = .ok (.invokevirtual 254, 3) := by decide +kernel
theorem d_M_mixFormes_93 : decode zm_M_mixFormes.2.2.1 93 = .ok (.iconst (-1), 1) := by decide +kernel
theorem d_M_mixFormes_94 : decode zm_M_mixFormes.2.2.1 94 = .ok (.if_icmp .eq 19, 3) := by decide +kernel
theorem d_M_mixFormes_97 : decode zm_M_mixFormes.2.2.1 97 = .ok (.aload_n 0, 1) := by decide +kernel
theorem d_M_mixFormes_98 : decode zm_M_mixFormes.2.2.1 98 = .ok (.aload_n 0, 1) := by decide +kernel
theorem d_M_mixFormes_99 : decode zm_M_mixFormes.2.2.1 99 = .ok (.iload_n 1, 1) := by decide +kernel
theorem d_M_mixFormes_100 : decode zm_M_mixFormes.2.2.1 100 = .ok (.invokevirtual 254, 3) := by decide +kernel
theorem d_M_mixFormes_103 : decode zm_M_mixFormes.2.2.1 103 = .ok (.i2l, 1) := by decide +kernel
theorem d_M_mixFormes_104 : decode zm_M_mixFormes.2.2.1 104 = .ok (.invokevirtual 314, 3) := by decide +kernel
theorem d_M_mixFormes_107 : decode zm_M_mixFormes.2.2.1 107 = .ok (.iinc 1 1, 3) := by decide +kernel
theorem d_M_mixFormes_110 : decode zm_M_mixFormes.2.2.1 110 = .ok (.goto (-22), 3) := by decide +kernel
theorem d_M_mixFormes_113 : decode zm_M_mixFormes.2.2.1 113 = .ok (.return_, 1) := by decide +kernel
theorem d_M_digest_0 : decode zm_M_digest.2.2.1 0 = .ok (.aload_n 0, 1) := by decide +kernel
theorem d_M_digest_1 : decode zm_M_digest.2.2.1 1 = .ok (.ldc2_w 318, 3) := by decide +kernel
theorem d_M_digest_4 : decode zm_M_digest.2.2.1 4 = .ok (.putfield 310, 3) := by decide +kernel
theorem d_M_digest_7 : decode zm_M_digest.2.2.1 7 = .ok (.aload_n 0, 1) := by decide +kernel
theorem d_M_digest_8 : decode zm_M_digest.2.2.1 8 = .ok (.invokevirtual 320, 3) := by decide +kernel
theorem d_M_digest_11 : decode zm_M_digest.2.2.1 11 = .ok (.aload_n 0, 1) := by decide +kernel
theorem d_M_digest_12 : decode zm_M_digest.2.2.1 12 = .ok (.invokevirtual 323, 3) := by decide +kernel
theorem d_M_digest_15 : decode zm_M_digest.2.2.1 15 = .ok (.aload_n 0, 1) := by decide +kernel
theorem d_M_digest_16 : decode zm_M_digest.2.2.1 16 = .ok (.invokevirtual 326, 3) := by decide +kernel
theorem d_M_digest_19 : decode zm_M_digest.2.2.1 19 = .ok (.iconst 0, 1) := by decide +kernel
theorem d_M_digest_20 : decode zm_M_digest.2.2.1 20 = .ok (.istore_n 1, 1) := by decide +kernel
theorem d_M_digest_21 : decode zm_M_digest.2.2.1 21 = .ok (.iload_n 1, 1) := by decide +kernel
theorem d_M_digest_22 : decode zm_M_digest.2.2.1 22 = .ok (.aload_n 0, 1) := by decide +kernel
theorem d_M_digest_23 : decode zm_M_digest.2.2.1 23 = .ok (.getfield 76, 3) := by decide +kernel
theorem d_M_digest_26 : decode zm_M_digest.2.2.1 26 = .ok (.if_icmp .ge 20, 3) := by decide +kernel
theorem d_M_digest_29 : decode zm_M_digest.2.2.1 29 = .ok (.aload_n 0, 1) := by decide +kernel
theorem d_M_digest_30 : decode zm_M_digest.2.2.1 30 = .ok (.aload_n 0, 1) := by decide +kernel
theorem d_M_digest_31 : decode zm_M_digest.2.2.1 31 = .ok (.getfield 7, 3) := by decide +kernel
theorem d_M_digest_34 : decode zm_M_digest.2.2.1 34 = .ok (.iload_n 1, 1) := by decide +kernel
theorem d_M_digest_35 : decode zm_M_digest.2.2.1 35 = .ok (.iaload, 1) := by decide +kernel
theorem d_M_digest_36 : decode zm_M_digest.2.2.1 36 = .ok (.i2l, 1) := by decide +kernel
theorem d_M_digest_37 : decode zm_M_digest.2.2.1 37 = .ok (.invokevirtual 314, 3) := by decide +kernel
theorem d_M_digest_40 : decode zm_M_digest.2.2.1 40 = .ok (.iinc 1 1, 3) := by decide +kernel
theorem d_M_digest_43 : decode zm_M_digest.2.2.1 43 = .ok (.goto (-22), 3) := by decide +kernel
theorem d_M_digest_46 : decode zm_M_digest.2.2.1 46 = .ok (.iconst 0, 1) := by decide +kernel
theorem d_M_digest_47 : decode zm_M_digest.2.2.1 47 = .ok (.istore_n 1, 1) := by decide +kernel
theorem d_M_digest_48 : decode zm_M_digest.2.2.1 48 = .ok (.iload_n 1, 1) := by decide +kernel
theorem d_M_digest_49 : decode zm_M_digest.2.2.1 49 = .ok (.bipush 6, 2) := by decide +kernel
theorem d_M_digest_51 : decode zm_M_digest.2.2.1 51 = .ok (.if_icmp .ge 19, 3) := by decide +kernel
theorem d_M_digest_54 : decode zm_M_digest.2.2.1 54 = .ok (.aload_n 0, 1) := by decide +kernel
theorem d_M_digest_55 : decode zm_M_digest.2.2.1 55 = .ok (.aload_n 0, 1) := by decide +kernel
theorem d_M_digest_56 : decode zm_M_digest.2.2.1 56 = .ok (.iload_n 1, 1) := by decide +kernel
theorem d_M_digest_57 : decode zm_M_digest.2.2.1 57 = .ok (.invokevirtual 305, 3) := by decide +kernel
theorem d_M_digest_60 : decode zm_M_digest.2.2.1 60 = .ok (.i2l, 1) := by decide +kernel
theorem d_M_digest_61 : decode zm_M_digest.2.2.1 61 = .ok (.invokevirtual 314, 3) := by decide +kernel
theorem d_M_digest_64 : decode zm_M_digest.2.2.1 64 = .ok (.iinc 1 1, 3) := by decide +kernel
theorem d_M_digest_67 : decode zm_M_digest.2.2.1 67 = .ok (.goto (-19), 3) := by decide +kernel
theorem d_M_digest_70 : decode zm_M_digest.2.2.1 70 = .ok (.aload_n 0, 1) := by decide +kernel
theorem d_M_digest_71 : decode zm_M_digest.2.2.1 71 = .ok (.getfield 310, 3) := by decide +kernel
theorem d_M_digest_74 : decode zm_M_digest.2.2.1 74 = .ok (.lreturn, 1) := by decide +kernel
