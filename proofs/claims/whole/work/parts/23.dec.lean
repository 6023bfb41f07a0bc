theorem d_P_unsee_0 : decode zm_P_unsee.2.2.1 0 = .ok (.aload_n 0, 1) := by decide +kernel
theorem d_P_unsee_1 : decode zm_P_unsee.2.2.1 1 = .ok (.getfield 33, 3) := by decide +kernel
theorem d_P_unsee_4 : decode zm_P_unsee.2.2.1 4 = .ok (.iload_n 1, 1) := by decide +kernel
theorem d_P_unsee_5 : decode zm_P_unsee.2.2.1 5 = .ok (.invokevirtual 159, 3) := by decide +kernel
theorem d_P_unsee_8 : decode zm_P_unsee.2.2.1 8 = .ok (.ifCond .ne 6, 3) := by decide +kernel
theorem d_P_unsee_11 : decode zm_P_unsee.2.2.1 11 = .ok (.bipush (-101), 2) := by decide +kernel
theorem d_P_unsee_13 : decode zm_P_unsee.2.2.1 13 = .ok (.ireturn, 1) := by decide +kernel
theorem d_P_unsee_14 : decode zm_P_unsee.2.2.1 14 = .ok (.aload_n 0, 1) := by decide +kernel
theorem d_P_unsee_15 : decode zm_P_unsee.2.2.1 15 = .ok (.getfield 33, 3) := by decide +kernel
theorem d_P_unsee_18 : decode zm_P_unsee.2.2.1 18 = .ok (.iload_n 1, 1) := by decide +kernel
theorem d_P_unsee_19 : decode zm_P_unsee.2.2.1 19 = .ok (.invokevirtual 160, 3) := by decide +kernel
theorem d_P_unsee_22 : decode zm_P_unsee.2.2.1 22 = .ok (.aload_n 0, 1) := by decide +kernel
theorem d_P_unsee_23 : decode zm_P_unsee.2.2.1 23 = .ok (.dup, 1) := by decide +kernel
theorem d_P_unsee_24 : decode zm_P_unsee.2.2.1 24 = .ok (.getfield 62, 3) := by decide +kernel
theorem d_P_unsee_27 : decode zm_P_unsee.2.2.1 27 = .ok (.iconst 1, 1) := by decide +kernel
theorem d_P_unsee_28 : decode zm_P_unsee.2.2.1 28 = .ok (.iadd, 1) := by decide +kernel
theorem d_P_unsee_29 : decode zm_P_unsee.2.2.1 29 = .ok (.putfield 62, 3) := by decide +kernel
theorem d_P_unsee_32 : decode zm_P_unsee.2.2.1 32 = .ok (.aload_n 0, 1) := by decide +kernel
theorem d_P_unsee_33 : decode zm_P_unsee.2.2.1 33 = .ok (.getfield 33, 3) := by decide +kernel
theorem d_P_unsee_36 : decode zm_P_unsee.2.2.1 36 = .ok (.invokevirtual 154, 3) := by decide +kernel
theorem d_P_unsee_39 : decode zm_P_unsee.2.2.1 39 = .ok (.ireturn, 1) := by decide +kernel
theorem d_P_seen_0 : decode zm_P_seen.2.2.1 0 = .ok (.aload_n 0, 1) := by decide +kernel
theorem d_P_seen_1 : decode zm_P_seen.2.2.1 1 = .ok (.getfield 33, 3) := by decide +kernel
theorem d_P_seen_4 : decode zm_P_seen.2.2.1 4 = .ok (.iload_n 1, 1) := by decide +kernel
theorem d_P_seen_5 : decode zm_P_seen.2.2.1 5 = .ok (.invokevirtual 159, 3) := by decide +kernel
theorem d_P_seen_8 : decode zm_P_seen.2.2.1 8 = .ok (.ifCond .ne 6, 3) := by decide +kernel
theorem d_P_seen_11 : decode zm_P_seen.2.2.1 11 = .ok (.bipush (-101), 2) := by decide +kernel
theorem d_P_seen_13 : decode zm_P_seen.2.2.1 13 = .ok (.ireturn, 1) := by decide +kernel
theorem d_P_seen_14 : decode zm_P_seen.2.2.1 14 = .ok (.iload_n 2, 1) := by decide +kernel
theorem d_P_seen_15 : decode zm_P_seen.2.2.1 15 = .ok (.ifCond .lt 8, 3) := by decide +kernel
theorem d_P_seen_18 : decode zm_P_seen.2.2.1 18 = .ok (.iload_n 2, 1) := by decide +kernel
theorem d_P_seen_19 : decode zm_P_seen.2.2.1 19 = .ok (.iconst 4, 1) := by decide +kernel
theorem d_P_seen_20 : decode zm_P_seen.2.2.1 20 = .ok (.if_icmp .lt 6, 3) := by decide +kernel
theorem d_P_seen_23 : decode zm_P_seen.2.2.1 23 = .ok (.bipush (-102), 2) := by decide +kernel
theorem d_P_seen_25 : decode zm_P_seen.2.2.1 25 = .ok (.ireturn, 1) := by decide +kernel
theorem d_P_seen_26 : decode zm_P_seen.2.2.1 26 = .ok (.aload_n 0, 1) := by decide +kernel
theorem d_P_seen_27 : decode zm_P_seen.2.2.1 27 = .ok (.getfield 33, 3) := by decide +kernel
theorem d_P_seen_30 : decode zm_P_seen.2.2.1 30 = .ok (.iload_n 1, 1) := by decide +kernel
theorem d_P_seen_31 : decode zm_P_seen.2.2.1 31 = .ok (.iload_n 2, 1) := by decide +kernel
theorem d_P_seen_32 : decode zm_P_seen.2.2.1 32 = .ok (.invokevirtual 163, 3) := by decide +kernel
theorem d_P_seen_35 : decode zm_P_seen.2.2.1 35 = .ok (.ireturn, 1) := by decide +kernel
theorem d_P_forme_0 : decode zm_P_forme.2.2.1 0 = .ok (.iload_n 1, 1) := by decide +kernel
theorem d_P_forme_1 : decode zm_P_forme.2.2.1 1 = .ok (.ifCond .lt 9, 3) := by decide +kernel
theorem d_P_forme_4 : decode zm_P_forme.2.2.1 4 = .ok (.iload_n 1, 1) := by decide +kernel
theorem d_P_forme_5 : decode zm_P_forme.2.2.1 5 = .ok (.bipush 6, 2) := by decide +kernel
theorem d_P_forme_7 : decode zm_P_forme.2.2.1 7 = .ok (.if_icmp .lt 6, 3) := by decide +kernel
theorem d_P_forme_10 : decode zm_P_forme.2.2.1 10 = .ok (.bipush (-101), 2) := by decide +kernel
theorem d_P_forme_12 : decode zm_P_forme.2.2.1 12 = .ok (.ireturn, 1) := by decide +kernel
theorem d_P_forme_13 : decode zm_P_forme.2.2.1 13 = .ok (.iload_n 2, 1) := by decide +kernel
theorem d_P_forme_14 : decode zm_P_forme.2.2.1 14 = .ok (.ifCond .lt 8, 3) := by decide +kernel
theorem d_P_forme_17 : decode zm_P_forme.2.2.1 17 = .ok (.iload_n 2, 1) := by decide +kernel
theorem d_P_forme_18 : decode zm_P_forme.2.2.1 18 = .ok (.iconst 4, 1) := by decide +kernel
theorem d_P_forme_19 : decode zm_P_forme.2.2.1 19 = .ok (.if_icmp .le 6, 3) := by decide +kernel
theorem d_P_forme_22 : decode zm_P_forme.2.2.1 22 = .ok (.bipush (-102), 2) := by decide +kernel
theorem d_P_forme_24 : decode zm_P_forme.2.2.1 24 = .ok (.ireturn, 1) := by decide +kernel
theorem d_P_forme_25 : decode zm_P_forme.2.2.1 25 = .ok (.aload_n 0, 1) := by decide +kernel
theorem d_P_forme_26 : decode zm_P_forme.2.2.1 26 = .ok (.iload_n 1, 1) := by decide +kernel
theorem d_P_forme_27 : decode zm_P_forme.2.2.1 27 = .ok (.iload_n 2, 1) := by decide +kernel
theorem d_P_forme_28 : decode zm_P_forme.2.2.1 28 = .ok (.invokevirtual 166, 3) := by decide +kernel
theorem d_P_forme_31 : decode zm_P_forme.2.2.1 31 = .ok (.ireturn, 1) := by decide +kernel
theorem d_P_formes_0 : decode zm_P_formes.2.2.1 0 = .ok (.iload_n 1, 1) := by decide +kernel
theorem d_P_formes_1 : decode zm_P_formes.2.2.1 1 = .ok (.ifCond .lt 8, 3) := by decide +kernel
theorem d_P_formes_4 : decode zm_P_formes.2.2.1 4 = .ok (.iload_n 1, 1) := by decide +kernel
theorem d_P_formes_5 : decode zm_P_formes.2.2.1 5 = .ok (.iconst 5, 1) := by decide +kernel
theorem d_P_formes_6 : decode zm_P_formes.2.2.1 6 = .ok (.if_icmp .le 6, 3) := by decide +kernel
theorem d_P_formes_9 : decode zm_P_formes.2.2.1 9 = .ok (.bipush (-102), 2) := by decide +kernel
theorem d_P_formes_11 : decode zm_P_formes.2.2.1 11 = .ok (.ireturn, 1) := by decide +kernel
theorem d_P_formes_12 : decode zm_P_formes.2.2.1 12 = .ok (.aload_n 0, 1) := by decide +kernel
theorem d_P_formes_13 : decode zm_P_formes.2.2.1 13 = .ok (.iload_n 1, 1) := by decide +kernel
theorem d_P_formes_14 : decode zm_P_formes.2.2.1 14 = .ok (.invokevirtual 169, 3) := by decide +kernel
theorem d_P_formes_17 : decode zm_P_formes.2.2.1 17 = .ok (.ireturn, 1) := by decide +kernel
theorem d_P_order_0 : decode zm_P_order.2.2.1 0 = .ok (.aload_n 0, 1) := by decide +kernel
theorem d_P_order_1 : decode zm_P_order.2.2.1 1 = .ok (.getfield 40, 3) := by decide +kernel
theorem d_P_order_4 : decode zm_P_order.2.2.1 4 = .ok (.aload_n 0, 1) := by decide +kernel
theorem d_P_order_5 : decode zm_P_order.2.2.1 5 = .ok (.getfield 33, 3) := by decide +kernel
theorem d_P_order_8 : decode zm_P_order.2.2.1 8 = .ok (.invokevirtual 172, 3) := by decide +kernel
theorem d_P_order_11 : decode zm_P_order.2.2.1 11 = .ok (.aload_n 0, 1) := by decide +kernel
theorem d_P_order_12 : decode zm_P_order.2.2.1 12 = .ok (.getfield 40, 3) := by decide +kernel
theorem d_P_order_15 : decode zm_P_order.2.2.1 15 = .ok (.iload_n 1, 1) := by decide +kernel
theorem d_P_order_16 : decode zm_P_order.2.2.1 16 = .ok (.invokevirtual 175, 3) := by decide +kernel
theorem d_P_order_19 : decode zm_P_order.2.2.1 19 = .ok (.ifCond .eq 14, 3) := by decide +kernel
theorem d_P_order_22 : decode zm_P_order.2.2.1 22 = .ok (.aload_n 0, 1) := by decide +kernel
theorem d_P_order_23 : decode zm_P_order.2.2.1 23 = .ok (.getfield 40, 3) := by decide +kernel
theorem d_P_order_26 : decode zm_P_order.2.2.1 26 = .ok (.iload_n 1, 1) := by decide +kernel
theorem d_P_order_27 : decode zm_P_order.2.2.1 27 = .ok (.invokevirtual 178, 3) := by decide +kernel
theorem d_P_order_30 : decode zm_P_order.2.2.1 30 = .ok (.goto 5, 3) := by decide +kernel
theorem d_P_order_33 : decode zm_P_order.2.2.1 33 = .ok (.bipush (-101), 2) := by decide +kernel
theorem d_P_order_35 : decode zm_P_order.2.2.1 35 = .ok (.ireturn, 1) := by decide +kernel
theorem d_P_count_0 : decode zm_P_count.2.2.1 0 = .ok (.iload_n 1, 1) := by decide +kernel
theorem d_P_count_1 : decode zm_P_count.2.2.1 1 = .ok (.tableswitch 81 0 5 #[39, 47, 55, 63, 71, 76], 39) := by decide +kernel
theorem d_P_count_40 : decode zm_P_count.2.2.1 40 = .ok (.aload_n 0, 1) := by decide +kernel
theorem d_P_count_41 : decode zm_P_count.2.2.1 41 = .ok (.getfield 19, 3) := by decide +kernel
theorem d_P_count_44 : decode zm_P_count.2.2.1 44 = .ok (.invokevirtual 80, 3) := by decide +kernel
theorem d_P_count_47 : decode zm_P_count.2.2.1 47 = .ok (.ireturn, 1) := by decide +kernel
theorem d_P_count_48 : decode zm_P_count.2.2.1 48 = .ok (.aload_n 0, 1) := by decide +kernel
theorem d_P_count_49 : decode zm_P_count.2.2.1 49 = .ok (.getfield 33, 3) := by decide +kernel
theorem d_P_count_52 : decode zm_P_count.2.2.1 52 = .ok (.invokevirtual 154, 3) := by decide +kernel
theorem d_P_count_55 : decode zm_P_count.2.2.1 55 = .ok (.ireturn, 1) := by decide +kernel
theorem d_P_count_56 : decode zm_P_count.2.2.1 56 = .ok (.aload_n 0, 1) := by decide +kernel
theorem d_P_count_57 : decode zm_P_count.2.2.1 57 = .ok (.getfield 10, 3) := by decide +kernel
theorem d_P_count_60 : decode zm_P_count.2.2.1 60 = .ok (.invokevirtual 65, 3) := by decide +kernel
theorem d_P_count_63 : decode zm_P_count.2.2.1 63 = .ok (.ireturn, 1) := by decide +kernel
theorem d_P_count_64 : decode zm_P_count.2.2.1 64 = .ok (.aload_n 0, 1) := by decide +kernel
theorem d_P_count_65 : decode zm_P_count.2.2.1 65 = .ok (.getfield 19, 3) := by decide +kernel
theorem d_P_count_68 : decode zm_P_count.2.2.1 68 = .ok (.invokevirtual 96, 3) := by decide +kernel
theorem d_P_count_71 : decode zm_P_count.2.2.1 71 = .ok (.ireturn, 1) := by decide +kernel
theorem d_P_count_72 : decode zm_P_count.2.2.1 72 = .ok (.aload_n 0, 1) := by decide +kernel
theorem d_P_count_73 : decode zm_P_count.2.2.1 73 = .ok (.getfield 58, 3) := by decide +kernel
theorem d_P_count_76 : decode zm_P_count.2.2.1 76 = .ok (.ireturn, 1) := by decide +kernel
theorem d_P_count_77 : decode zm_P_count.2.2.1 77 = .ok (.aload_n 0, 1) := by decide +kernel
theorem d_P_count_78 : decode zm_P_count.2.2.1 78 = .ok (.getfield 62, 3) := by decide +kernel
theorem d_P_count_81 : decode zm_P_count.2.2.1 81 = .ok (.ireturn, 1) := by decide +kernel
theorem d_P_count_82 : decode zm_P_count.2.2.1 82 = .ok (.bipush (-102), 2) := by decide +kernel
theorem d_P_count_84 : decode zm_P_count.2.2.1 84 = .ok (.ireturn, 1) := by decide +kernel
theorem d_P_digest_0 : decode zm_P_digest.2.2.1 0 = .ok (.aload_n 0, 1) := by decide +kernel
theorem d_P_digest_1 : decode zm_P_digest.2.2.1 1 = .ok (.getfield 26, 3) := by decide +kernel
theorem d_P_digest_4 : decode zm_P_digest.2.2.1 4 = .ok (.aload_n 0, 1) := by decide +kernel
theorem d_P_digest_5 : decode zm_P_digest.2.2.1 5 = .ok (.getfield 19, 3) := by decide +kernel
theorem d_P_digest_8 : decode zm_P_digest.2.2.1 8 = .ok (.invokevirtual 102, 3) := by decide +kernel
theorem d_P_digest_11 : decode zm_P_digest.2.2.1 11 = .ok (.ldc2_w 181, 3) := by decide +kernel
theorem d_P_digest_14 : decode zm_P_digest.2.2.1 14 = .ok (.lstore_n 1, 1) := by decide +kernel
theorem d_P_digest_15 : decode zm_P_digest.2.2.1 15 = .ok (.aload_n 0, 1) := by decide +kernel
theorem d_P_digest_16 : decode zm_P_digest.2.2.1 16 = .ok (.lload_n 1, 1) := by decide +kernel
theorem d_P_digest_17 : decode zm_P_digest.2.2.1 17 = .ok (.invokevirtual 183, 3) := by decide +kernel
theorem d_P_digest_20 : decode zm_P_digest.2.2.1 20 = .ok (.lstore_n 1, 1) := by decide +kernel
theorem d_P_digest_21 : decode zm_P_digest.2.2.1 21 = .ok (.aload_n 0, 1) := by decide +kernel
theorem d_P_digest_22 : decode zm_P_digest.2.2.1 22 = .ok (.lload_n 1, 1) := by decide +kernel
theorem d_P_digest_23 : decode zm_P_digest.2.2.1 23 = .ok (.invokevirtual 187, 3) := by decide +kernel
theorem d_P_digest_26 : decode zm_P_digest.2.2.1 26 = .ok (.lstore_n 1, 1) := by decide +kernel
theorem d_P_digest_27 : decode zm_P_digest.2.2.1 27 = .ok (.aload_n 0, 1) := by decide +kernel
theorem d_P_digest_28 : decode zm_P_digest.2.2.1 28 = .ok (.lload_n 1, 1) := by decide +kernel
theorem d_P_digest_29 : decode zm_P_digest.2.2.1 29 = .ok (.invokevirtual 190, 3) := by decide +kernel
theorem d_P_digest_32 : decode zm_P_digest.2.2.1 32 = .ok (.lstore_n 1, 1) := by decide +kernel
theorem d_P_digest_33 : decode zm_P_digest.2.2.1 33 = .ok (.aload_n 0, 1) := by decide +kernel
theorem d_P_digest_34 : decode zm_P_digest.2.2.1 34 = .ok (.lload_n 1, 1) := by decide +kernel
theorem d_P_digest_35 : decode zm_P_digest.2.2.1 35 = .ok (.invokevirtual 193, 3) := by decide +kernel
theorem d_P_digest_38 : decode zm_P_digest.2.2.1 38 = .ok (.lstore_n 1, 1) := by decide +kernel
theorem d_P_digest_39 : decode zm_P_digest.2.2.1 39 = .ok (.aload_n 0, 1) := by decide +kernel
theorem d_P_digest_40 : decode zm_P_digest.2.2.1 40 = .ok (.lload_n 1, 1) := by decide +kernel
theorem d_P_digest_41 : decode zm_P_digest.2.2.1 41 = .ok (.invokevirtual 196, 3) := by decide +kernel
theorem d_P_digest_44 : decode zm_P_digest.2.2.1 44 = .ok (.lstore_n 1, 1) := by decide +kernel
theorem d_P_digest_45 : decode zm_P_digest.2.2.1 45 = .ok (.iconst 0, 1) := by decide +kernel
theorem d_P_digest_46 : decode zm_P_digest.2.2.1 46 = .ok (.istore_n 3, 1) := by decide +kernel
theorem d_P_digest_47 : decode zm_P_digest.2.2.1 47 = .ok (.iload_n 3, 1) := by decide +kernel
theorem d_P_digest_48 : decode zm_P_digest.2.2.1 48 = .ok (.aload_n 0, 1) := by decide +kernel
theorem d_P_digest_49 : decode zm_P_digest.2.2.1 49 = .ok (.getfield 10, 3) := by decide +kernel
theorem d_P_digest_52 : decode zm_P_digest.2.2.1 52 = .ok (.invokevirtual 65, 3) := by decide +kernel
theorem d_P_digest_55 : decode zm_P_digest.2.2.1 55 = .ok (.if_icmp .ge 25, 3) := by decide +kernel
theorem d_P_digest_58 : decode zm_P_digest.2.2.1 58 = .ok (.ldc2_w 199, 3) := by decide +kernel
theorem d_P_digest_61 : decode zm_P_digest.2.2.1 61 = .ok (.lload_n 1, 1) := by decide +kernel
theorem d_P_digest_62 : decode zm_P_digest.2.2.1 62 = .ok (.lmul, 1) := by decide +kernel
theorem d_P_digest_63 : decode zm_P_digest.2.2.1 63 = .ok (.aload_n 0, 1) := by decide +kernel
theorem d_P_digest_64 : decode zm_P_digest.2.2.1 64 = .ok (.getfield 10, 3) := by decide +kernel
theorem d_P_digest_67 : decode zm_P_digest.2.2.1 67 = .ok (.iload_n 3, 1) := by decide +kernel
theorem d_P_digest_68 : decode zm_P_digest.2.2.1 68 = .ok (.invokevirtual 111, 3) := by decide +kernel
theorem d_P_digest_71 : decode zm_P_digest.2.2.1 71 = .ok (.i2l, 1) := by decide +kernel
theorem d_P_digest_72 : decode zm_P_digest.2.2.1 72 = .ok (.ladd, 1) := by decide +kernel
theorem d_P_digest_73 : decode zm_P_digest.2.2.1 73 = .ok (.lstore_n 1, 1) := by decide +kernel
theorem d_P_digest_74 : decode zm_P_digest.2.2.1 74 = .ok (.iinc 3 1, 3) := by decide +kernel
theorem d_P_digest_77 : decode zm_P_digest.2.2.1 77 = .ok (.goto (-30), 3) := by decide +kernel
theorem d_P_digest_80 : decode zm_P_digest.2.2.1 80 = .ok (.iconst 0, 1) := by decide +kernel
theorem d_P_digest_81 : decode zm_P_digest.2.2.1 81 = .ok (.istore_n 3, 1) := by decide +kernel
theorem d_P_digest_82 : decode zm_P_digest.2.2.1 82 = .ok (.iload_n 3, 1) := by decide +kernel
theorem d_P_digest_83 : decode zm_P_digest.2.2.1 83 = .ok (.iconst 5, 1) := by decide +kernel
theorem d_P_digest_84 : decode zm_P_digest.2.2.1 84 = .ok (.if_icmp .gt 22, 3) := by decide +kernel
theorem d_P_digest_87 : decode zm_P_digest.2.2.1 87 = .ok (.ldc2_w 199, 3) := by decide +kernel
theorem d_P_digest_90 : decode zm_P_digest.2.2.1 90 = .ok (.lload_n 1, 1) := by decide +kernel
theorem d_P_digest_91 : decode zm_P_digest.2.2.1 91 = .ok (.lmul, 1) := by decide +kernel
theorem d_P_digest_92 : decode zm_P_digest.2.2.1 92 = .ok (.aload_n 0, 1) := by decide +kernel
theorem d_P_digest_93 : decode zm_P_digest.2.2.1 93 = .ok (.iload_n 3, 1) := by decide +kernel
theorem d_P_digest_94 : decode zm_P_digest.2.2.1 94 = .ok (.invokevirtual 201, 3) := by decide +kernel
theorem d_P_digest_97 : decode zm_P_digest.2.2.1 97 = .ok (.i2l, 1) := by decide +kernel
theorem d_P_digest_98 : decode zm_P_digest.2.2.1 98 = .ok (.ladd, 1) := by decide +kernel
theorem d_P_digest_99 : decode zm_P_digest.2.2.1 99 = .ok (.lstore_n 1, 1) := by decide +kernel
theorem d_P_digest_100 : decode zm_P_digest.2.2.1 100 = .ok (.iinc 3 1, 3) := by decide +kernel
theorem d_P_digest_103 : decode zm_P_digest.2.2.1 103 = .ok (.goto (-21), 3) := by decide +kernel
theorem d_P_digest_106 : decode zm_P_digest.2.2.1 106 = .ok (.lload_n 1, 1) := by decide +kernel
theorem d_P_digest_107 : decode zm_P_digest.2.2.1 107 = .ok (.lreturn, 1) := by decide +kernel
theorem d_P_hashCopies_0 : decode zm_P_hashCopies.2.2.1 0 = .ok (.lload_n 1, 1) := by decide +kernel
theorem d_P_hashCopies_1 : decode zm_P_hashCopies.2.2.1 1 = .ok (.lstore_n 3, 1) := by decide +kernel
theorem d_P_hashCopies_2 : decode zm_P_hashCopies.2.2.1 2 = .ok (.iconst 0, 1) := by decide +kernel
theorem d_P_hashCopies_3 : decode zm_P_hashCopies.2.2.1 3 = .ok (.istore 5, 2) := by decide +kernel
theorem d_P_hashCopies_5 : decode zm_P_hashCopies.2.2.1 5 = .ok (.iload 5, 2) := by decide +kernel
theorem d_P_hashCopies_7 : decode zm_P_hashCopies.2.2.1 7 = .ok (.aload_n 0, 1) := by decide +kernel
theorem d_P_hashCopies_8 : decode zm_P_hashCopies.2.2.1 8 = .ok (.getfield 19, 3) := by decide +kernel
theorem d_P_hashCopies_11 : decode zm_P_hashCopies.2.2.1 11 = .ok (.invokevirtual 80, 3) := by decide +kernel
theorem d_P_hashCopies_14 : decode zm_P_hashCopies.2.2.1 14 = .ok (.if_icmp .ge 149, 3) := by decide +kernel
theorem d_P_hashCopies_17 : decode zm_P_hashCopies.2.2.1 17 = .ok (.iconst 0, 1) := by decide +kernel
theorem d_P_hashCopies_18 : decode zm_P_hashCopies.2.2.1 18 = .ok (.istore 6, 2) := by decide +kernel
theorem d_P_hashCopies_20 : decode zm_P_hashCopies.2.2.1 20 = .ok (.iload 6, 2) := by decide +kernel
theorem d_P_hashCopies_22 : decode zm_P_hashCopies.2.2.1 22 = .ok (.iconst 4, 1) := by decide +kernel
theorem d_P_hashCopies_23 : decode zm_P_hashCopies.2.2.1 23 = .ok (.if_icmp .gt 25, 3) := by decide +kernel
theorem d_P_hashCopies_26 : decode zm_P_hashCopies.2.2.1 26 = .ok (.ldc2_w 199, 3) := by decide +kernel
theorem d_P_hashCopies_29 : decode zm_P_hashCopies.2.2.1 29 = .ok (.lload_n 3, 1) := by decide +kernel
theorem d_P_hashCopies_30 : decode zm_P_hashCopies.2.2.1 30 = .ok (.lmul, 1) := by decide +kernel
theorem d_P_hashCopies_31 : decode zm_P_hashCopies.2.2.1 31 = .ok (.aload_n 0, 1) := by decide +kernel
theorem d_P_hashCopies_32 : decode zm_P_hashCopies.2.2.1 32 = .ok (.iload 5, 2) := by decide +kernel
theorem d_P_hashCopies_34 : decode zm_P_hashCopies.2.2.1 34 = .ok (.iload 6, 2) := by decide +kernel
theorem d_P_hashCopies_36 : decode zm_P_hashCopies.2.2.1 36 = .ok (.invokevirtual 106, 3) := by decide +kernel
theorem d_P_hashCopies_39 : decode zm_P_hashCopies.2.2.1 39 = .ok (.i2l, 1) := by decide +kernel
theorem d_P_hashCopies_40 : decode zm_P_hashCopies.2.2.1 40 = .ok (.ladd, 1) := by decide +kernel
theorem d_P_hashCopies_41 : decode zm_P_hashCopies.2.2.1 41 = .ok (.lstore_n 3, 1) := by decide +kernel
theorem d_P_hashCopies_42 : decode zm_P_hashCopies.2.2.1 42 = .ok (.iinc 6 1, 3) := by decide +kernel
theorem d_P_hashCopies_45 : decode zm_P_hashCopies.2.2.1 45 = .ok (.goto (-25), 3) := by decide +kernel
theorem d_P_hashCopies_48 : decode zm_P_hashCopies.2.2.1 48 = .ok (.aload_n 0, 1) := by decide +kernel
theorem d_P_hashCopies_49 : decode zm_P_hashCopies.2.2.1 49 = .ok (.getfield 19, 3) := by decide +kernel
theorem d_P_hashCopies_52 : decode zm_P_hashCopies.2.2.1 52 = .ok (.iload 5, 2) := by decide +kernel
theorem d_P_hashCopies_54 : decode zm_P_hashCopies.2.2.1 54 = .ok (.invokevirtual 89, 3) := by decide +kernel
theorem d_P_hashCopies_57 : decode zm_P_hashCopies.2.2.1 57 = .ok (.astore 6, 2) := by decide +kernel
theorem d_P_hashCopies_59 : decode zm_P_hashCopies.2.2.1 59 = .ok (.iconst 0, 1) := by decide +kernel
theorem d_P_hashCopies_60 : decode zm_P_hashCopies.2.2.1 60 = .ok (.istore 7, 2) := by decide +kernel
theorem d_P_hashCopies_62 : decode zm_P_hashCopies.2.2.1 62 = .ok (.iload 7, 2) := by decide +kernel
theorem d_P_hashCopies_64 : decode zm_P_hashCopies.2.2.1 64 = .ok (.aload 6, 2) := by decide +kernel
theorem d_P_hashCopies_66 : decode zm_P_hashCopies.2.2.1 66 = .ok (.invokevirtual 65, 3) := by decide +kernel
theorem d_P_hashCopies_69 : decode zm_P_hashCopies.2.2.1 69 = .ok (.if_icmp .ge 24, 3) := by decide +kernel
theorem d_P_hashCopies_72 : decode zm_P_hashCopies.2.2.1 72 = .ok (.ldc2_w 199, 3) := by decide +kernel
theorem d_P_hashCopies_75 : decode zm_P_hashCopies.2.2.1 75 = .ok (.lload_n 3, 1) := by decide +kernel
theorem d_P_hashCopies_76 : decode zm_P_hashCopies.2.2.1 76 = .ok (.lmul, 1) := by decide +kernel
theorem d_P_hashCopies_77 : decode zm_P_hashCopies.2.2.1 77 = .ok (.aload 6, 2) := by decide +kernel
theorem d_P_hashCopies_79 : decode zm_P_hashCopies.2.2.1 79 = .ok (.iload 7, 2) := by decide +kernel
theorem d_P_hashCopies_81 : decode zm_P_hashCopies.2.2.1 81 = .ok (.invokevirtual 111, 3) := by decide +kernel
theorem d_P_hashCopies_84 : decode zm_P_hashCopies.2.2.1 84 = .ok (.i2l, 1) := by decide +kernel
theorem d_P_hashCopies_85 : decode zm_P_hashCopies.2.2.1 85 = .ok (.ladd, 1) := by decide +kernel
theorem d_P_hashCopies_86 : decode zm_P_hashCopies.2.2.1 86 = .ok (.lstore_n 3, 1) := by decide +kernel
theorem d_P_hashCopies_87 : decode zm_P_hashCopies.2.2.1 87 = .ok (.iinc 7 1, 3) := by decide +kernel
theorem d_P_hashCopies_90 : decode zm_P_hashCopies.2.2.1 90 = .ok (.goto (-28), 3) := by decide +kernel
theorem d_P_hashCopies_93 : decode zm_P_hashCopies.2.2.1 93 = .ok (.aload_n 0, 1) := by decide +kernel
theorem d_P_hashCopies_94 : decode zm_P_hashCopies.2.2.1 94 = .ok (.getfield 26, 3) := by decide +kernel
theorem d_P_hashCopies_97 : decode zm_P_hashCopies.2.2.1 97 = .ok (.iload 5, 2) := by decide +kernel
theorem d_P_hashCopies_99 : decode zm_P_hashCopies.2.2.1 99 = .ok (.invokevirtual 130, 3) := by decide +kernel
theorem d_P_hashCopies_102 : decode zm_P_hashCopies.2.2.1 102 = .ok (.ifCond .eq 7, 3) := by decide +kernel
theorem d_P_hashCopies_105 : decode zm_P_hashCopies.2.2.1 105 = .ok (.iconst 0, 1) := by decide +kernel
theorem d_P_hashCopies_106 : decode zm_P_hashCopies.2.2.1 106 = .ok (.goto 14, 3) := by decide +kernel
theorem d_P_hashCopies_109 : decode zm_P_hashCopies.2.2.1 109 = .ok (.aload_n 0, 1) := by decide +kernel
theorem d_P_hashCopies_110 : decode zm_P_hashCopies.2.2.1 110 = .ok (.getfield 19, 3) := by decide +kernel
theorem d_P_hashCopies_113 : decode zm_P_hashCopies.2.2.1 113 = .ok (.iconst 0, 1) := by decide +kernel
theorem d_P_hashCopies_114 : decode zm_P_hashCopies.2.2.1 114 = .ok (.invokevirtual 89, 3) := by decide +kernel
theorem d_P_hashCopies_117 : decode zm_P_hashCopies.2.2.1 117 = .ok (.invokevirtual 65, 3) := by decide +kernel
theorem d_P_hashCopies_120 : decode zm_P_hashCopies.2.2.1 120 = .ok (.istore 7, 2) := by decide +kernel
theorem d_P_hashCopies_122 : decode zm_P_hashCopies.2.2.1 122 = .ok (.iconst 0, 1) := by decide +kernel
theorem d_P_hashCopies_123 : decode zm_P_hashCopies.2.2.1 123 = .ok (.istore 8, 2) := by decide +kernel
theorem d_P_hashCopies_125 : decode zm_P_hashCopies.2.2.1 125 = .ok (.iload 8, 2) := by decide +kernel
theorem d_P_hashCopies_127 : decode zm_P_hashCopies.2.2.1 127 = .ok (.iload 7, 2) := by decide +kernel
theorem d_P_hashCopies_129 : decode zm_P_hashCopies.2.2.1 129 = .ok (.if_icmp .ge 28, 3) := by decide +kernel
theorem d_P_hashCopies_132 : decode zm_P_hashCopies.2.2.1 132 = .ok (.ldc2_w 199, 3) := by decide +kernel
theorem d_P_hashCopies_135 : decode zm_P_hashCopies.2.2.1 135 = .ok (.lload_n 3, 1) := by decide +kernel
theorem d_P_hashCopies_136 : decode zm_P_hashCopies.2.2.1 136 = .ok (.lmul, 1) := by decide +kernel
theorem d_P_hashCopies_137 : decode zm_P_hashCopies.2.2.1 137 = .ok (.aload_n 0, 1) := by decide +kernel
theorem d_P_hashCopies_138 : decode zm_P_hashCopies.2.2.1 138 = .ok (.getfield 26, 3) := by decide +kernel
theorem d_P_hashCopies_141 : decode zm_P_hashCopies.2.2.1 141 = .ok (.iload 5, 2) := by decide +kernel
theorem d_P_hashCopies_143 : decode zm_P_hashCopies.2.2.1 143 = .ok (.iload 8, 2) := by decide +kernel
theorem d_P_hashCopies_145 : decode zm_P_hashCopies.2.2.1 145 = .ok (.invokevirtual 133, 3) := by decide +kernel
theorem d_P_hashCopies_148 : decode zm_P_hashCopies.2.2.1 148 = .ok (.i2l, 1) := by decide +kernel
theorem d_P_hashCopies_149 : decode zm_P_hashCopies.2.2.1 149 = .ok (.ladd, 1) := by decide +kernel
theorem d_P_hashCopies_150 : decode zm_P_hashCopies.2.2.1 150 = .ok (.lstore_n 3, 1) := by decide +kernel
theorem d_P_hashCopies_151 : decode zm_P_hashCopies.2.2.1 151 = .ok (.iinc 8 1, 3) := by decide +kernel
theorem d_P_hashCopies_154 : decode zm_P_hashCopies.2.2.1 154 = .ok (.goto (-29), 3) := by decide +kernel
theorem d_P_hashCopies_157 : decode zm_P_hashCopies.2.2.1 157 = .ok (.iinc 5 1, 3) := by decide +kernel
theorem d_P_hashCopies_160 : decode zm_P_hashCopies.2.2.1 160 = .ok (.goto (-155), 3) := by decide +kernel
theorem d_P_hashCopies_163 : decode zm_P_hashCopies.2.2.1 163 = .ok (.lload_n 3, 1) := by decide +kernel
theorem d_P_hashCopies_164 : decode zm_P_hashCopies.2.2.1 164 = .ok (.lreturn, 1) := by decide +kernel
theorem d_P_hashPairs_0 : decode zm_P_hashPairs.2.2.1 0 = .ok (.lload_n 1, 1) := by decide +kernel
theorem d_P_hashPairs_1 : decode zm_P_hashPairs.2.2.1 1 = .ok (.lstore_n 3, 1) := by decide +kernel
theorem d_P_hashPairs_2 : decode zm_P_hashPairs.2.2.1 2 = .ok (.iconst 0, 1) := by decide +kernel
theorem d_P_hashPairs_3 : decode zm_P_hashPairs.2.2.1 3 = .ok (.istore 5, 2) := by decide +kernel
theorem d_P_hashPairs_5 : decode zm_P_hashPairs.2.2.1 5 = .ok (.iload 5, 2) := by decide +kernel
theorem d_P_hashPairs_7 : decode zm_P_hashPairs.2.2.1 7 = .ok (.aload_n 0, 1) := by decide +kernel
theorem d_P_hashPairs_8 : decode zm_P_hashPairs.2.2.1 8 = .ok (.getfield 19, 3) := by decide +kernel
theorem d_P_hashPairs_11 : decode zm_P_hashPairs.2.2.1 11 = .ok (.invokevirtual 80, 3) := by decide +kernel
theorem d_P_hashPairs_14 : decode zm_P_hashPairs.2.2.1 14 = .ok (.if_icmp .ge 77, 3) := by decide +kernel
theorem d_P_hashPairs_17 : decode zm_P_hashPairs.2.2.1 17 = .ok (.iload 5, 2) := by decide +kernel
theorem d_P_hashPairs_19 : decode zm_P_hashPairs.2.2.1 19 = .ok (.iconst 1, 1) := by decide +kernel
theorem d_P_hashPairs_20 : decode zm_P_hashPairs.2.2.1 20 = .ok (.iadd, 1) := by decide +kernel
theorem d_P_hashPairs_21 : decode zm_P_hashPairs.2.2.1 21 = .ok (.istore 6, 2) := by decide +kernel
theorem d_P_hashPairs_23 : decode zm_P_hashPairs.2.2.1 23 = .ok (.iload 6, 2) := by decide +kernel
theorem d_P_hashPairs_25 : decode zm_P_hashPairs.2.2.1 25 = .ok (.aload_n 0, 1) := by decide +kernel
theorem d_P_hashPairs_26 : decode zm_P_hashPairs.2.2.1 26 = .ok (.getfield 19, 3) := by decide +kernel
theorem d_P_hashPairs_29 : decode zm_P_hashPairs.2.2.1 29 = .ok (.invokevirtual 80, 3) := by decide +kernel
theorem d_P_hashPairs_32 : decode zm_P_hashPairs.2.2.1 32 = .ok (.if_icmp .ge 53, 3) := by decide +kernel
theorem d_P_hashPairs_35 : decode zm_P_hashPairs.2.2.1 35 = .ok (.aload_n 0, 1) := by decide +kernel
theorem d_P_hashPairs_36 : decode zm_P_hashPairs.2.2.1 36 = .ok (.getfield 19, 3) := by decide +kernel
theorem d_P_hashPairs_39 : decode zm_P_hashPairs.2.2.1 39 = .ok (.iload 5, 2) := by decide +kernel
theorem d_P_hashPairs_41 : decode zm_P_hashPairs.2.2.1 41 = .ok (.iload 6, 2) := by decide +kernel
theorem d_P_hashPairs_43 : decode zm_P_hashPairs.2.2.1 43 = .ok (.invokevirtual 115, 3) := by decide +kernel
theorem d_P_hashPairs_46 : decode zm_P_hashPairs.2.2.1 46 = .ok (.astore 7, 2) := by decide +kernel
theorem d_P_hashPairs_48 : decode zm_P_hashPairs.2.2.1 48 = .ok (.iconst 0, 1) := by decide +kernel
theorem d_P_hashPairs_49 : decode zm_P_hashPairs.2.2.1 49 = .ok (.istore 8, 2) := by decide +kernel
theorem d_P_hashPairs_51 : decode zm_P_hashPairs.2.2.1 51 = .ok (.iload 8, 2) := by decide +kernel
theorem d_P_hashPairs_53 : decode zm_P_hashPairs.2.2.1 53 = .ok (.bipush 7, 2) := by decide +kernel
theorem d_P_hashPairs_55 : decode zm_P_hashPairs.2.2.1 55 = .ok (.if_icmp .ge 24, 3) := by decide +kernel
theorem d_P_hashPairs_58 : decode zm_P_hashPairs.2.2.1 58 = .ok (.ldc2_w 199, 3) := by decide +kernel
theorem d_P_hashPairs_61 : decode zm_P_hashPairs.2.2.1 61 = .ok (.lload_n 3, 1) := by decide +kernel
theorem d_P_hashPairs_62 : decode zm_P_hashPairs.2.2.1 62 = .ok (.lmul, 1) := by decide +kernel
theorem d_P_hashPairs_63 : decode zm_P_hashPairs.2.2.1 63 = .ok (.aload 7, 2) := by decide +kernel
theorem d_P_hashPairs_65 : decode zm_P_hashPairs.2.2.1 65 = .ok (.iload 8, 2) := by decide +kernel
theorem d_P_hashPairs_67 : decode zm_P_hashPairs.2.2.1 67 = .ok (.invokevirtual 119, 3) := by decide +kernel
theorem d_P_hashPairs_70 : decode zm_P_hashPairs.2.2.1 70 = .ok (.i2l, 1) := by decide +kernel
theorem d_P_hashPairs_71 : decode zm_P_hashPairs.2.2.1 71 = .ok (.ladd, 1) := by decide +kernel
theorem d_P_hashPairs_72 : decode zm_P_hashPairs.2.2.1 72 = .ok (.lstore_n 3, 1) := by decide +kernel
theorem d_P_hashPairs_73 : decode zm_P_hashPairs.2.2.1 73 = .ok (.iinc 8 1, 3) := by decide +kernel
theorem d_P_hashPairs_76 : decode zm_P_hashPairs.2.2.1 76 = .ok (.goto (-25), 3) := by decide +kernel
theorem d_P_hashPairs_79 : decode zm_P_hashPairs.2.2.1 79 = .ok (.iinc 6 1, 3) := by decide +kernel
theorem d_P_hashPairs_82 : decode zm_P_hashPairs.2.2.1 82 = .ok (.goto (-59), 3) := by decide +kernel
theorem d_P_hashPairs_85 : decode zm_P_hashPairs.2.2.1 85 = .ok (.iinc 5 1, 3) := by decide +kernel
theorem d_P_hashPairs_88 : decode zm_P_hashPairs.2.2.1 88 = .ok (.goto (-83), 3) := by decide +kernel
theorem d_P_hashPairs_91 : decode zm_P_hashPairs.2.2.1 91 = .ok (.lload_n 3, 1) := by decide +kernel
theorem d_P_hashPairs_92 : decode zm_P_hashPairs.2.2.1 92 = .ok (.lreturn, 1) := by decide +kernel
theorem d_P_hashStates_0 : decode zm_P_hashStates.2.2.1 0 = .ok (.lload_n 1, 1) := by decide +kernel
theorem d_P_hashStates_1 : decode zm_P_hashStates.2.2.1 1 = .ok (.lstore_n 3, 1) := by decide +kernel
theorem d_P_hashStates_2 : decode zm_P_hashStates.2.2.1 2 = .ok (.iconst 0, 1) := by decide +kernel
theorem d_P_hashStates_3 : decode zm_P_hashStates.2.2.1 3 = .ok (.istore 5, 2) := by decide +kernel
theorem d_P_hashStates_5 : decode zm_P_hashStates.2.2.1 5 = .ok (.iload 5, 2) := by decide +kernel
theorem d_P_hashStates_7 : decode zm_P_hashStates.2.2.1 7 = .ok (.iconst 5, 1) := by decide +kernel
theorem d_P_hashStates_8 : decode zm_P_hashStates.2.2.1 8 = .ok (.if_icmp .gt 26, 3) := by decide +kernel
theorem d_P_hashStates_11 : decode zm_P_hashStates.2.2.1 11 = .ok (.ldc2_w 199, 3) := by decide +kernel
theorem d_P_hashStates_14 : decode zm_P_hashStates.2.2.1 14 = .ok (.lload_n 3, 1) := by decide +kernel
theorem d_P_hashStates_15 : decode zm_P_hashStates.2.2.1 15 = .ok (.lmul, 1) := by decide +kernel
theorem d_P_hashStates_16 : decode zm_P_hashStates.2.2.1 16 = .ok (.aload_n 0, 1) := by decide +kernel
theorem d_P_hashStates_17 : decode zm_P_hashStates.2.2.1 17 = .ok (.getfield 26, 3) := by decide +kernel
theorem d_P_hashStates_20 : decode zm_P_hashStates.2.2.1 20 = .ok (.iload 5, 2) := by decide +kernel
theorem d_P_hashStates_22 : decode zm_P_hashStates.2.2.1 22 = .ok (.invokevirtual 136, 3) := by decide +kernel
theorem d_P_hashStates_25 : decode zm_P_hashStates.2.2.1 25 = .ok (.i2l, 1) := by decide +kernel
theorem d_P_hashStates_26 : decode zm_P_hashStates.2.2.1 26 = .ok (.ladd, 1) := by decide +kernel
theorem d_P_hashStates_27 : decode zm_P_hashStates.2.2.1 27 = .ok (.lstore_n 3, 1) := by decide +kernel
theorem d_P_hashStates_28 : decode zm_P_hashStates.2.2.1 28 = .ok (.iinc 5 1, 3) := by decide +kernel
theorem d_P_hashStates_31 : decode zm_P_hashStates.2.2.1 31 = .ok (.goto (-26), 3) := by decide +kernel
theorem d_P_hashStates_34 : decode zm_P_hashStates.2.2.1 34 = .ok (.iconst 0, 1) := by decide +kernel
theorem d_P_hashStates_35 : decode zm_P_hashStates.2.2.1 35 = .ok (.istore 5, 2) := by decide +kernel
theorem d_P_hashStates_37 : decode zm_P_hashStates.2.2.1 37 = .ok (.iload 5, 2) := by decide +kernel
theorem d_P_hashStates_39 : decode zm_P_hashStates.2.2.1 39 = .ok (.aload_n 0, 1) := by decide +kernel
theorem d_P_hashStates_40 : decode zm_P_hashStates.2.2.1 40 = .ok (.getfield 26, 3) := by decide +kernel
theorem d_P_hashStates_43 : decode zm_P_hashStates.2.2.1 43 = .ok (.invokevirtual 204, 3) := by decide +kernel
theorem d_P_hashStates_46 : decode zm_P_hashStates.2.2.1 46 = .ok (.if_icmp .ge 44, 3) := by decide +kernel
theorem d_P_hashStates_49 : decode zm_P_hashStates.2.2.1 49 = .ok (.iconst 0, 1) := by decide +kernel
theorem d_P_hashStates_50 : decode zm_P_hashStates.2.2.1 50 = .ok (.istore 6, 2) := by decide +kernel
theorem d_P_hashStates_52 : decode zm_P_hashStates.2.2.1 52 = .ok (.iload 6, 2) := by decide +kernel
theorem d_P_hashStates_54 : decode zm_P_hashStates.2.2.1 54 = .ok (.bipush 6, 2) := by decide +kernel
theorem d_P_hashStates_56 : decode zm_P_hashStates.2.2.1 56 = .ok (.if_icmp .gt 28, 3) := by decide +kernel
theorem d_P_hashStates_59 : decode zm_P_hashStates.2.2.1 59 = .ok (.ldc2_w 199, 3) := by decide +kernel
theorem d_P_hashStates_62 : decode zm_P_hashStates.2.2.1 62 = .ok (.lload_n 3, 1) := by decide +kernel
theorem d_P_hashStates_63 : decode zm_P_hashStates.2.2.1 63 = .ok (.lmul, 1) := by decide +kernel
theorem d_P_hashStates_64 : decode zm_P_hashStates.2.2.1 64 = .ok (.aload_n 0, 1) := by decide +kernel
theorem d_P_hashStates_65 : decode zm_P_hashStates.2.2.1 65 = .ok (.getfield 26, 3) := by decide +kernel
theorem d_P_hashStates_68 : decode zm_P_hashStates.2.2.1 68 = .ok (.iload 5, 2) := by decide +kernel
theorem d_P_hashStates_70 : decode zm_P_hashStates.2.2.1 70 = .ok (.iload 6, 2) := by decide +kernel
theorem d_P_hashStates_72 : decode zm_P_hashStates.2.2.1 72 = .ok (.invokevirtual 140, 3) := by decide +kernel
theorem d_P_hashStates_75 : decode zm_P_hashStates.2.2.1 75 = .ok (.i2l, 1) := by decide +kernel
theorem d_P_hashStates_76 : decode zm_P_hashStates.2.2.1 76 = .ok (.ladd, 1) := by decide +kernel
theorem d_P_hashStates_77 : decode zm_P_hashStates.2.2.1 77 = .ok (.lstore_n 3, 1) := by decide +kernel
theorem d_P_hashStates_78 : decode zm_P_hashStates.2.2.1 78 = .ok (.iinc 6 1, 3) := by decide +kernel
theorem d_P_hashStates_81 : decode zm_P_hashStates.2.2.1 81 = .ok (.goto (-29), 3) := by decide +kernel
theorem d_P_hashStates_84 : decode zm_P_hashStates.2.2.1 84 = .ok (.iinc 5 1, 3) := by decide +kernel
theorem d_P_hashStates_87 : decode zm_P_hashStates.2.2.1 87 = .ok (.goto (-50), 3) := by decide +kernel
theorem d_P_hashStates_90 : decode zm_P_hashStates.2.2.1 90 = .ok (.lload_n 3, 1) := by decide +kernel
theorem d_P_hashStates_91 : decode zm_P_hashStates.2.2.1 91 = .ok (.lreturn, 1) := by decide +kernel
theorem d_P_hashSightings_0 : decode zm_P_hashSightings.2.2.1 0 = .ok (.lload_n 1, 1) := by decide +kernel
theorem d_P_hashSightings_1 : decode zm_P_hashSightings.2.2.1 1 = .ok (.lstore_n 3, 1) := by decide +kernel
theorem d_P_hashSightings_2 : decode zm_P_hashSightings.2.2.1 2 = .ok (.iconst 0, 1) := by decide +kernel
theorem d_P_hashSightings_3 : decode zm_P_hashSightings.2.2.1 3 = .ok (.istore 5, 2) := by decide +kernel
theorem d_P_hashSightings_5 : decode zm_P_hashSightings.2.2.1 5 = .ok (.iload 5, 2) := by decide +kernel
theorem d_P_hashSightings_7 : decode zm_P_hashSightings.2.2.1 7 = .ok (.aload_n 0, 1) := by decide +kernel
theorem d_P_hashSightings_8 : decode zm_P_hashSightings.2.2.1 8 = .ok (.getfield 33, 3) := by decide +kernel
theorem d_P_hashSightings_11 : decode zm_P_hashSightings.2.2.1 11 = .ok (.invokevirtual 154, 3) := by decide +kernel
theorem d_P_hashSightings_14 : decode zm_P_hashSightings.2.2.1 14 = .ok (.if_icmp .ge 43, 3) := by decide +kernel
theorem d_P_hashSightings_17 : decode zm_P_hashSightings.2.2.1 17 = .ok (.iconst 0, 1) := by decide +kernel
theorem d_P_hashSightings_18 : decode zm_P_hashSightings.2.2.1 18 = .ok (.istore 6, 2) := by decide +kernel
theorem d_P_hashSightings_20 : decode zm_P_hashSightings.2.2.1 20 = .ok (.iload 6, 2) := by decide +kernel
theorem d_P_hashSightings_22 : decode zm_P_hashSightings.2.2.1 22 = .ok (.iconst 4, 1) := by decide +kernel
theorem d_P_hashSightings_23 : decode zm_P_hashSightings.2.2.1 23 = .ok (.if_icmp .ge 28, 3) := by decide +kernel
theorem d_P_hashSightings_26 : decode zm_P_hashSightings.2.2.1 26 = .ok (.ldc2_w 199, 3) := by decide +kernel
theorem d_P_hashSightings_29 : decode zm_P_hashSightings.2.2.1 29 = .ok (.lload_n 3, 1) := by decide +kernel
theorem d_P_hashSightings_30 : decode zm_P_hashSightings.2.2.1 30 = .ok (.lmul, 1) := by decide +kernel
theorem d_P_hashSightings_31 : decode zm_P_hashSightings.2.2.1 31 = .ok (.aload_n 0, 1) := by decide +kernel
theorem d_P_hashSightings_32 : decode zm_P_hashSightings.2.2.1 32 = .ok (.getfield 33, 3) := by decide +kernel
theorem d_P_hashSightings_35 : decode zm_P_hashSightings.2.2.1 35 = .ok (.iload 5, 2) := by decide +kernel
theorem d_P_hashSightings_37 : decode zm_P_hashSightings.2.2.1 37 = .ok (.iload 6, 2) := by decide +kernel
theorem d_P_hashSightings_39 : decode zm_P_hashSightings.2.2.1 39 = .ok (.invokevirtual 163, 3) := by decide +kernel
theorem d_P_hashSightings_42 : decode zm_P_hashSightings.2.2.1 42 = .ok (.i2l, 1) := by decide +kernel
theorem d_P_hashSightings_43 : decode zm_P_hashSightings.2.2.1 43 = .ok (.ladd, 1) := by decide +kernel
theorem d_P_hashSightings_44 : decode zm_P_hashSightings.2.2.1 44 = .ok (.lstore_n 3, 1) := by decide +kernel
theorem d_P_hashSightings_45 : decode zm_P_hashSightings.2.2.1 45 = .ok (.iinc 6 1, 3) := by decide +kernel
theorem d_P_hashSightings_48 : decode zm_P_hashSightings.2.2.1 48 = .ok (.goto (-28), 3) := by decide +kernel
theorem d_P_hashSightings_51 : decode zm_P_hashSightings.2.2.1 51 = .ok (.iinc 5 1, 3) := by decide +kernel
theorem d_P_hashSightings_54 : decode zm_P_hashSightings.2.2.1 54 = .ok (.goto (-49), 3) := by decide +kernel
theorem d_P_hashSightings_57 : decode zm_P_hashSightings.2.2.1 57 = .ok (.lload_n 3, 1) := by decide +kernel
theorem d_P_hashSightings_58 : decode zm_P_hashSightings.2.2.1 58 = .ok (.lreturn, 1) := by decide +kernel
theorem d_P_hashFormes_0 : decode zm_P_hashFormes.2.2.1 0 = .ok (.lload_n 1, 1) := by decide +kernel
theorem d_P_hashFormes_1 : decode zm_P_hashFormes.2.2.1 1 = .ok (.lstore_n 3, 1) := by decide +kernel
theorem d_P_hashFormes_2 : decode zm_P_hashFormes.2.2.1 2 = .ok (.iconst 0, 1) := by decide +kernel
theorem d_P_hashFormes_3 : decode zm_P_hashFormes.2.2.1 3 = .ok (.istore 5, 2) := by decide +kernel
theorem d_P_hashFormes_5 : decode zm_P_hashFormes.2.2.1 5 = .ok (.iload 5, 2) := by decide +kernel
theorem d_P_hashFormes_7 : decode zm_P_hashFormes.2.2.1 7 = .ok (.bipush 6, 2) := by decide +kernel
theorem d_P_hashFormes_9 : decode zm_P_hashFormes.2.2.1 9 = .ok (.if_icmp .ge 40, 3) := by decide +kernel
theorem d_P_hashFormes_12 : decode zm_P_hashFormes.2.2.1 12 = .ok (.iconst 0, 1) := by decide +kernel
theorem d_P_hashFormes_13 : decode zm_P_hashFormes.2.2.1 13 = .ok (.istore 6, 2) := by decide +kernel
theorem d_P_hashFormes_15 : decode zm_P_hashFormes.2.2.1 15 = .ok (.iload 6, 2) := by decide +kernel
theorem d_P_hashFormes_17 : decode zm_P_hashFormes.2.2.1 17 = .ok (.iconst 4, 1) := by decide +kernel
theorem d_P_hashFormes_18 : decode zm_P_hashFormes.2.2.1 18 = .ok (.if_icmp .gt 25, 3) := by decide +kernel
theorem d_P_hashFormes_21 : decode zm_P_hashFormes.2.2.1 21 = .ok (.ldc2_w 199, 3) := by decide +kernel
theorem d_P_hashFormes_24 : decode zm_P_hashFormes.2.2.1 24 = .ok (.lload_n 3, 1) := by decide +kernel
theorem d_P_hashFormes_25 : decode zm_P_hashFormes.2.2.1 25 = .ok (.lmul, 1) := by decide +kernel
theorem d_P_hashFormes_26 : decode zm_P_hashFormes.2.2.1 26 = .ok (.aload_n 0, 1) := by decide +kernel
theorem d_P_hashFormes_27 : decode zm_P_hashFormes.2.2.1 27 = .ok (.iload 5, 2) := by decide +kernel
theorem d_P_hashFormes_29 : decode zm_P_hashFormes.2.2.1 29 = .ok (.iload 6, 2) := by decide +kernel
theorem d_P_hashFormes_31 : decode zm_P_hashFormes.2.2.1 31 = .ok (.invokevirtual 166, 3) := by decide +kernel
theorem d_P_hashFormes_34 : decode zm_P_hashFormes.2.2.1 34 = .ok (.i2l, 1) := by decide +kernel
theorem d_P_hashFormes_35 : decode zm_P_hashFormes.2.2.1 35 = .ok (.ladd, 1) := by decide +kernel
theorem d_P_hashFormes_36 : decode zm_P_hashFormes.2.2.1 36 = .ok (.lstore_n 3, 1) := by decide +kernel
theorem d_P_hashFormes_37 : decode zm_P_hashFormes.2.2.1 37 = .ok (.iinc 6 1, 3) := by decide +kernel
theorem d_P_hashFormes_40 : decode zm_P_hashFormes.2.2.1 40 = .ok (.goto (-25), 3) := by decide +kernel
theorem d_P_hashFormes_43 : decode zm_P_hashFormes.2.2.1 43 = .ok (.iinc 5 1, 3) := by decide +kernel
theorem d_P_hashFormes_46 : decode zm_P_hashFormes.2.2.1 46 = .ok (.goto (-41), 3) := by decide +kernel
theorem d_P_hashFormes_49 : decode zm_P_hashFormes.2.2.1 49 = .ok (.iconst 0, 1) := by decide +kernel
theorem d_P_hashFormes_50 : decode zm_P_hashFormes.2.2.1 50 = .ok (.istore 5, 2) := by decide +kernel
theorem d_P_hashFormes_52 : decode zm_P_hashFormes.2.2.1 52 = .ok (.iload 5, 2) := by decide +kernel
theorem d_P_hashFormes_54 : decode zm_P_hashFormes.2.2.1 54 = .ok (.iconst 5, 1) := by decide +kernel
theorem d_P_hashFormes_55 : decode zm_P_hashFormes.2.2.1 55 = .ok (.if_icmp .gt 23, 3) := by decide +kernel
theorem d_P_hashFormes_58 : decode zm_P_hashFormes.2.2.1 58 = .ok (.ldc2_w 199, 3) := by decide +kernel
theorem d_P_hashFormes_61 : decode zm_P_hashFormes.2.2.1 61 = .ok (.lload_n 3, 1) := by decide +kernel
theorem d_P_hashFormes_62 : decode zm_P_hashFormes.2.2.1 62 = .ok (.lmul, 1) := by decide +kernel
theorem d_P_hashFormes_63 : decode zm_P_hashFormes.2.2.1 63 = .ok (.aload_n 0, 1) := by decide +kernel
theorem d_P_hashFormes_64 : decode zm_P_hashFormes.2.2.1 64 = .ok (.iload 5, 2) := by decide +kernel
theorem d_P_hashFormes_66 : decode zm_P_hashFormes.2.2.1 66 = .ok (.invokevirtual 169, 3) := by decide +kernel
theorem d_P_hashFormes_69 : decode zm_P_hashFormes.2.2.1 69 = .ok (.i2l, 1) := by decide +kernel
theorem d_P_hashFormes_70 : decode zm_P_hashFormes.2.2.1 70 = .ok (.ladd, 1) := by decide +kernel
theorem d_P_hashFormes_71 : decode zm_P_hashFormes.2.2.1 71 = .ok (.lstore_n 3, 1) := by decide +kernel
theorem d_P_hashFormes_72 : decode zm_P_hashFormes.2.2.1 72 = .ok (.iinc 5 1, 3) := by decide +kernel
theorem d_P_hashFormes_75 : decode zm_P_hashFormes.2.2.1 75 = .ok (.goto (-23), 3) := by decide +kernel
theorem d_P_hashFormes_78 : decode zm_P_hashFormes.2.2.1 78 = .ok (.iconst 0, 1) := by decide +kernel
theorem d_P_hashFormes_79 : decode zm_P_hashFormes.2.2.1 79 = .ok (.istore 5, 2) := by decide +kernel
theorem d_P_hashFormes_81 : decode zm_P_hashFormes.2.2.1 81 = .ok (.iload 5, 2) := by decide +kernel
theorem d_P_hashFormes_83 : decode zm_P_hashFormes.2.2.1 83 = .ok (.aload_n 0, 1) := by decide +kernel
theorem d_P_hashFormes_84 : decode zm_P_hashFormes.2.2.1 84 = .ok (.getfield 40, 3) := by decide +kernel
theorem d_P_hashFormes_87 : decode zm_P_hashFormes.2.2.1 87 = .ok (.invokevirtual 205, 3) := by decide +kernel
theorem d_P_hashFormes_90 : decode zm_P_hashFormes.2.2.1 90 = .ok (.if_icmp .ge 26, 3) := by decide +kernel
theorem d_P_hashFormes_93 : decode zm_P_hashFormes.2.2.1 93 = .ok (.ldc2_w 199, 3) := by decide +kernel
theorem d_P_hashFormes_96 : decode zm_P_hashFormes.2.2.1 96 = .ok (.lload_n 3, 1) := by decide +kernel
theorem d_P_hashFormes_97 : decode zm_P_hashFormes.2.2.1 97 = .ok (.lmul, 1) := by decide +kernel
theorem d_P_hashFormes_98 : decode zm_P_hashFormes.2.2.1 98 = .ok (.aload_n 0, 1) := by decide +kernel
theorem d_P_hashFormes_99 : decode zm_P_hashFormes.2.2.1 99 = .ok (.getfield 40, 3) := by decide +kernel
theorem d_P_hashFormes_102 : decode zm_P_hashFormes.2.2.1 102 = .ok (.iload 5, 2) := by decide +kernel
theorem d_P_hashFormes_104 : decode zm_P_hashFormes.2.2.1 104 = .ok (.invokevirtual 178, 3) := by decide +kernel
theorem d_P_hashFormes_107 : decode zm_P_hashFormes.2.2.1 107 = .ok (.i2l, 1) := by decide +kernel
theorem d_P_hashFormes_108 : decode zm_P_hashFormes.2.2.1 108 = .ok (.ladd, 1) := by decide +kernel
theorem d_P_hashFormes_109 : decode zm_P_hashFormes.2.2.1 109 = .ok (.lstore_n 3, 1) := by decide +kernel
theorem d_P_hashFormes_110 : decode zm_P_hashFormes.2.2.1 110 = .ok (.iinc 5 1, 3) := by decide +kernel
theorem d_P_hashFormes_113 : decode zm_P_hashFormes.2.2.1 113 = .ok (.goto (-32), 3) := by decide +kernel
theorem d_P_hashFormes_116 : decode zm_P_hashFormes.2.2.1 116 = .ok (.lload_n 3, 1) := by decide +kernel
theorem d_P_hashFormes_117 : decode zm_P_hashFormes.2.2.1 117 = .ok (.lreturn, 1) := by decide +kernel
theorem d_P_describeCopy_0 : decode zm_P_describeCopy.2.2.1 0 = .ok (.iload_n 2, 1) := by decide +kernel
theorem d_P_describeCopy_1 : decode zm_P_describeCopy.2.2.1 1 = .ok (.ifCond .ne 15, 3) := by decide +kernel
theorem d_P_describeCopy_4 : decode zm_P_describeCopy.2.2.1 4 = .ok (.aload_n 0, 1) := by decide +kernel
theorem d_P_describeCopy_5 : decode zm_P_describeCopy.2.2.1 5 = .ok (.getfield 19, 3) := by decide +kernel
theorem d_P_describeCopy_8 : decode zm_P_describeCopy.2.2.1 8 = .ok (.iload_n 1, 1) := by decide +kernel
theorem d_P_describeCopy_9 : decode zm_P_describeCopy.2.2.1 9 = .ok (.invokevirtual 89, 3) := by decide +kernel
theorem d_P_describeCopy_12 : decode zm_P_describeCopy.2.2.1 12 = .ok (.invokevirtual 65, 3) := by decide +kernel
theorem d_P_describeCopy_15 : decode zm_P_describeCopy.2.2.1 15 = .ok (.ireturn, 1) := by decide +kernel
theorem d_P_describeCopy_16 : decode zm_P_describeCopy.2.2.1 16 = .ok (.aload_n 0, 1) := by decide +kernel
theorem d_P_describeCopy_17 : decode zm_P_describeCopy.2.2.1 17 = .ok (.getfield 26, 3) := by decide +kernel
theorem d_P_describeCopy_20 : decode zm_P_describeCopy.2.2.1 20 = .ok (.iload_n 1, 1) := by decide +kernel
theorem d_P_describeCopy_21 : decode zm_P_describeCopy.2.2.1 21 = .ok (.invokevirtual 130, 3) := by decide +kernel
theorem d_P_describeCopy_24 : decode zm_P_describeCopy.2.2.1 24 = .ok (.ifCond .eq 5, 3) := by decide +kernel
theorem d_P_describeCopy_27 : decode zm_P_describeCopy.2.2.1 27 = .ok (.iconst (-1), 1) := by decide +kernel
theorem d_P_describeCopy_28 : decode zm_P_describeCopy.2.2.1 28 = .ok (.ireturn, 1) := by decide +kernel
theorem d_P_describeCopy_29 : decode zm_P_describeCopy.2.2.1 29 = .ok (.iload_n 2, 1) := by decide +kernel
theorem d_P_describeCopy_30 : decode zm_P_describeCopy.2.2.1 30 = .ok (.tableswitch 64 1 3 #[26, 35, 49], 26) := by decide +kernel
theorem d_P_describeCopy_56 : decode zm_P_describeCopy.2.2.1 56 = .ok (.aload_n 0, 1) := by decide +kernel
theorem d_P_describeCopy_57 : decode zm_P_describeCopy.2.2.1 57 = .ok (.getfield 26, 3) := by decide +kernel
theorem d_P_describeCopy_60 : decode zm_P_describeCopy.2.2.1 60 = .ok (.iload_n 1, 1) := by decide +kernel
theorem d_P_describeCopy_61 : decode zm_P_describeCopy.2.2.1 61 = .ok (.invokevirtual 208, 3) := by decide +kernel
theorem d_P_describeCopy_64 : decode zm_P_describeCopy.2.2.1 64 = .ok (.ireturn, 1) := by decide +kernel
theorem d_P_describeCopy_65 : decode zm_P_describeCopy.2.2.1 65 = .ok (.aload_n 0, 1) := by decide +kernel
theorem d_P_describeCopy_66 : decode zm_P_describeCopy.2.2.1 66 = .ok (.getfield 19, 3) := by decide +kernel
theorem d_P_describeCopy_69 : decode zm_P_describeCopy.2.2.1 69 = .ok (.iconst 0, 1) := by decide +kernel
theorem d_P_describeCopy_70 : decode zm_P_describeCopy.2.2.1 70 = .ok (.iload_n 1, 1) := by decide +kernel
theorem d_P_describeCopy_71 : decode zm_P_describeCopy.2.2.1 71 = .ok (.invokevirtual 115, 3) := by decide +kernel
theorem d_P_describeCopy_74 : decode zm_P_describeCopy.2.2.1 74 = .ok (.iconst 0, 1) := by decide +kernel
theorem d_P_describeCopy_75 : decode zm_P_describeCopy.2.2.1 75 = .ok (.invokevirtual 119, 3) := by decide +kernel
theorem d_P_describeCopy_78 : decode zm_P_describeCopy.2.2.1 78 = .ok (.ireturn, 1) := by decide +kernel
theorem d_P_describeCopy_79 : decode zm_P_describeCopy.2.2.1 79 = .ok (.aload_n 0, 1) := by decide +kernel
theorem d_P_describeCopy_80 : decode zm_P_describeCopy.2.2.1 80 = .ok (.getfield 19, 3) := by decide +kernel
theorem d_P_describeCopy_83 : decode zm_P_describeCopy.2.2.1 83 = .ok (.iconst 0, 1) := by decide +kernel
theorem d_P_describeCopy_84 : decode zm_P_describeCopy.2.2.1 84 = .ok (.iload_n 1, 1) := by decide +kernel
theorem d_P_describeCopy_85 : decode zm_P_describeCopy.2.2.1 85 = .ok (.invokevirtual 115, 3) := by decide +kernel
theorem d_P_describeCopy_88 : decode zm_P_describeCopy.2.2.1 88 = .ok (.bipush 6, 2) := by decide +kernel
theorem d_P_describeCopy_90 : decode zm_P_describeCopy.2.2.1 90 = .ok (.invokevirtual 119, 3) := by decide +kernel
theorem d_P_describeCopy_93 : decode zm_P_describeCopy.2.2.1 93 = .ok (.ireturn, 1) := by decide +kernel
theorem d_P_describeCopy_94 : decode zm_P_describeCopy.2.2.1 94 = .ok (.aload_n 0, 1) := by decide +kernel
theorem d_P_describeCopy_95 : decode zm_P_describeCopy.2.2.1 95 = .ok (.getfield 26, 3) := by decide +kernel
theorem d_P_describeCopy_98 : decode zm_P_describeCopy.2.2.1 98 = .ok (.iconst 0, 1) := by decide +kernel
theorem d_P_describeCopy_99 : decode zm_P_describeCopy.2.2.1 99 = .ok (.iload_n 1, 1) := by decide +kernel
theorem d_P_describeCopy_100 : decode zm_P_describeCopy.2.2.1 100 = .ok (.invokevirtual 211, 3) := by decide +kernel
theorem d_P_describeCopy_103 : decode zm_P_describeCopy.2.2.1 103 = .ok (.ireturn, 1) := by decide +kernel
theorem d_P_describeForme_0 : decode zm_P_describeForme.2.2.1 0 = .ok (.aload_n 0, 1) := by decide +kernel
theorem d_P_describeForme_1 : decode zm_P_describeForme.2.2.1 1 = .ok (.getfield 40, 3) := by decide +kernel
theorem d_P_describeForme_4 : decode zm_P_describeForme.2.2.1 4 = .ok (.aload_n 0, 1) := by decide +kernel
theorem d_P_describeForme_5 : decode zm_P_describeForme.2.2.1 5 = .ok (.getfield 33, 3) := by decide +kernel
theorem d_P_describeForme_8 : decode zm_P_describeForme.2.2.1 8 = .ok (.invokevirtual 172, 3) := by decide +kernel
theorem d_P_describeForme_11 : decode zm_P_describeForme.2.2.1 11 = .ok (.iload_n 2, 1) := by decide +kernel
theorem d_P_describeForme_12 : decode zm_P_describeForme.2.2.1 12 = .ok (.tableswitch 71 0 3 #[32, 44, 53, 62], 32) := by decide +kernel
theorem d_P_describeForme_44 : decode zm_P_describeForme.2.2.1 44 = .ok (.aload_n 0, 1) := by decide +kernel
theorem d_P_describeForme_45 : decode zm_P_describeForme.2.2.1 45 = .ok (.getfield 40, 3) := by decide +kernel
theorem d_P_describeForme_48 : decode zm_P_describeForme.2.2.1 48 = .ok (.iload_n 1, 1) := by decide +kernel
theorem d_P_describeForme_49 : decode zm_P_describeForme.2.2.1 49 = .ok (.invokevirtual 214, 3) := by decide +kernel
theorem d_P_describeForme_52 : decode zm_P_describeForme.2.2.1 52 = .ok (.invokestatic 217, 3) := by decide +kernel
theorem d_P_describeForme_55 : decode zm_P_describeForme.2.2.1 55 = .ok (.ireturn, 1) := by decide +kernel
theorem d_P_describeForme_56 : decode zm_P_describeForme.2.2.1 56 = .ok (.aload_n 0, 1) := by decide +kernel
theorem d_P_describeForme_57 : decode zm_P_describeForme.2.2.1 57 = .ok (.getfield 40, 3) := by decide +kernel
theorem d_P_describeForme_60 : decode zm_P_describeForme.2.2.1 60 = .ok (.iload_n 1, 1) := by decide +kernel
theorem d_P_describeForme_61 : decode zm_P_describeForme.2.2.1 61 = .ok (.invokevirtual 222, 3) := by decide +kernel
theorem d_P_describeForme_64 : decode zm_P_describeForme.2.2.1 64 = .ok (.ireturn, 1) := by decide +kernel
theorem d_P_describeForme_65 : decode zm_P_describeForme.2.2.1 65 = .ok (.aload_n 0, 1) := by decide +kernel
theorem d_P_describeForme_66 : decode zm_P_describeForme.2.2.1 66 = .ok (.getfield 40, 3) := by decide +kernel
theorem d_P_describeForme_69 : decode zm_P_describeForme.2.2.1 69 = .ok (.iload_n 1, 1) := by decide +kernel
theorem d_P_describeForme_70 : decode zm_P_describeForme.2.2.1 70 = .ok (.invokevirtual 225, 3) := by decide +kernel
theorem d_P_describeForme_73 : decode zm_P_describeForme.2.2.1 73 = .ok (.ireturn, 1) := by decide +kernel
theorem d_P_describeForme_74 : decode zm_P_describeForme.2.2.1 74 = .ok (.aload_n 0, 1) := by decide +kernel
theorem d_P_describeForme_75 : decode zm_P_describeForme.2.2.1 75 = .ok (.getfield 40, 3) := by decide +kernel
theorem d_P_describeForme_78 : decode zm_P_describeForme.2.2.1 78 = .ok (.iload_n 1, 1) := by decide +kernel
theorem d_P_describeForme_79 : decode zm_P_describeForme.2.2.1 79 = .ok (.invokevirtual 228, 3) := by decide +kernel
theorem d_P_describeForme_82 : decode zm_P_describeForme.2.2.1 82 = .ok (.ireturn, 1) := by decide +kernel
theorem d_P_describeForme_83 : decode zm_P_describeForme.2.2.1 83 = .ok (.aload_n 0, 1) := by decide +kernel
theorem d_P_describeForme_84 : decode zm_P_describeForme.2.2.1 84 = .ok (.getfield 54, 3) := by decide +kernel
theorem d_P_describeForme_87 : decode zm_P_describeForme.2.2.1 87 = .ok (.aload_n 0, 1) := by decide +kernel
theorem d_P_describeForme_88 : decode zm_P_describeForme.2.2.1 88 = .ok (.getfield 40, 3) := by decide +kernel
theorem d_P_describeForme_91 : decode zm_P_describeForme.2.2.1 91 = .ok (.invokevirtual 231, 3) := by decide +kernel
theorem d_P_describeForme_94 : decode zm_P_describeForme.2.2.1 94 = .ok (.aload_n 0, 1) := by decide +kernel
theorem d_P_describeForme_95 : decode zm_P_describeForme.2.2.1 95 = .ok (.getfield 54, 3) := by decide +kernel
theorem d_P_describeForme_98 : decode zm_P_describeForme.2.2.1 98 = .ok (.iload_n 1, 1) := by decide +kernel
theorem d_P_describeForme_99 : decode zm_P_describeForme.2.2.1 99 = .ok (.invokevirtual 234, 3) := by decide +kernel
theorem d_P_describeForme_102 : decode zm_P_describeForme.2.2.1 102 = .ok (.ireturn, 1) := by decide +kernel
theorem d_P_describeFormes_0 : decode zm_P_describeFormes.2.2.1 0 = .ok (.aload_n 0, 1) := by decide +kernel
theorem d_P_describeFormes_1 : decode zm_P_describeFormes.2.2.1 1 = .ok (.getfield 40, 3) := by decide +kernel
theorem d_P_describeFormes_4 : decode zm_P_describeFormes.2.2.1 4 = .ok (.aload_n 0, 1) := by decide +kernel
theorem d_P_describeFormes_5 : decode zm_P_describeFormes.2.2.1 5 = .ok (.getfield 33, 3) := by decide +kernel
theorem d_P_describeFormes_8 : decode zm_P_describeFormes.2.2.1 8 = .ok (.invokevirtual 172, 3) := by decide +kernel
theorem d_P_describeFormes_11 : decode zm_P_describeFormes.2.2.1 11 = .ok (.iload_n 1, 1) := by decide +kernel
theorem d_P_describeFormes_12 : decode zm_P_describeFormes.2.2.1 12 = .ok (.tableswitch 115 0 4 #[36, 47, 55, 77, 96], 36) := by decide +kernel
theorem d_P_describeFormes_48 : decode zm_P_describeFormes.2.2.1 48 = .ok (.aload_n 0, 1) := by decide +kernel
theorem d_P_describeFormes_49 : decode zm_P_describeFormes.2.2.1 49 = .ok (.getfield 40, 3) := by decide +kernel
theorem d_P_describeFormes_52 : decode zm_P_describeFormes.2.2.1 52 = .ok (.invokevirtual 237, 3) := by decide +kernel
theorem d_P_describeFormes_55 : decode zm_P_describeFormes.2.2.1 55 = .ok (.invokestatic 217, 3) := by decide +kernel
theorem d_P_describeFormes_58 : decode zm_P_describeFormes.2.2.1 58 = .ok (.ireturn, 1) := by decide +kernel
theorem d_P_describeFormes_59 : decode zm_P_describeFormes.2.2.1 59 = .ok (.aload_n 0, 1) := by decide +kernel
theorem d_P_describeFormes_60 : decode zm_P_describeFormes.2.2.1 60 = .ok (.getfield 40, 3) := by decide +kernel
theorem d_P_describeFormes_63 : decode zm_P_describeFormes.2.2.1 63 = .ok (.invokevirtual 240, 3) := by decide +kernel
theorem d_P_describeFormes_66 : decode zm_P_describeFormes.2.2.1 66 = .ok (.ireturn, 1) := by decide +kernel
theorem d_P_describeFormes_67 : decode zm_P_describeFormes.2.2.1 67 = .ok (.aload_n 0, 1) := by decide +kernel
theorem d_P_describeFormes_68 : decode zm_P_describeFormes.2.2.1 68 = .ok (.getfield 47, 3) := by decide +kernel
theorem d_P_describeFormes_71 : decode zm_P_describeFormes.2.2.1 71 = .ok (.aload_n 0, 1) := by decide +kernel
theorem d_P_describeFormes_72 : decode zm_P_describeFormes.2.2.1 72 = .ok (.getfield 33, 3) := by decide +kernel
theorem d_P_describeFormes_75 : decode zm_P_describeFormes.2.2.1 75 = .ok (.invokevirtual 243, 3) := by decide +kernel
theorem d_P_describeFormes_78 : decode zm_P_describeFormes.2.2.1 78 = .ok (.aload_n 0, 1) := by decide +kernel
theorem d_P_describeFormes_79 : decode zm_P_describeFormes.2.2.1 79 = .ok (.getfield 47, 3) := by decide +kernel
theorem d_P_describeFormes_82 : decode zm_P_describeFormes.2.2.1 82 = .ok (.invokevirtual 244, 3) := by decide +kernel
theorem d_P_describeFormes_85 : decode zm_P_describeFormes.2.2.1 85 = .ok (.invokestatic 217, 3) := by decide +kernel
theorem d_P_describeFormes_88 : decode zm_P_describeFormes.2.2.1 88 = .ok (.ireturn, 1) := by decide +kernel
theorem d_P_describeFormes_89 : decode zm_P_describeFormes.2.2.1 89 = .ok (.aload_n 0, 1) := by decide +kernel
theorem d_P_describeFormes_90 : decode zm_P_describeFormes.2.2.1 90 = .ok (.getfield 47, 3) := by decide +kernel
theorem d_P_describeFormes_93 : decode zm_P_describeFormes.2.2.1 93 = .ok (.aload_n 0, 1) := by decide +kernel
theorem d_P_describeFormes_94 : decode zm_P_describeFormes.2.2.1 94 = .ok (.getfield 33, 3) := by decide +kernel
theorem d_P_describeFormes_97 : decode zm_P_describeFormes.2.2.1 97 = .ok (.invokevirtual 243, 3) := by decide +kernel
theorem d_P_describeFormes_100 : decode zm_P_describeFormes.2.2.1 100 = .ok (.aload_n 0, 1) := by decide +kernel
theorem d_P_describeFormes_101 : decode zm_P_describeFormes.2.2.1 101 = .ok (.getfield 47, 3) := by decide +kernel
theorem d_P_describeFormes_104 : decode zm_P_describeFormes.2.2.1 104 = .ok (.invokevirtual 244, 3) := by decide +kernel
theorem d_P_describeFormes_107 : decode zm_P_describeFormes.2.2.1 107 = .ok (.ireturn, 1) := by decide +kernel
theorem d_P_describeFormes_108 : decode zm_P_describeFormes.2.2.1 108 = .ok (.aload_n 0, 1) := by decide +kernel
theorem d_P_describeFormes_109 : decode zm_P_describeFormes.2.2.1 109 = .ok (.getfield 54, 3) := by decide +kernel
theorem d_P_describeFormes_112 : decode zm_P_describeFormes.2.2.1 112 = .ok (.aload_n 0, 1) := by decide +kernel
theorem d_P_describeFormes_113 : decode zm_P_describeFormes.2.2.1 113 = .ok (.getfield 40, 3) := by decide +kernel
theorem d_P_describeFormes_116 : decode zm_P_describeFormes.2.2.1 116 = .ok (.invokevirtual 231, 3) := by decide +kernel
theorem d_P_describeFormes_119 : decode zm_P_describeFormes.2.2.1 119 = .ok (.aload_n 0, 1) := by decide +kernel
theorem d_P_describeFormes_120 : decode zm_P_describeFormes.2.2.1 120 = .ok (.getfield 54, 3) := by decide +kernel
theorem d_P_describeFormes_123 : decode zm_P_describeFormes.2.2.1 123 = .ok (.invokevirtual 247, 3) := by decide +kernel
theorem d_P_describeFormes_126 : decode zm_P_describeFormes.2.2.1 126 = .ok (.ireturn, 1) := by decide +kernel
theorem d_P_describeFormes_127 : decode zm_P_describeFormes.2.2.1 127 = .ok (.aload_n 0, 1) := by decide +kernel
theorem d_P_describeFormes_128 : decode zm_P_describeFormes.2.2.1 128 = .ok (.getfield 40, 3) := by decide +kernel
theorem d_P_describeFormes_131 : decode zm_P_describeFormes.2.2.1 131 = .ok (.invokevirtual 250, 3) := by decide +kernel
theorem d_P_describeFormes_134 : decode zm_P_describeFormes.2.2.1 134 = .ok (.ireturn, 1) := by decide +kernel
theorem d_Int_numberOfTrailingZeros_0 : decode zm_Int_numberOfTrailingZeros.2.2.1 0 = .ok (.iload_n 0, 1) := by decide +kernel
theorem d_Int_numberOfTrailingZeros_1 : decode zm_Int_numberOfTrailingZeros.2.2.1 1 = .ok (.iconst (-1), 1) := by decide +kernel
theorem d_Int_numberOfTrailingZeros_2 : decode zm_Int_numberOfTrailingZeros.2.2.1 2 = .ok (.ixor, 1) := by decide +kernel
theorem d_Int_numberOfTrailingZeros_3 : decode zm_Int_numberOfTrailingZeros.2.2.1 3 = .ok (.iload_n 0, 1) := by decide +kernel
theorem d_Int_numberOfTrailingZeros_4 : decode zm_Int_numberOfTrailingZeros.2.2.1 4 = .ok (.iconst 1, 1) := by decide +kernel
theorem d_Int_numberOfTrailingZeros_5 : decode zm_Int_numberOfTrailingZeros.2.2.1 5 = .ok (.isub, 1) := by decide +kernel
theorem d_Int_numberOfTrailingZeros_6 : decode zm_Int_numberOfTrailingZeros.2.2.1 6 = .ok (.iand, 1) := by decide +kernel
theorem d_Int_numberOfTrailingZeros_7 : decode zm_Int_numberOfTrailingZeros.2.2.1 7 = .ok (.istore_n 0, 1) := by decide +kernel
theorem d_Int_numberOfTrailingZeros_8 : decode zm_Int_numberOfTrailingZeros.2.2.1 8 = .ok (.iload_n 0, 1) := by decide +kernel
theorem d_Int_numberOfTrailingZeros_9 : decode zm_Int_numberOfTrailingZeros.2.2.1 9 = .ok (.ifCond .gt 8, 3) := by decide +kernel
theorem d_Int_numberOfTrailingZeros_12 : decode zm_Int_numberOfTrailingZeros.2.2.1 12 = .ok (.iload_n 0, 1) := by decide +kernel
theorem d_Int_numberOfTrailingZeros_13 : decode zm_Int_numberOfTrailingZeros.2.2.1 13 = .ok (.bipush 32, 2) := by decide +kernel
theorem d_Int_numberOfTrailingZeros_15 : decode zm_Int_numberOfTrailingZeros.2.2.1 15 = .ok (.iand, 1) := by decide +kernel
theorem d_Int_numberOfTrailingZeros_16 : decode zm_Int_numberOfTrailingZeros.2.2.1 16 = .ok (.ireturn, 1) := by decide +kernel
theorem d_Int_numberOfTrailingZeros_17 : decode zm_Int_numberOfTrailingZeros.2.2.1 17 = .ok (.iconst 1, 1) := by decide +kernel
theorem d_Int_numberOfTrailingZeros_18 : decode zm_Int_numberOfTrailingZeros.2.2.1 18 = .ok (.istore_n 1, 1) := by decide +kernel
theorem d_Int_numberOfTrailingZeros_19 : decode zm_Int_numberOfTrailingZeros.2.2.1 19 = .ok (.iload_n 0, 1) := by decide +kernel
theorem d_Int_numberOfTrailingZeros_20 : decode zm_Int_numberOfTrailingZeros.2.2.1 20 = .ok (.ldc_w 264, 3) := by decide +kernel
theorem d_Int_numberOfTrailingZeros_23 : decode zm_Int_numberOfTrailingZeros.2.2.1 23 = .ok (.if_icmp .le 11, 3) := by decide +kernel
theorem d_Int_numberOfTrailingZeros_26 : decode zm_Int_numberOfTrailingZeros.2.2.1 26 = .ok (.iinc 1 16, 3) := by decide +kernel
theorem d_Int_numberOfTrailingZeros_29 : decode zm_Int_numberOfTrailingZeros.2.2.1 29 = .ok (.iload_n 0, 1) := by decide +kernel
theorem d_Int_numberOfTrailingZeros_30 : decode zm_Int_numberOfTrailingZeros.2.2.1 30 = .ok (.bipush 16, 2) := by decide +kernel
theorem d_Int_numberOfTrailingZeros_32 : decode zm_Int_numberOfTrailingZeros.2.2.1 32 = .ok (.iushr, 1) := by decide +kernel
theorem d_Int_numberOfTrailingZeros_33 : decode zm_Int_numberOfTrailingZeros.2.2.1 33 = .ok (.istore_n 0, 1) := by decide +kernel
theorem d_Int_numberOfTrailingZeros_34 : decode zm_Int_numberOfTrailingZeros.2.2.1 34 = .ok (.iload_n 0, 1) := by decide +kernel
theorem d_Int_numberOfTrailingZeros_35 : decode zm_Int_numberOfTrailingZeros.2.2.1 35 = .ok (.sipush 256, 3) := by decide +kernel
theorem d_Int_numberOfTrailingZeros_38 : decode zm_Int_numberOfTrailingZeros.2.2.1 38 = .ok (.if_icmp .le 11, 3) := by decide +kernel
theorem d_Int_numberOfTrailingZeros_41 : decode zm_Int_numberOfTrailingZeros.2.2.1 41 = .ok (.iinc 1 8, 3) := by decide +kernel
theorem d_Int_numberOfTrailingZeros_44 : decode zm_Int_numberOfTrailingZeros.2.2.1 44 = .ok (.iload_n 0, 1) := by decide +kernel
theorem d_Int_numberOfTrailingZeros_45 : decode zm_Int_numberOfTrailingZeros.2.2.1 45 = .ok (.bipush 8, 2) := by decide +kernel
theorem d_Int_numberOfTrailingZeros_47 : decode zm_Int_numberOfTrailingZeros.2.2.1 47 = .ok (.iushr, 1) := by decide +kernel
theorem d_Int_numberOfTrailingZeros_48 : decode zm_Int_numberOfTrailingZeros.2.2.1 48 = .ok (.istore_n 0, 1) := by decide +kernel
theorem d_Int_numberOfTrailingZeros_49 : decode zm_Int_numberOfTrailingZeros.2.2.1 49 = .ok (.iload_n 0, 1) := by decide +kernel
theorem d_Int_numberOfTrailingZeros_50 : decode zm_Int_numberOfTrailingZeros.2.2.1 50 = .ok (.bipush 16, 2) := by decide +kernel
theorem d_Int_numberOfTrailingZeros_52 : decode zm_Int_numberOfTrailingZeros.2.2.1 52 = .ok (.if_icmp .le 10, 3) := by decide +kernel
theorem d_Int_numberOfTrailingZeros_55 : decode zm_Int_numberOfTrailingZeros.2.2.1 55 = .ok (.iinc 1 4, 3) := by decide +kernel
theorem d_Int_numberOfTrailingZeros_58 : decode zm_Int_numberOfTrailingZeros.2.2.1 58 = .ok (.iload_n 0, 1) := by decide +kernel
theorem d_Int_numberOfTrailingZeros_59 : decode zm_Int_numberOfTrailingZeros.2.2.1 59 = .ok (.iconst 4, 1) := by decide +kernel
theorem d_Int_numberOfTrailingZeros_60 : decode zm_Int_numberOfTrailingZeros.2.2.1 60 = .ok (.iushr, 1) := by decide +kernel
theorem d_Int_numberOfTrailingZeros_61 : decode zm_Int_numberOfTrailingZeros.2.2.1 61 = .ok (.istore_n 0, 1) := by decide +kernel
theorem d_Int_numberOfTrailingZeros_62 : decode zm_Int_numberOfTrailingZeros.2.2.1 62 = .ok (.iload_n 0, 1) := by decide +kernel
theorem d_Int_numberOfTrailingZeros_63 : decode zm_Int_numberOfTrailingZeros.2.2.1 63 = .ok (.iconst 4, 1) := by decide +kernel
theorem d_Int_numberOfTrailingZeros_64 : decode zm_Int_numberOfTrailingZeros.2.2.1 64 = .ok (.if_icmp .le 10, 3) := by decide +kernel
theorem d_Int_numberOfTrailingZeros_67 : decode zm_Int_numberOfTrailingZeros.2.2.1 67 = .ok (.iinc 1 2, 3) := by decide +kernel
theorem d_Int_numberOfTrailingZeros_70 : decode zm_Int_numberOfTrailingZeros.2.2.1 70 = .ok (.iload_n 0, 1) := by decide +kernel
theorem d_Int_numberOfTrailingZeros_71 : decode zm_Int_numberOfTrailingZeros.2.2.1 71 = .ok (.iconst 2, 1) := by decide +kernel
theorem d_Int_numberOfTrailingZeros_72 : decode zm_Int_numberOfTrailingZeros.2.2.1 72 = .ok (.iushr, 1) := by decide +kernel
theorem d_Int_numberOfTrailingZeros_73 : decode zm_Int_numberOfTrailingZeros.2.2.1 73 = .ok (.istore_n 0, 1) := by decide +kernel
theorem d_Int_numberOfTrailingZeros_74 : decode zm_Int_numberOfTrailingZeros.2.2.1 74 = .ok (.iload_n 1, 1) := by decide +kernel
theorem d_Int_numberOfTrailingZeros_75 : decode zm_Int_numberOfTrailingZeros.2.2.1 75 = .ok (.iload_n 0, 1) := by decide +kernel
theorem d_Int_numberOfTrailingZeros_76 : decode zm_Int_numberOfTrailingZeros.2.2.1 76 = .ok (.iconst 1, 1) := by decide +kernel
theorem d_Int_numberOfTrailingZeros_77 : decode zm_Int_numberOfTrailingZeros.2.2.1 77 = .ok (.iushr, 1) := by decide +kernel
theorem d_Int_numberOfTrailingZeros_78 : decode zm_Int_numberOfTrailingZeros.2.2.1 78 = .ok (.iadd, 1) := by decide +kernel
theorem d_Int_numberOfTrailingZeros_79 : decode zm_Int_numberOfTrailingZeros.2.2.1 79 = .ok (.ireturn, 1) := by decide +kernel
theorem d_Int_bitCount_0 : decode zm_Int_bitCount.2.2.1 0 = .ok (.iload_n 0, 1) := by decide +kernel
theorem d_Int_bitCount_1 : decode zm_Int_bitCount.2.2.1 1 = .ok (.iload_n 0, 1) := by decide +kernel
theorem d_Int_bitCount_2 : decode zm_Int_bitCount.2.2.1 2 = .ok (.iconst 1, 1) := by decide +kernel
theorem d_Int_bitCount_3 : decode zm_Int_bitCount.2.2.1 3 = .ok (.iushr, 1) := by decide +kernel
theorem d_Int_bitCount_4 : decode zm_Int_bitCount.2.2.1 4 = .ok (.ldc_w 265, 3) := by decide +kernel
theorem d_Int_bitCount_7 : decode zm_Int_bitCount.2.2.1 7 = .ok (.iand, 1) := by decide +kernel
theorem d_Int_bitCount_8 : decode zm_Int_bitCount.2.2.1 8 = .ok (.isub, 1) := by decide +kernel
theorem d_Int_bitCount_9 : decode zm_Int_bitCount.2.2.1 9 = .ok (.istore_n 0, 1) := by decide +kernel
theorem d_Int_bitCount_10 : decode zm_Int_bitCount.2.2.1 10 = .ok (.iload_n 0, 1) := by decide +kernel
theorem d_Int_bitCount_11 : decode zm_Int_bitCount.2.2.1 11 = .ok (.ldc_w 266, 3) := by decide +kernel
theorem d_Int_bitCount_14 : decode zm_Int_bitCount.2.2.1 14 = .ok (.iand, 1) := by decide +kernel
theorem d_Int_bitCount_15 : decode zm_Int_bitCount.2.2.1 15 = .ok (.iload_n 0, 1) := by decide +kernel
theorem d_Int_bitCount_16 : decode zm_Int_bitCount.2.2.1 16 = .ok (.iconst 2, 1) := by decide +kernel
theorem d_Int_bitCount_17 : decode zm_Int_bitCount.2.2.1 17 = .ok (.iushr, 1) := by decide +kernel
theorem d_Int_bitCount_18 : decode zm_Int_bitCount.2.2.1 18 = .ok (.ldc_w 266, 3) := by decide +kernel
theorem d_Int_bitCount_21 : decode zm_Int_bitCount.2.2.1 21 = .ok (.iand, 1) := by decide +kernel
theorem d_Int_bitCount_22 : decode zm_Int_bitCount.2.2.1 22 = .ok (.iadd, 1) := by decide +kernel
theorem d_Int_bitCount_23 : decode zm_Int_bitCount.2.2.1 23 = .ok (.istore_n 0, 1) := by decide +kernel
theorem d_Int_bitCount_24 : decode zm_Int_bitCount.2.2.1 24 = .ok (.iload_n 0, 1) := by decide +kernel
theorem d_Int_bitCount_25 : decode zm_Int_bitCount.2.2.1 25 = .ok (.iload_n 0, 1) := by decide +kernel
theorem d_Int_bitCount_26 : decode zm_Int_bitCount.2.2.1 26 = .ok (.iconst 4, 1) := by decide +kernel
theorem d_Int_bitCount_27 : decode zm_Int_bitCount.2.2.1 27 = .ok (.iushr, 1) := by decide +kernel
theorem d_Int_bitCount_28 : decode zm_Int_bitCount.2.2.1 28 = .ok (.iadd, 1) := by decide +kernel
theorem d_Int_bitCount_29 : decode zm_Int_bitCount.2.2.1 29 = .ok (.ldc_w 267, 3) := by decide +kernel
theorem d_Int_bitCount_32 : decode zm_Int_bitCount.2.2.1 32 = .ok (.iand, 1) := by decide +kernel
theorem d_Int_bitCount_33 : decode zm_Int_bitCount.2.2.1 33 = .ok (.istore_n 0, 1) := by decide +kernel
theorem d_Int_bitCount_34 : decode zm_Int_bitCount.2.2.1 34 = .ok (.iload_n 0, 1) := by decide +kernel
theorem d_Int_bitCount_35 : decode zm_Int_bitCount.2.2.1 35 = .ok (.iload_n 0, 1) := by decide +kernel
theorem d_Int_bitCount_36 : decode zm_Int_bitCount.2.2.1 36 = .ok (.bipush 8, 2) := by decide +kernel
theorem d_Int_bitCount_38 : decode zm_Int_bitCount.2.2.1 38 = .ok (.iushr, 1) := by decide +kernel
theorem d_Int_bitCount_39 : decode zm_Int_bitCount.2.2.1 39 = .ok (.iadd, 1) := by decide +kernel
theorem d_Int_bitCount_40 : decode zm_Int_bitCount.2.2.1 40 = .ok (.istore_n 0, 1) := by decide +kernel
theorem d_Int_bitCount_41 : decode zm_Int_bitCount.2.2.1 41 = .ok (.iload_n 0, 1) := by decide +kernel
theorem d_Int_bitCount_42 : decode zm_Int_bitCount.2.2.1 42 = .ok (.iload_n 0, 1) := by decide +kernel
theorem d_Int_bitCount_43 : decode zm_Int_bitCount.2.2.1 43 = .ok (.bipush 16, 2) := by decide +kernel
theorem d_Int_bitCount_45 : decode zm_Int_bitCount.2.2.1 45 = .ok (.iushr, 1) := by decide +kernel
theorem d_Int_bitCount_46 : decode zm_Int_bitCount.2.2.1 46 = .ok (.iadd, 1) := by decide +kernel
theorem d_Int_bitCount_47 : decode zm_Int_bitCount.2.2.1 47 = .ok (.istore_n 0, 1) := by decide +kernel
theorem d_Int_bitCount_48 : decode zm_Int_bitCount.2.2.1 48 = .ok (.iload_n 0, 1) := by decide +kernel
theorem d_Int_bitCount_49 : decode zm_Int_bitCount.2.2.1 49 = .ok (.bipush 63, 2) := by decide +kernel
theorem d_Int_bitCount_51 : decode zm_Int_bitCount.2.2.1 51 = .ok (.iand, 1) := by decide +kernel
theorem d_Int_bitCount_52 : decode zm_Int_bitCount.2.2.1 52 = .ok (.ireturn, 1) := by decide +kernel
theorem d_law_0 : decode zm_law.2.2.1 0 = .ok (.new 7, 3) := by decide +kernel
theorem d_law_3 : decode zm_law.2.2.1 3 = .ok (.dup, 1) := by decide +kernel
theorem d_law_4 : decode zm_law.2.2.1 4 = .ok (.invokespecial 9, 3) := by decide +kernel
theorem d_law_7 : decode zm_law.2.2.1 7 = .ok (.astore_n 1, 1) := by decide +kernel
theorem d_law_8 : decode zm_law.2.2.1 8 = .ok (.new 10, 3) := by decide +kernel
theorem d_law_11 : decode zm_law.2.2.1 11 = .ok (.dup, 1) := by decide +kernel
theorem d_law_12 : decode zm_law.2.2.1 12 = .ok (.invokespecial 12, 3) := by decide +kernel
theorem d_law_15 : decode zm_law.2.2.1 15 = .ok (.astore_n 2, 1) := by decide +kernel
theorem d_law_16 : decode zm_law.2.2.1 16 = .ok (.iconst 0, 1) := by decide +kernel
theorem d_law_17 : decode zm_law.2.2.1 17 = .ok (.istore_n 3, 1) := by decide +kernel
theorem d_law_18 : decode zm_law.2.2.1 18 = .ok (.iload_n 3, 1) := by decide +kernel
theorem d_law_19 : decode zm_law.2.2.1 19 = .ok (.aload_n 0, 1) := by decide +kernel
theorem d_law_20 : decode zm_law.2.2.1 20 = .ok (.arraylength, 1) := by decide +kernel
theorem d_law_21 : decode zm_law.2.2.1 21 = .ok (.iconst 5, 1) := by decide +kernel
theorem d_law_22 : decode zm_law.2.2.1 22 = .ok (.isub, 1) := by decide +kernel
theorem d_law_23 : decode zm_law.2.2.1 23 = .ok (.if_icmp .gt 763, 3) := by decide +kernel
theorem d_law_26 : decode zm_law.2.2.1 26 = .ok (.aload_n 0, 1) := by decide +kernel
theorem d_law_27 : decode zm_law.2.2.1 27 = .ok (.iload_n 3, 1) := by decide +kernel
theorem d_law_28 : decode zm_law.2.2.1 28 = .ok (.iaload, 1) := by decide +kernel
theorem d_law_29 : decode zm_law.2.2.1 29 = .ok (.bipush 31, 2) := by decide +kernel
theorem d_law_31 : decode zm_law.2.2.1 31 = .ok (.iand, 1) := by decide +kernel
theorem d_law_32 : decode zm_law.2.2.1 32 = .ok (.tableswitch 748 0 22 #[108, 131, 144, 157, 180, 193, 216, 249, 282, 325, 368, 401, 424, 457, 490, 523, 576, 599, 632, 665, 688, 711, 734], 108) := by decide +kernel
theorem d_law_140 : decode zm_law.2.2.1 140 = .ok (.aload_n 1, 1) := by decide +kernel
theorem d_law_141 : decode zm_law.2.2.1 141 = .ok (.aload_n 0, 1) := by decide +kernel
theorem d_law_142 : decode zm_law.2.2.1 142 = .ok (.iload_n 3, 1) := by decide +kernel
theorem d_law_143 : decode zm_law.2.2.1 143 = .ok (.iconst 1, 1) := by decide +kernel
theorem d_law_144 : decode zm_law.2.2.1 144 = .ok (.iadd, 1) := by decide +kernel
theorem d_law_145 : decode zm_law.2.2.1 145 = .ok (.iaload, 1) := by decide +kernel
theorem d_law_146 : decode zm_law.2.2.1 146 = .ok (.invokevirtual 13, 3) := by decide +kernel
theorem d_law_149 : decode zm_law.2.2.1 149 = .ok (.aload_n 2, 1) := by decide +kernel
theorem d_law_150 : decode zm_law.2.2.1 150 = .ok (.aload_n 0, 1) := by decide +kernel
theorem d_law_151 : decode zm_law.2.2.1 151 = .ok (.iload_n 3, 1) := by decide +kernel
theorem d_law_152 : decode zm_law.2.2.1 152 = .ok (.iconst 1, 1) := by decide +kernel
theorem d_law_153 : decode zm_law.2.2.1 153 = .ok (.iadd, 1) := by decide +kernel
theorem d_law_154 : decode zm_law.2.2.1 154 = .ok (.iaload, 1) := by decide +kernel
theorem d_law_155 : decode zm_law.2.2.1 155 = .ok (.invokevirtual 17, 3) := by decide +kernel
theorem d_law_158 : decode zm_law.2.2.1 158 = .ok (.if_icmp .eq 622, 3) := by decide +kernel
theorem d_law_161 : decode zm_law.2.2.1 161 = .ok (.iconst 0, 1) := by decide +kernel
theorem d_law_162 : decode zm_law.2.2.1 162 = .ok (.ireturn, 1) := by decide +kernel
theorem d_law_163 : decode zm_law.2.2.1 163 = .ok (.aload_n 1, 1) := by decide +kernel
theorem d_law_164 : decode zm_law.2.2.1 164 = .ok (.invokevirtual 18, 3) := by decide +kernel
theorem d_law_167 : decode zm_law.2.2.1 167 = .ok (.aload_n 2, 1) := by decide +kernel
theorem d_law_168 : decode zm_law.2.2.1 168 = .ok (.invokevirtual 22, 3) := by decide +kernel
theorem d_law_171 : decode zm_law.2.2.1 171 = .ok (.if_icmp .eq 609, 3) := by decide +kernel
theorem d_law_174 : decode zm_law.2.2.1 174 = .ok (.iconst 0, 1) := by decide +kernel
theorem d_law_175 : decode zm_law.2.2.1 175 = .ok (.ireturn, 1) := by decide +kernel
theorem d_law_176 : decode zm_law.2.2.1 176 = .ok (.aload_n 1, 1) := by decide +kernel
theorem d_law_177 : decode zm_law.2.2.1 177 = .ok (.invokevirtual 23, 3) := by decide +kernel
theorem d_law_180 : decode zm_law.2.2.1 180 = .ok (.aload_n 2, 1) := by decide +kernel
theorem d_law_181 : decode zm_law.2.2.1 181 = .ok (.invokevirtual 26, 3) := by decide +kernel
theorem d_law_184 : decode zm_law.2.2.1 184 = .ok (.if_icmp .eq 596, 3) := by decide +kernel
theorem d_law_187 : decode zm_law.2.2.1 187 = .ok (.iconst 0, 1) := by decide +kernel
theorem d_law_188 : decode zm_law.2.2.1 188 = .ok (.ireturn, 1) := by decide +kernel
theorem d_law_189 : decode zm_law.2.2.1 189 = .ok (.aload_n 1, 1) := by decide +kernel
theorem d_law_190 : decode zm_law.2.2.1 190 = .ok (.aload_n 0, 1) := by decide +kernel
theorem d_law_191 : decode zm_law.2.2.1 191 = .ok (.iload_n 3, 1) := by decide +kernel
theorem d_law_192 : decode zm_law.2.2.1 192 = .ok (.iconst 1, 1) := by decide +kernel
theorem d_law_193 : decode zm_law.2.2.1 193 = .ok (.iadd, 1) := by decide +kernel
theorem d_law_194 : decode zm_law.2.2.1 194 = .ok (.iaload, 1) := by decide +kernel
theorem d_law_195 : decode zm_law.2.2.1 195 = .ok (.invokevirtual 27, 3) := by decide +kernel
theorem d_law_198 : decode zm_law.2.2.1 198 = .ok (.aload_n 2, 1) := by decide +kernel
theorem d_law_199 : decode zm_law.2.2.1 199 = .ok (.aload_n 0, 1) := by decide +kernel
theorem d_law_200 : decode zm_law.2.2.1 200 = .ok (.iload_n 3, 1) := by decide +kernel
theorem d_law_201 : decode zm_law.2.2.1 201 = .ok (.iconst 1, 1) := by decide +kernel
theorem d_law_202 : decode zm_law.2.2.1 202 = .ok (.iadd, 1) := by decide +kernel
theorem d_law_203 : decode zm_law.2.2.1 203 = .ok (.iaload, 1) := by decide +kernel
theorem d_law_204 : decode zm_law.2.2.1 204 = .ok (.invokevirtual 30, 3) := by decide +kernel
theorem d_law_207 : decode zm_law.2.2.1 207 = .ok (.if_icmp .eq 573, 3) := by decide +kernel
theorem d_law_210 : decode zm_law.2.2.1 210 = .ok (.iconst 0, 1) := by decide +kernel
theorem d_law_211 : decode zm_law.2.2.1 211 = .ok (.ireturn, 1) := by decide +kernel
theorem d_law_212 : decode zm_law.2.2.1 212 = .ok (.aload_n 1, 1) := by decide +kernel
theorem d_law_213 : decode zm_law.2.2.1 213 = .ok (.invokevirtual 31, 3) := by decide +kernel
theorem d_law_216 : decode zm_law.2.2.1 216 = .ok (.aload_n 2, 1) := by decide +kernel
theorem d_law_217 : decode zm_law.2.2.1 217 = .ok (.invokevirtual 34, 3) := by decide +kernel
theorem d_law_220 : decode zm_law.2.2.1 220 = .ok (.if_icmp .eq 560, 3) := by decide +kernel
theorem d_law_223 : decode zm_law.2.2.1 223 = .ok (.iconst 0, 1) := by decide +kernel
theorem d_law_224 : decode zm_law.2.2.1 224 = .ok (.ireturn, 1) := by decide +kernel
theorem d_law_225 : decode zm_law.2.2.1 225 = .ok (.aload_n 1, 1) := by decide +kernel
theorem d_law_226 : decode zm_law.2.2.1 226 = .ok (.aload_n 0, 1) := by decide +kernel
theorem d_law_227 : decode zm_law.2.2.1 227 = .ok (.iload_n 3, 1) := by decide +kernel
theorem d_law_228 : decode zm_law.2.2.1 228 = .ok (.iconst 1, 1) := by decide +kernel
theorem d_law_229 : decode zm_law.2.2.1 229 = .ok (.iadd, 1) := by decide +kernel
theorem d_law_230 : decode zm_law.2.2.1 230 = .ok (.iaload, 1) := by decide +kernel
theorem d_law_231 : decode zm_law.2.2.1 231 = .ok (.invokevirtual 35, 3) := by decide +kernel
theorem d_law_234 : decode zm_law.2.2.1 234 = .ok (.aload_n 2, 1) := by decide +kernel
theorem d_law_235 : decode zm_law.2.2.1 235 = .ok (.aload_n 0, 1) := by decide +kernel
theorem d_law_236 : decode zm_law.2.2.1 236 = .ok (.iload_n 3, 1) := by decide +kernel
theorem d_law_237 : decode zm_law.2.2.1 237 = .ok (.iconst 1, 1) := by decide +kernel
theorem d_law_238 : decode zm_law.2.2.1 238 = .ok (.iadd, 1) := by decide +kernel
theorem d_law_239 : decode zm_law.2.2.1 239 = .ok (.iaload, 1) := by decide +kernel
theorem d_law_240 : decode zm_law.2.2.1 240 = .ok (.invokevirtual 38, 3) := by decide +kernel
theorem d_law_243 : decode zm_law.2.2.1 243 = .ok (.if_icmp .eq 537, 3) := by decide +kernel
theorem d_law_246 : decode zm_law.2.2.1 246 = .ok (.iconst 0, 1) := by decide +kernel
theorem d_law_247 : decode zm_law.2.2.1 247 = .ok (.ireturn, 1) := by decide +kernel
theorem d_law_248 : decode zm_law.2.2.1 248 = .ok (.aload_n 1, 1) := by decide +kernel
theorem d_law_249 : decode zm_law.2.2.1 249 = .ok (.aload_n 0, 1) := by decide +kernel
theorem d_law_250 : decode zm_law.2.2.1 250 = .ok (.iload_n 3, 1) := by decide +kernel
theorem d_law_251 : decode zm_law.2.2.1 251 = .ok (.iconst 1, 1) := by decide +kernel
theorem d_law_252 : decode zm_law.2.2.1 252 = .ok (.iadd, 1) := by decide +kernel
theorem d_law_253 : decode zm_law.2.2.1 253 = .ok (.iaload, 1) := by decide +kernel
theorem d_law_254 : decode zm_law.2.2.1 254 = .ok (.aload_n 0, 1) := by decide +kernel
theorem d_law_255 : decode zm_law.2.2.1 255 = .ok (.iload_n 3, 1) := by decide +kernel
theorem d_law_256 : decode zm_law.2.2.1 256 = .ok (.iconst 2, 1) := by decide +kernel
theorem d_law_257 : decode zm_law.2.2.1 257 = .ok (.iadd, 1) := by decide +kernel
theorem d_law_258 : decode zm_law.2.2.1 258 = .ok (.iaload, 1) := by decide +kernel
theorem d_law_259 : decode zm_law.2.2.1 259 = .ok (.invokevirtual 39, 3) := by decide +kernel
theorem d_law_262 : decode zm_law.2.2.1 262 = .ok (.aload_n 2, 1) := by decide +kernel
theorem d_law_263 : decode zm_law.2.2.1 263 = .ok (.aload_n 0, 1) := by decide +kernel
theorem d_law_264 : decode zm_law.2.2.1 264 = .ok (.iload_n 3, 1) := by decide +kernel
theorem d_law_265 : decode zm_law.2.2.1 265 = .ok (.iconst 1, 1) := by decide +kernel
theorem d_law_266 : decode zm_law.2.2.1 266 = .ok (.iadd, 1) := by decide +kernel
theorem d_law_267 : decode zm_law.2.2.1 267 = .ok (.iaload, 1) := by decide +kernel
theorem d_law_268 : decode zm_law.2.2.1 268 = .ok (.aload_n 0, 1) := by decide +kernel
theorem d_law_269 : decode zm_law.2.2.1 269 = .ok (.iload_n 3, 1) := by decide +kernel
theorem d_law_270 : decode zm_law.2.2.1 270 = .ok (.iconst 2, 1) := by decide +kernel
theorem d_law_271 : decode zm_law.2.2.1 271 = .ok (.iadd, 1) := by decide +kernel
theorem d_law_272 : decode zm_law.2.2.1 272 = .ok (.iaload, 1) := by decide +kernel
theorem d_law_273 : decode zm_law.2.2.1 273 = .ok (.invokevirtual 43, 3) := by decide +kernel
theorem d_law_276 : decode zm_law.2.2.1 276 = .ok (.if_icmp .eq 504, 3) := by decide +kernel
theorem d_law_279 : decode zm_law.2.2.1 279 = .ok (.iconst 0, 1) := by decide +kernel
theorem d_law_280 : decode zm_law.2.2.1 280 = .ok (.ireturn, 1) := by decide +kernel
theorem d_law_281 : decode zm_law.2.2.1 281 = .ok (.aload_n 1, 1) := by decide +kernel
theorem d_law_282 : decode zm_law.2.2.1 282 = .ok (.aload_n 0, 1) := by decide +kernel
theorem d_law_283 : decode zm_law.2.2.1 283 = .ok (.iload_n 3, 1) := by decide +kernel
theorem d_law_284 : decode zm_law.2.2.1 284 = .ok (.iconst 1, 1) := by decide +kernel
theorem d_law_285 : decode zm_law.2.2.1 285 = .ok (.iadd, 1) := by decide +kernel
theorem d_law_286 : decode zm_law.2.2.1 286 = .ok (.iaload, 1) := by decide +kernel
theorem d_law_287 : decode zm_law.2.2.1 287 = .ok (.aload_n 0, 1) := by decide +kernel
theorem d_law_288 : decode zm_law.2.2.1 288 = .ok (.iload_n 3, 1) := by decide +kernel
theorem d_law_289 : decode zm_law.2.2.1 289 = .ok (.iconst 2, 1) := by decide +kernel
theorem d_law_290 : decode zm_law.2.2.1 290 = .ok (.iadd, 1) := by decide +kernel
theorem d_law_291 : decode zm_law.2.2.1 291 = .ok (.iaload, 1) := by decide +kernel
theorem d_law_292 : decode zm_law.2.2.1 292 = .ok (.invokevirtual 44, 3) := by decide +kernel
theorem d_law_295 : decode zm_law.2.2.1 295 = .ok (.aload_n 2, 1) := by decide +kernel
theorem d_law_296 : decode zm_law.2.2.1 296 = .ok (.aload_n 0, 1) := by decide +kernel
theorem d_law_297 : decode zm_law.2.2.1 297 = .ok (.iload_n 3, 1) := by decide +kernel
theorem d_law_298 : decode zm_law.2.2.1 298 = .ok (.iconst 1, 1) := by decide +kernel
theorem d_law_299 : decode zm_law.2.2.1 299 = .ok (.iadd, 1) := by decide +kernel
theorem d_law_300 : decode zm_law.2.2.1 300 = .ok (.iaload, 1) := by decide +kernel
theorem d_law_301 : decode zm_law.2.2.1 301 = .ok (.aload_n 0, 1) := by decide +kernel
theorem d_law_302 : decode zm_law.2.2.1 302 = .ok (.iload_n 3, 1) := by decide +kernel
theorem d_law_303 : decode zm_law.2.2.1 303 = .ok (.iconst 2, 1) := by decide +kernel
theorem d_law_304 : decode zm_law.2.2.1 304 = .ok (.iadd, 1) := by decide +kernel
theorem d_law_305 : decode zm_law.2.2.1 305 = .ok (.iaload, 1) := by decide +kernel
theorem d_law_306 : decode zm_law.2.2.1 306 = .ok (.invokevirtual 47, 3) := by decide +kernel
theorem d_law_309 : decode zm_law.2.2.1 309 = .ok (.if_icmp .eq 471, 3) := by decide +kernel
theorem d_law_312 : decode zm_law.2.2.1 312 = .ok (.iconst 0, 1) := by decide +kernel
theorem d_law_313 : decode zm_law.2.2.1 313 = .ok (.ireturn, 1) := by decide +kernel
theorem d_law_314 : decode zm_law.2.2.1 314 = .ok (.aload_n 1, 1) := by decide +kernel
theorem d_law_315 : decode zm_law.2.2.1 315 = .ok (.aload_n 0, 1) := by decide +kernel
theorem d_law_316 : decode zm_law.2.2.1 316 = .ok (.iload_n 3, 1) := by decide +kernel
theorem d_law_317 : decode zm_law.2.2.1 317 = .ok (.iconst 1, 1) := by decide +kernel
theorem d_law_318 : decode zm_law.2.2.1 318 = .ok (.iadd, 1) := by decide +kernel
theorem d_law_319 : decode zm_law.2.2.1 319 = .ok (.iaload, 1) := by decide +kernel
theorem d_law_320 : decode zm_law.2.2.1 320 = .ok (.aload_n 0, 1) := by decide +kernel
theorem d_law_321 : decode zm_law.2.2.1 321 = .ok (.iload_n 3, 1) := by decide +kernel
theorem d_law_322 : decode zm_law.2.2.1 322 = .ok (.iconst 2, 1) := by decide +kernel
theorem d_law_323 : decode zm_law.2.2.1 323 = .ok (.iadd, 1) := by decide +kernel
theorem d_law_324 : decode zm_law.2.2.1 324 = .ok (.iaload, 1) := by decide +kernel
theorem d_law_325 : decode zm_law.2.2.1 325 = .ok (.aload_n 0, 1) := by decide +kernel
theorem d_law_326 : decode zm_law.2.2.1 326 = .ok (.iload_n 3, 1) := by decide +kernel
theorem d_law_327 : decode zm_law.2.2.1 327 = .ok (.iconst 3, 1) := by decide +kernel
theorem d_law_328 : decode zm_law.2.2.1 328 = .ok (.iadd, 1) := by decide +kernel
theorem d_law_329 : decode zm_law.2.2.1 329 = .ok (.iaload, 1) := by decide +kernel
theorem d_law_330 : decode zm_law.2.2.1 330 = .ok (.invokevirtual 48, 3) := by decide +kernel
theorem d_law_333 : decode zm_law.2.2.1 333 = .ok (.aload_n 2, 1) := by decide +kernel
theorem d_law_334 : decode zm_law.2.2.1 334 = .ok (.aload_n 0, 1) := by decide +kernel
theorem d_law_335 : decode zm_law.2.2.1 335 = .ok (.iload_n 3, 1) := by decide +kernel
theorem d_law_336 : decode zm_law.2.2.1 336 = .ok (.iconst 1, 1) := by decide +kernel
theorem d_law_337 : decode zm_law.2.2.1 337 = .ok (.iadd, 1) := by decide +kernel
theorem d_law_338 : decode zm_law.2.2.1 338 = .ok (.iaload, 1) := by decide +kernel
theorem d_law_339 : decode zm_law.2.2.1 339 = .ok (.aload_n 0, 1) := by decide +kernel
theorem d_law_340 : decode zm_law.2.2.1 340 = .ok (.iload_n 3, 1) := by decide +kernel
theorem d_law_341 : decode zm_law.2.2.1 341 = .ok (.iconst 2, 1) := by decide +kernel
theorem d_law_342 : decode zm_law.2.2.1 342 = .ok (.iadd, 1) := by decide +kernel
theorem d_law_343 : decode zm_law.2.2.1 343 = .ok (.iaload, 1) := by decide +kernel
theorem d_law_344 : decode zm_law.2.2.1 344 = .ok (.aload_n 0, 1) := by decide +kernel
theorem d_law_345 : decode zm_law.2.2.1 345 = .ok (.iload_n 3, 1) := by decide +kernel
theorem d_law_346 : decode zm_law.2.2.1 346 = .ok (.iconst 3, 1) := by decide +kernel
theorem d_law_347 : decode zm_law.2.2.1 347 = .ok (.iadd, 1) := by decide +kernel
theorem d_law_348 : decode zm_law.2.2.1 348 = .ok (.iaload, 1) := by decide +kernel
theorem d_law_349 : decode zm_law.2.2.1 349 = .ok (.invokevirtual 52, 3) := by decide +kernel
theorem d_law_352 : decode zm_law.2.2.1 352 = .ok (.if_icmp .eq 428, 3) := by decide +kernel
theorem d_law_355 : decode zm_law.2.2.1 355 = .ok (.iconst 0, 1) := by decide +kernel
theorem d_law_356 : decode zm_law.2.2.1 356 = .ok (.ireturn, 1) := by decide +kernel
theorem d_law_357 : decode zm_law.2.2.1 357 = .ok (.aload_n 1, 1) := by decide +kernel
theorem d_law_358 : decode zm_law.2.2.1 358 = .ok (.aload_n 0, 1) := by decide +kernel
theorem d_law_359 : decode zm_law.2.2.1 359 = .ok (.iload_n 3, 1) := by decide +kernel
theorem d_law_360 : decode zm_law.2.2.1 360 = .ok (.iconst 1, 1) := by decide +kernel
theorem d_law_361 : decode zm_law.2.2.1 361 = .ok (.iadd, 1) := by decide +kernel
theorem d_law_362 : decode zm_law.2.2.1 362 = .ok (.iaload, 1) := by decide +kernel
theorem d_law_363 : decode zm_law.2.2.1 363 = .ok (.aload_n 0, 1) := by decide +kernel
theorem d_law_364 : decode zm_law.2.2.1 364 = .ok (.iload_n 3, 1) := by decide +kernel
theorem d_law_365 : decode zm_law.2.2.1 365 = .ok (.iconst 2, 1) := by decide +kernel
theorem d_law_366 : decode zm_law.2.2.1 366 = .ok (.iadd, 1) := by decide +kernel
theorem d_law_367 : decode zm_law.2.2.1 367 = .ok (.iaload, 1) := by decide +kernel
theorem d_law_368 : decode zm_law.2.2.1 368 = .ok (.aload_n 0, 1) := by decide +kernel
theorem d_law_369 : decode zm_law.2.2.1 369 = .ok (.iload_n 3, 1) := by decide +kernel
theorem d_law_370 : decode zm_law.2.2.1 370 = .ok (.iconst 3, 1) := by decide +kernel
theorem d_law_371 : decode zm_law.2.2.1 371 = .ok (.iadd, 1) := by decide +kernel
theorem d_law_372 : decode zm_law.2.2.1 372 = .ok (.iaload, 1) := by decide +kernel
theorem d_law_373 : decode zm_law.2.2.1 373 = .ok (.invokevirtual 53, 3) := by decide +kernel
theorem d_law_376 : decode zm_law.2.2.1 376 = .ok (.aload_n 2, 1) := by decide +kernel
theorem d_law_377 : decode zm_law.2.2.1 377 = .ok (.aload_n 0, 1) := by decide +kernel
theorem d_law_378 : decode zm_law.2.2.1 378 = .ok (.iload_n 3, 1) := by decide +kernel
theorem d_law_379 : decode zm_law.2.2.1 379 = .ok (.iconst 1, 1) := by decide +kernel
theorem d_law_380 : decode zm_law.2.2.1 380 = .ok (.iadd, 1) := by decide +kernel
theorem d_law_381 : decode zm_law.2.2.1 381 = .ok (.iaload, 1) := by decide +kernel
theorem d_law_382 : decode zm_law.2.2.1 382 = .ok (.aload_n 0, 1) := by decide +kernel
theorem d_law_383 : decode zm_law.2.2.1 383 = .ok (.iload_n 3, 1) := by decide +kernel
theorem d_law_384 : decode zm_law.2.2.1 384 = .ok (.iconst 2, 1) := by decide +kernel
theorem d_law_385 : decode zm_law.2.2.1 385 = .ok (.iadd, 1) := by decide +kernel
theorem d_law_386 : decode zm_law.2.2.1 386 = .ok (.iaload, 1) := by decide +kernel
theorem d_law_387 : decode zm_law.2.2.1 387 = .ok (.aload_n 0, 1) := by decide +kernel
theorem d_law_388 : decode zm_law.2.2.1 388 = .ok (.iload_n 3, 1) := by decide +kernel
theorem d_law_389 : decode zm_law.2.2.1 389 = .ok (.iconst 3, 1) := by decide +kernel
theorem d_law_390 : decode zm_law.2.2.1 390 = .ok (.iadd, 1) := by decide +kernel
theorem d_law_391 : decode zm_law.2.2.1 391 = .ok (.iaload, 1) := by decide +kernel
theorem d_law_392 : decode zm_law.2.2.1 392 = .ok (.invokevirtual 56, 3) := by decide +kernel
theorem d_law_395 : decode zm_law.2.2.1 395 = .ok (.if_icmp .eq 385, 3) := by decide +kernel
theorem d_law_398 : decode zm_law.2.2.1 398 = .ok (.iconst 0, 1) := by decide +kernel
theorem d_law_399 : decode zm_law.2.2.1 399 = .ok (.ireturn, 1) := by decide +kernel
theorem d_law_400 : decode zm_law.2.2.1 400 = .ok (.aload_n 1, 1) := by decide +kernel
theorem d_law_401 : decode zm_law.2.2.1 401 = .ok (.aload_n 0, 1) := by decide +kernel
theorem d_law_402 : decode zm_law.2.2.1 402 = .ok (.iload_n 3, 1) := by decide +kernel
theorem d_law_403 : decode zm_law.2.2.1 403 = .ok (.iconst 1, 1) := by decide +kernel
theorem d_law_404 : decode zm_law.2.2.1 404 = .ok (.iadd, 1) := by decide +kernel
theorem d_law_405 : decode zm_law.2.2.1 405 = .ok (.iaload, 1) := by decide +kernel
theorem d_law_406 : decode zm_law.2.2.1 406 = .ok (.aload_n 0, 1) := by decide +kernel
theorem d_law_407 : decode zm_law.2.2.1 407 = .ok (.iload_n 3, 1) := by decide +kernel
theorem d_law_408 : decode zm_law.2.2.1 408 = .ok (.iconst 2, 1) := by decide +kernel
theorem d_law_409 : decode zm_law.2.2.1 409 = .ok (.iadd, 1) := by decide +kernel
theorem d_law_410 : decode zm_law.2.2.1 410 = .ok (.iaload, 1) := by decide +kernel
theorem d_law_411 : decode zm_law.2.2.1 411 = .ok (.invokevirtual 57, 3) := by decide +kernel
theorem d_law_414 : decode zm_law.2.2.1 414 = .ok (.aload_n 2, 1) := by decide +kernel
theorem d_law_415 : decode zm_law.2.2.1 415 = .ok (.aload_n 0, 1) := by decide +kernel
theorem d_law_416 : decode zm_law.2.2.1 416 = .ok (.iload_n 3, 1) := by decide +kernel
theorem d_law_417 : decode zm_law.2.2.1 417 = .ok (.iconst 1, 1) := by decide +kernel
theorem d_law_418 : decode zm_law.2.2.1 418 = .ok (.iadd, 1) := by decide +kernel
theorem d_law_419 : decode zm_law.2.2.1 419 = .ok (.iaload, 1) := by decide +kernel
theorem d_law_420 : decode zm_law.2.2.1 420 = .ok (.aload_n 0, 1) := by decide +kernel
theorem d_law_421 : decode zm_law.2.2.1 421 = .ok (.iload_n 3, 1) := by decide +kernel
theorem d_law_422 : decode zm_law.2.2.1 422 = .ok (.iconst 2, 1) := by decide +kernel
theorem d_law_423 : decode zm_law.2.2.1 423 = .ok (.iadd, 1) := by decide +kernel
theorem d_law_424 : decode zm_law.2.2.1 424 = .ok (.iaload, 1) := by decide +kernel
theorem d_law_425 : decode zm_law.2.2.1 425 = .ok (.invokevirtual 60, 3) := by decide +kernel
theorem d_law_428 : decode zm_law.2.2.1 428 = .ok (.if_icmp .eq 352, 3) := by decide +kernel
theorem d_law_431 : decode zm_law.2.2.1 431 = .ok (.iconst 0, 1) := by decide +kernel
theorem d_law_432 : decode zm_law.2.2.1 432 = .ok (.ireturn, 1) := by decide +kernel
theorem d_law_433 : decode zm_law.2.2.1 433 = .ok (.aload_n 1, 1) := by decide +kernel
theorem d_law_434 : decode zm_law.2.2.1 434 = .ok (.aload_n 0, 1) := by decide +kernel
theorem d_law_435 : decode zm_law.2.2.1 435 = .ok (.iload_n 3, 1) := by decide +kernel
theorem d_law_436 : decode zm_law.2.2.1 436 = .ok (.iconst 1, 1) := by decide +kernel
theorem d_law_437 : decode zm_law.2.2.1 437 = .ok (.iadd, 1) := by decide +kernel
theorem d_law_438 : decode zm_law.2.2.1 438 = .ok (.iaload, 1) := by decide +kernel
theorem d_law_439 : decode zm_law.2.2.1 439 = .ok (.invokevirtual 61, 3) := by decide +kernel
theorem d_law_442 : decode zm_law.2.2.1 442 = .ok (.aload_n 2, 1) := by decide +kernel
theorem d_law_443 : decode zm_law.2.2.1 443 = .ok (.aload_n 0, 1) := by decide +kernel
theorem d_law_444 : decode zm_law.2.2.1 444 = .ok (.iload_n 3, 1) := by decide +kernel
theorem d_law_445 : decode zm_law.2.2.1 445 = .ok (.iconst 1, 1) := by decide +kernel
theorem d_law_446 : decode zm_law.2.2.1 446 = .ok (.iadd, 1) := by decide +kernel
theorem d_law_447 : decode zm_law.2.2.1 447 = .ok (.iaload, 1) := by decide +kernel
theorem d_law_448 : decode zm_law.2.2.1 448 = .ok (.invokevirtual 64, 3) := by decide +kernel
theorem d_law_451 : decode zm_law.2.2.1 451 = .ok (.if_icmp .eq 329, 3) := by decide +kernel
theorem d_law_454 : decode zm_law.2.2.1 454 = .ok (.iconst 0, 1) := by decide +kernel
theorem d_law_455 : decode zm_law.2.2.1 455 = .ok (.ireturn, 1) := by decide +kernel
theorem d_law_456 : decode zm_law.2.2.1 456 = .ok (.aload_n 1, 1) := by decide +kernel
theorem d_law_457 : decode zm_law.2.2.1 457 = .ok (.aload_n 0, 1) := by decide +kernel
theorem d_law_458 : decode zm_law.2.2.1 458 = .ok (.iload_n 3, 1) := by decide +kernel
theorem d_law_459 : decode zm_law.2.2.1 459 = .ok (.iconst 1, 1) := by decide +kernel
theorem d_law_460 : decode zm_law.2.2.1 460 = .ok (.iadd, 1) := by decide +kernel
theorem d_law_461 : decode zm_law.2.2.1 461 = .ok (.iaload, 1) := by decide +kernel
theorem d_law_462 : decode zm_law.2.2.1 462 = .ok (.aload_n 0, 1) := by decide +kernel
theorem d_law_463 : decode zm_law.2.2.1 463 = .ok (.iload_n 3, 1) := by decide +kernel
theorem d_law_464 : decode zm_law.2.2.1 464 = .ok (.iconst 2, 1) := by decide +kernel
theorem d_law_465 : decode zm_law.2.2.1 465 = .ok (.iadd, 1) := by decide +kernel
theorem d_law_466 : decode zm_law.2.2.1 466 = .ok (.iaload, 1) := by decide +kernel
theorem d_law_467 : decode zm_law.2.2.1 467 = .ok (.invokevirtual 65, 3) := by decide +kernel
theorem d_law_470 : decode zm_law.2.2.1 470 = .ok (.aload_n 2, 1) := by decide +kernel
theorem d_law_471 : decode zm_law.2.2.1 471 = .ok (.aload_n 0, 1) := by decide +kernel
theorem d_law_472 : decode zm_law.2.2.1 472 = .ok (.iload_n 3, 1) := by decide +kernel
theorem d_law_473 : decode zm_law.2.2.1 473 = .ok (.iconst 1, 1) := by decide +kernel
theorem d_law_474 : decode zm_law.2.2.1 474 = .ok (.iadd, 1) := by decide +kernel
theorem d_law_475 : decode zm_law.2.2.1 475 = .ok (.iaload, 1) := by decide +kernel
theorem d_law_476 : decode zm_law.2.2.1 476 = .ok (.aload_n 0, 1) := by decide +kernel
theorem d_law_477 : decode zm_law.2.2.1 477 = .ok (.iload_n 3, 1) := by decide +kernel
theorem d_law_478 : decode zm_law.2.2.1 478 = .ok (.iconst 2, 1) := by decide +kernel
theorem d_law_479 : decode zm_law.2.2.1 479 = .ok (.iadd, 1) := by decide +kernel
theorem d_law_480 : decode zm_law.2.2.1 480 = .ok (.iaload, 1) := by decide +kernel
theorem d_law_481 : decode zm_law.2.2.1 481 = .ok (.invokevirtual 68, 3) := by decide +kernel
theorem d_law_484 : decode zm_law.2.2.1 484 = .ok (.if_icmp .eq 296, 3) := by decide +kernel
theorem d_law_487 : decode zm_law.2.2.1 487 = .ok (.iconst 0, 1) := by decide +kernel
theorem d_law_488 : decode zm_law.2.2.1 488 = .ok (.ireturn, 1) := by decide +kernel
theorem d_law_489 : decode zm_law.2.2.1 489 = .ok (.aload_n 1, 1) := by decide +kernel
theorem d_law_490 : decode zm_law.2.2.1 490 = .ok (.aload_n 0, 1) := by decide +kernel
theorem d_law_491 : decode zm_law.2.2.1 491 = .ok (.iload_n 3, 1) := by decide +kernel
theorem d_law_492 : decode zm_law.2.2.1 492 = .ok (.iconst 1, 1) := by decide +kernel
theorem d_law_493 : decode zm_law.2.2.1 493 = .ok (.iadd, 1) := by decide +kernel
theorem d_law_494 : decode zm_law.2.2.1 494 = .ok (.iaload, 1) := by decide +kernel
theorem d_law_495 : decode zm_law.2.2.1 495 = .ok (.aload_n 0, 1) := by decide +kernel
theorem d_law_496 : decode zm_law.2.2.1 496 = .ok (.iload_n 3, 1) := by decide +kernel
theorem d_law_497 : decode zm_law.2.2.1 497 = .ok (.iconst 2, 1) := by decide +kernel
theorem d_law_498 : decode zm_law.2.2.1 498 = .ok (.iadd, 1) := by decide +kernel
theorem d_law_499 : decode zm_law.2.2.1 499 = .ok (.iaload, 1) := by decide +kernel
theorem d_law_500 : decode zm_law.2.2.1 500 = .ok (.invokevirtual 69, 3) := by decide +kernel
theorem d_law_503 : decode zm_law.2.2.1 503 = .ok (.aload_n 2, 1) := by decide +kernel
theorem d_law_504 : decode zm_law.2.2.1 504 = .ok (.aload_n 0, 1) := by decide +kernel
theorem d_law_505 : decode zm_law.2.2.1 505 = .ok (.iload_n 3, 1) := by decide +kernel
theorem d_law_506 : decode zm_law.2.2.1 506 = .ok (.iconst 1, 1) := by decide +kernel
theorem d_law_507 : decode zm_law.2.2.1 507 = .ok (.iadd, 1) := by decide +kernel
theorem d_law_508 : decode zm_law.2.2.1 508 = .ok (.iaload, 1) := by decide +kernel
theorem d_law_509 : decode zm_law.2.2.1 509 = .ok (.aload_n 0, 1) := by decide +kernel
theorem d_law_510 : decode zm_law.2.2.1 510 = .ok (.iload_n 3, 1) := by decide +kernel
theorem d_law_511 : decode zm_law.2.2.1 511 = .ok (.iconst 2, 1) := by decide +kernel
theorem d_law_512 : decode zm_law.2.2.1 512 = .ok (.iadd, 1) := by decide +kernel
theorem d_law_513 : decode zm_law.2.2.1 513 = .ok (.iaload, 1) := by decide +kernel
theorem d_law_514 : decode zm_law.2.2.1 514 = .ok (.invokevirtual 72, 3) := by decide +kernel
theorem d_law_517 : decode zm_law.2.2.1 517 = .ok (.if_icmp .eq 263, 3) := by decide +kernel
theorem d_law_520 : decode zm_law.2.2.1 520 = .ok (.iconst 0, 1) := by decide +kernel
theorem d_law_521 : decode zm_law.2.2.1 521 = .ok (.ireturn, 1) := by decide +kernel
theorem d_law_522 : decode zm_law.2.2.1 522 = .ok (.aload_n 1, 1) := by decide +kernel
theorem d_law_523 : decode zm_law.2.2.1 523 = .ok (.aload_n 0, 1) := by decide +kernel
theorem d_law_524 : decode zm_law.2.2.1 524 = .ok (.iload_n 3, 1) := by decide +kernel
theorem d_law_525 : decode zm_law.2.2.1 525 = .ok (.iconst 1, 1) := by decide +kernel
theorem d_law_526 : decode zm_law.2.2.1 526 = .ok (.iadd, 1) := by decide +kernel
theorem d_law_527 : decode zm_law.2.2.1 527 = .ok (.iaload, 1) := by decide +kernel
theorem d_law_528 : decode zm_law.2.2.1 528 = .ok (.aload_n 0, 1) := by decide +kernel
theorem d_law_529 : decode zm_law.2.2.1 529 = .ok (.iload_n 3, 1) := by decide +kernel
theorem d_law_530 : decode zm_law.2.2.1 530 = .ok (.iconst 2, 1) := by decide +kernel
theorem d_law_531 : decode zm_law.2.2.1 531 = .ok (.iadd, 1) := by decide +kernel
theorem d_law_532 : decode zm_law.2.2.1 532 = .ok (.iaload, 1) := by decide +kernel
theorem d_law_533 : decode zm_law.2.2.1 533 = .ok (.invokevirtual 73, 3) := by decide +kernel
theorem d_law_536 : decode zm_law.2.2.1 536 = .ok (.aload_n 2, 1) := by decide +kernel
theorem d_law_537 : decode zm_law.2.2.1 537 = .ok (.aload_n 0, 1) := by decide +kernel
theorem d_law_538 : decode zm_law.2.2.1 538 = .ok (.iload_n 3, 1) := by decide +kernel
theorem d_law_539 : decode zm_law.2.2.1 539 = .ok (.iconst 1, 1) := by decide +kernel
theorem d_law_540 : decode zm_law.2.2.1 540 = .ok (.iadd, 1) := by decide +kernel
theorem d_law_541 : decode zm_law.2.2.1 541 = .ok (.iaload, 1) := by decide +kernel
theorem d_law_542 : decode zm_law.2.2.1 542 = .ok (.aload_n 0, 1) := by decide +kernel
theorem d_law_543 : decode zm_law.2.2.1 543 = .ok (.iload_n 3, 1) := by decide +kernel
theorem d_law_544 : decode zm_law.2.2.1 544 = .ok (.iconst 2, 1) := by decide +kernel
theorem d_law_545 : decode zm_law.2.2.1 545 = .ok (.iadd, 1) := by decide +kernel
theorem d_law_546 : decode zm_law.2.2.1 546 = .ok (.iaload, 1) := by decide +kernel
theorem d_law_547 : decode zm_law.2.2.1 547 = .ok (.invokevirtual 76, 3) := by decide +kernel
theorem d_law_550 : decode zm_law.2.2.1 550 = .ok (.if_icmp .eq 230, 3) := by decide +kernel
theorem d_law_553 : decode zm_law.2.2.1 553 = .ok (.iconst 0, 1) := by decide +kernel
theorem d_law_554 : decode zm_law.2.2.1 554 = .ok (.ireturn, 1) := by decide +kernel
theorem d_law_555 : decode zm_law.2.2.1 555 = .ok (.aload_n 1, 1) := by decide +kernel
theorem d_law_556 : decode zm_law.2.2.1 556 = .ok (.aload_n 0, 1) := by decide +kernel
theorem d_law_557 : decode zm_law.2.2.1 557 = .ok (.iload_n 3, 1) := by decide +kernel
theorem d_law_558 : decode zm_law.2.2.1 558 = .ok (.iconst 1, 1) := by decide +kernel
theorem d_law_559 : decode zm_law.2.2.1 559 = .ok (.iadd, 1) := by decide +kernel
theorem d_law_560 : decode zm_law.2.2.1 560 = .ok (.iaload, 1) := by decide +kernel
theorem d_law_561 : decode zm_law.2.2.1 561 = .ok (.aload_n 0, 1) := by decide +kernel
theorem d_law_562 : decode zm_law.2.2.1 562 = .ok (.iload_n 3, 1) := by decide +kernel
theorem d_law_563 : decode zm_law.2.2.1 563 = .ok (.iconst 2, 1) := by decide +kernel
theorem d_law_564 : decode zm_law.2.2.1 564 = .ok (.iadd, 1) := by decide +kernel
theorem d_law_565 : decode zm_law.2.2.1 565 = .ok (.iaload, 1) := by decide +kernel
theorem d_law_566 : decode zm_law.2.2.1 566 = .ok (.aload_n 0, 1) := by decide +kernel
theorem d_law_567 : decode zm_law.2.2.1 567 = .ok (.iload_n 3, 1) := by decide +kernel
theorem d_law_568 : decode zm_law.2.2.1 568 = .ok (.iconst 3, 1) := by decide +kernel
theorem d_law_569 : decode zm_law.2.2.1 569 = .ok (.iadd, 1) := by decide +kernel
theorem d_law_570 : decode zm_law.2.2.1 570 = .ok (.iaload, 1) := by decide +kernel
theorem d_law_571 : decode zm_law.2.2.1 571 = .ok (.aload_n 0, 1) := by decide +kernel
theorem d_law_572 : decode zm_law.2.2.1 572 = .ok (.iload_n 3, 1) := by decide +kernel
theorem d_law_573 : decode zm_law.2.2.1 573 = .ok (.iconst 4, 1) := by decide +kernel
theorem d_law_574 : decode zm_law.2.2.1 574 = .ok (.iadd, 1) := by decide +kernel
theorem d_law_575 : decode zm_law.2.2.1 575 = .ok (.iaload, 1) := by decide +kernel
theorem d_law_576 : decode zm_law.2.2.1 576 = .ok (.invokevirtual 77, 3) := by decide +kernel
theorem d_law_579 : decode zm_law.2.2.1 579 = .ok (.aload_n 2, 1) := by decide +kernel
theorem d_law_580 : decode zm_law.2.2.1 580 = .ok (.aload_n 0, 1) := by decide +kernel
theorem d_law_581 : decode zm_law.2.2.1 581 = .ok (.iload_n 3, 1) := by decide +kernel
theorem d_law_582 : decode zm_law.2.2.1 582 = .ok (.iconst 1, 1) := by decide +kernel
theorem d_law_583 : decode zm_law.2.2.1 583 = .ok (.iadd, 1) := by decide +kernel
theorem d_law_584 : decode zm_law.2.2.1 584 = .ok (.iaload, 1) := by decide +kernel
theorem d_law_585 : decode zm_law.2.2.1 585 = .ok (.aload_n 0, 1) := by decide +kernel
theorem d_law_586 : decode zm_law.2.2.1 586 = .ok (.iload_n 3, 1) := by decide +kernel
theorem d_law_587 : decode zm_law.2.2.1 587 = .ok (.iconst 2, 1) := by decide +kernel
theorem d_law_588 : decode zm_law.2.2.1 588 = .ok (.iadd, 1) := by decide +kernel
theorem d_law_589 : decode zm_law.2.2.1 589 = .ok (.iaload, 1) := by decide +kernel
theorem d_law_590 : decode zm_law.2.2.1 590 = .ok (.aload_n 0, 1) := by decide +kernel
theorem d_law_591 : decode zm_law.2.2.1 591 = .ok (.iload_n 3, 1) := by decide +kernel
theorem d_law_592 : decode zm_law.2.2.1 592 = .ok (.iconst 3, 1) := by decide +kernel
theorem d_law_593 : decode zm_law.2.2.1 593 = .ok (.iadd, 1) := by decide +kernel
theorem d_law_594 : decode zm_law.2.2.1 594 = .ok (.iaload, 1) := by decide +kernel
theorem d_law_595 : decode zm_law.2.2.1 595 = .ok (.aload_n 0, 1) := by decide +kernel
theorem d_law_596 : decode zm_law.2.2.1 596 = .ok (.iload_n 3, 1) := by decide +kernel
theorem d_law_597 : decode zm_law.2.2.1 597 = .ok (.iconst 4, 1) := by decide +kernel
theorem d_law_598 : decode zm_law.2.2.1 598 = .ok (.iadd, 1) := by decide +kernel
theorem d_law_599 : decode zm_law.2.2.1 599 = .ok (.iaload, 1) := by decide +kernel
theorem d_law_600 : decode zm_law.2.2.1 600 = .ok (.invokevirtual 81, 3) := by decide +kernel
theorem d_law_603 : decode zm_law.2.2.1 603 = .ok (.if_icmp .eq 177, 3) := by decide +kernel
theorem d_law_606 : decode zm_law.2.2.1 606 = .ok (.iconst 0, 1) := by decide +kernel
theorem d_law_607 : decode zm_law.2.2.1 607 = .ok (.ireturn, 1) := by decide +kernel
theorem d_law_608 : decode zm_law.2.2.1 608 = .ok (.aload_n 1, 1) := by decide +kernel
theorem d_law_609 : decode zm_law.2.2.1 609 = .ok (.aload_n 0, 1) := by decide +kernel
theorem d_law_610 : decode zm_law.2.2.1 610 = .ok (.iload_n 3, 1) := by decide +kernel
theorem d_law_611 : decode zm_law.2.2.1 611 = .ok (.iconst 1, 1) := by decide +kernel
theorem d_law_612 : decode zm_law.2.2.1 612 = .ok (.iadd, 1) := by decide +kernel
theorem d_law_613 : decode zm_law.2.2.1 613 = .ok (.iaload, 1) := by decide +kernel
theorem d_law_614 : decode zm_law.2.2.1 614 = .ok (.invokevirtual 82, 3) := by decide +kernel
theorem d_law_617 : decode zm_law.2.2.1 617 = .ok (.aload_n 2, 1) := by decide +kernel
theorem d_law_618 : decode zm_law.2.2.1 618 = .ok (.aload_n 0, 1) := by decide +kernel
theorem d_law_619 : decode zm_law.2.2.1 619 = .ok (.iload_n 3, 1) := by decide +kernel
theorem d_law_620 : decode zm_law.2.2.1 620 = .ok (.iconst 1, 1) := by decide +kernel
theorem d_law_621 : decode zm_law.2.2.1 621 = .ok (.iadd, 1) := by decide +kernel
theorem d_law_622 : decode zm_law.2.2.1 622 = .ok (.iaload, 1) := by decide +kernel
theorem d_law_623 : decode zm_law.2.2.1 623 = .ok (.invokevirtual 85, 3) := by decide +kernel
theorem d_law_626 : decode zm_law.2.2.1 626 = .ok (.if_icmp .eq 154, 3) := by decide +kernel
theorem d_law_629 : decode zm_law.2.2.1 629 = .ok (.iconst 0, 1) := by decide +kernel
theorem d_law_630 : decode zm_law.2.2.1 630 = .ok (.ireturn, 1) := by decide +kernel
theorem d_law_631 : decode zm_law.2.2.1 631 = .ok (.aload_n 1, 1) := by decide +kernel
theorem d_law_632 : decode zm_law.2.2.1 632 = .ok (.aload_n 0, 1) := by decide +kernel
theorem d_law_633 : decode zm_law.2.2.1 633 = .ok (.iload_n 3, 1) := by decide +kernel
theorem d_law_634 : decode zm_law.2.2.1 634 = .ok (.iconst 1, 1) := by decide +kernel
theorem d_law_635 : decode zm_law.2.2.1 635 = .ok (.iadd, 1) := by decide +kernel
theorem d_law_636 : decode zm_law.2.2.1 636 = .ok (.iaload, 1) := by decide +kernel
theorem d_law_637 : decode zm_law.2.2.1 637 = .ok (.aload_n 0, 1) := by decide +kernel
theorem d_law_638 : decode zm_law.2.2.1 638 = .ok (.iload_n 3, 1) := by decide +kernel
theorem d_law_639 : decode zm_law.2.2.1 639 = .ok (.iconst 2, 1) := by decide +kernel
theorem d_law_640 : decode zm_law.2.2.1 640 = .ok (.iadd, 1) := by decide +kernel
theorem d_law_641 : decode zm_law.2.2.1 641 = .ok (.iaload, 1) := by decide +kernel
theorem d_law_642 : decode zm_law.2.2.1 642 = .ok (.invokevirtual 86, 3) := by decide +kernel
theorem d_law_645 : decode zm_law.2.2.1 645 = .ok (.aload_n 2, 1) := by decide +kernel
theorem d_law_646 : decode zm_law.2.2.1 646 = .ok (.aload_n 0, 1) := by decide +kernel
theorem d_law_647 : decode zm_law.2.2.1 647 = .ok (.iload_n 3, 1) := by decide +kernel
theorem d_law_648 : decode zm_law.2.2.1 648 = .ok (.iconst 1, 1) := by decide +kernel
theorem d_law_649 : decode zm_law.2.2.1 649 = .ok (.iadd, 1) := by decide +kernel
theorem d_law_650 : decode zm_law.2.2.1 650 = .ok (.iaload, 1) := by decide +kernel
theorem d_law_651 : decode zm_law.2.2.1 651 = .ok (.aload_n 0, 1) := by decide +kernel
theorem d_law_652 : decode zm_law.2.2.1 652 = .ok (.iload_n 3, 1) := by decide +kernel
theorem d_law_653 : decode zm_law.2.2.1 653 = .ok (.iconst 2, 1) := by decide +kernel
theorem d_law_654 : decode zm_law.2.2.1 654 = .ok (.iadd, 1) := by decide +kernel
theorem d_law_655 : decode zm_law.2.2.1 655 = .ok (.iaload, 1) := by decide +kernel
theorem d_law_656 : decode zm_law.2.2.1 656 = .ok (.invokevirtual 89, 3) := by decide +kernel
theorem d_law_659 : decode zm_law.2.2.1 659 = .ok (.if_icmp .eq 121, 3) := by decide +kernel
theorem d_law_662 : decode zm_law.2.2.1 662 = .ok (.iconst 0, 1) := by decide +kernel
theorem d_law_663 : decode zm_law.2.2.1 663 = .ok (.ireturn, 1) := by decide +kernel
theorem d_law_664 : decode zm_law.2.2.1 664 = .ok (.aload_n 1, 1) := by decide +kernel
theorem d_law_665 : decode zm_law.2.2.1 665 = .ok (.aload_n 0, 1) := by decide +kernel
theorem d_law_666 : decode zm_law.2.2.1 666 = .ok (.iload_n 3, 1) := by decide +kernel
theorem d_law_667 : decode zm_law.2.2.1 667 = .ok (.iconst 1, 1) := by decide +kernel
theorem d_law_668 : decode zm_law.2.2.1 668 = .ok (.iadd, 1) := by decide +kernel
theorem d_law_669 : decode zm_law.2.2.1 669 = .ok (.iaload, 1) := by decide +kernel
theorem d_law_670 : decode zm_law.2.2.1 670 = .ok (.aload_n 0, 1) := by decide +kernel
theorem d_law_671 : decode zm_law.2.2.1 671 = .ok (.iload_n 3, 1) := by decide +kernel
theorem d_law_672 : decode zm_law.2.2.1 672 = .ok (.iconst 2, 1) := by decide +kernel
theorem d_law_673 : decode zm_law.2.2.1 673 = .ok (.iadd, 1) := by decide +kernel
theorem d_law_674 : decode zm_law.2.2.1 674 = .ok (.iaload, 1) := by decide +kernel
theorem d_law_675 : decode zm_law.2.2.1 675 = .ok (.invokevirtual 90, 3) := by decide +kernel
theorem d_law_678 : decode zm_law.2.2.1 678 = .ok (.aload_n 2, 1) := by decide +kernel
theorem d_law_679 : decode zm_law.2.2.1 679 = .ok (.aload_n 0, 1) := by decide +kernel
theorem d_law_680 : decode zm_law.2.2.1 680 = .ok (.iload_n 3, 1) := by decide +kernel
theorem d_law_681 : decode zm_law.2.2.1 681 = .ok (.iconst 1, 1) := by decide +kernel
theorem d_law_682 : decode zm_law.2.2.1 682 = .ok (.iadd, 1) := by decide +kernel
theorem d_law_683 : decode zm_law.2.2.1 683 = .ok (.iaload, 1) := by decide +kernel
theorem d_law_684 : decode zm_law.2.2.1 684 = .ok (.aload_n 0, 1) := by decide +kernel
theorem d_law_685 : decode zm_law.2.2.1 685 = .ok (.iload_n 3, 1) := by decide +kernel
theorem d_law_686 : decode zm_law.2.2.1 686 = .ok (.iconst 2, 1) := by decide +kernel
theorem d_law_687 : decode zm_law.2.2.1 687 = .ok (.iadd, 1) := by decide +kernel
theorem d_law_688 : decode zm_law.2.2.1 688 = .ok (.iaload, 1) := by decide +kernel
theorem d_law_689 : decode zm_law.2.2.1 689 = .ok (.invokevirtual 93, 3) := by decide +kernel
theorem d_law_692 : decode zm_law.2.2.1 692 = .ok (.if_icmp .eq 88, 3) := by decide +kernel
theorem d_law_695 : decode zm_law.2.2.1 695 = .ok (.iconst 0, 1) := by decide +kernel
theorem d_law_696 : decode zm_law.2.2.1 696 = .ok (.ireturn, 1) := by decide +kernel
theorem d_law_697 : decode zm_law.2.2.1 697 = .ok (.aload_n 1, 1) := by decide +kernel
theorem d_law_698 : decode zm_law.2.2.1 698 = .ok (.aload_n 0, 1) := by decide +kernel
theorem d_law_699 : decode zm_law.2.2.1 699 = .ok (.iload_n 3, 1) := by decide +kernel
theorem d_law_700 : decode zm_law.2.2.1 700 = .ok (.iconst 1, 1) := by decide +kernel
theorem d_law_701 : decode zm_law.2.2.1 701 = .ok (.iadd, 1) := by decide +kernel
theorem d_law_702 : decode zm_law.2.2.1 702 = .ok (.iaload, 1) := by decide +kernel
theorem d_law_703 : decode zm_law.2.2.1 703 = .ok (.invokevirtual 94, 3) := by decide +kernel
theorem d_law_706 : decode zm_law.2.2.1 706 = .ok (.aload_n 2, 1) := by decide +kernel
theorem d_law_707 : decode zm_law.2.2.1 707 = .ok (.aload_n 0, 1) := by decide +kernel
theorem d_law_708 : decode zm_law.2.2.1 708 = .ok (.iload_n 3, 1) := by decide +kernel
theorem d_law_709 : decode zm_law.2.2.1 709 = .ok (.iconst 1, 1) := by decide +kernel
theorem d_law_710 : decode zm_law.2.2.1 710 = .ok (.iadd, 1) := by decide +kernel
theorem d_law_711 : decode zm_law.2.2.1 711 = .ok (.iaload, 1) := by decide +kernel
theorem d_law_712 : decode zm_law.2.2.1 712 = .ok (.invokevirtual 97, 3) := by decide +kernel
theorem d_law_715 : decode zm_law.2.2.1 715 = .ok (.if_icmp .eq 65, 3) := by decide +kernel
theorem d_law_718 : decode zm_law.2.2.1 718 = .ok (.iconst 0, 1) := by decide +kernel
theorem d_law_719 : decode zm_law.2.2.1 719 = .ok (.ireturn, 1) := by decide +kernel
theorem d_law_720 : decode zm_law.2.2.1 720 = .ok (.aload_n 1, 1) := by decide +kernel
theorem d_law_721 : decode zm_law.2.2.1 721 = .ok (.aload_n 0, 1) := by decide +kernel
theorem d_law_722 : decode zm_law.2.2.1 722 = .ok (.iload_n 3, 1) := by decide +kernel
theorem d_law_723 : decode zm_law.2.2.1 723 = .ok (.iconst 1, 1) := by decide +kernel
theorem d_law_724 : decode zm_law.2.2.1 724 = .ok (.iadd, 1) := by decide +kernel
theorem d_law_725 : decode zm_law.2.2.1 725 = .ok (.iaload, 1) := by decide +kernel
theorem d_law_726 : decode zm_law.2.2.1 726 = .ok (.invokevirtual 98, 3) := by decide +kernel
theorem d_law_729 : decode zm_law.2.2.1 729 = .ok (.aload_n 2, 1) := by decide +kernel
theorem d_law_730 : decode zm_law.2.2.1 730 = .ok (.aload_n 0, 1) := by decide +kernel
theorem d_law_731 : decode zm_law.2.2.1 731 = .ok (.iload_n 3, 1) := by decide +kernel
theorem d_law_732 : decode zm_law.2.2.1 732 = .ok (.iconst 1, 1) := by decide +kernel
theorem d_law_733 : decode zm_law.2.2.1 733 = .ok (.iadd, 1) := by decide +kernel
theorem d_law_734 : decode zm_law.2.2.1 734 = .ok (.iaload, 1) := by decide +kernel
theorem d_law_735 : decode zm_law.2.2.1 735 = .ok (.invokevirtual 101, 3) := by decide +kernel
theorem d_law_738 : decode zm_law.2.2.1 738 = .ok (.if_icmp .eq 42, 3) := by decide +kernel
theorem d_law_741 : decode zm_law.2.2.1 741 = .ok (.iconst 0, 1) := by decide +kernel
theorem d_law_742 : decode zm_law.2.2.1 742 = .ok (.ireturn, 1) := by decide +kernel
theorem d_law_743 : decode zm_law.2.2.1 743 = .ok (.aload_n 1, 1) := by decide +kernel
theorem d_law_744 : decode zm_law.2.2.1 744 = .ok (.aload_n 0, 1) := by decide +kernel
theorem d_law_745 : decode zm_law.2.2.1 745 = .ok (.iload_n 3, 1) := by decide +kernel
theorem d_law_746 : decode zm_law.2.2.1 746 = .ok (.iconst 1, 1) := by decide +kernel
theorem d_law_747 : decode zm_law.2.2.1 747 = .ok (.iadd, 1) := by decide +kernel
theorem d_law_748 : decode zm_law.2.2.1 748 = .ok (.iaload, 1) := by decide +kernel
theorem d_law_749 : decode zm_law.2.2.1 749 = .ok (.invokevirtual 102, 3) := by decide +kernel
theorem d_law_752 : decode zm_law.2.2.1 752 = .ok (.aload_n 2, 1) := by decide +kernel
theorem d_law_753 : decode zm_law.2.2.1 753 = .ok (.aload_n 0, 1) := by decide +kernel
theorem d_law_754 : decode zm_law.2.2.1 754 = .ok (.iload_n 3, 1) := by decide +kernel
theorem d_law_755 : decode zm_law.2.2.1 755 = .ok (.iconst 1, 1) := by decide +kernel
theorem d_law_756 : decode zm_law.2.2.1 756 = .ok (.iadd, 1) := by decide +kernel
theorem d_law_757 : decode zm_law.2.2.1 757 = .ok (.iaload, 1) := by decide +kernel
theorem d_law_758 : decode zm_law.2.2.1 758 = .ok (.invokevirtual 105, 3) := by decide +kernel
theorem d_law_761 : decode zm_law.2.2.1 761 = .ok (.if_icmp .eq 19, 3) := by decide +kernel
theorem d_law_764 : decode zm_law.2.2.1 764 = .ok (.iconst 0, 1) := by decide +kernel
theorem d_law_765 : decode zm_law.2.2.1 765 = .ok (.ireturn, 1) := by decide +kernel
theorem d_law_766 : decode zm_law.2.2.1 766 = .ok (.aload_n 1, 1) := by decide +kernel
theorem d_law_767 : decode zm_law.2.2.1 767 = .ok (.invokevirtual 106, 3) := by decide +kernel
theorem d_law_770 : decode zm_law.2.2.1 770 = .ok (.aload_n 2, 1) := by decide +kernel
theorem d_law_771 : decode zm_law.2.2.1 771 = .ok (.invokevirtual 110, 3) := by decide +kernel
theorem d_law_774 : decode zm_law.2.2.1 774 = .ok (.lcmp, 1) := by decide +kernel
theorem d_law_775 : decode zm_law.2.2.1 775 = .ok (.ifCond .eq 5, 3) := by decide +kernel
theorem d_law_778 : decode zm_law.2.2.1 778 = .ok (.iconst 0, 1) := by decide +kernel
theorem d_law_779 : decode zm_law.2.2.1 779 = .ok (.ireturn, 1) := by decide +kernel
theorem d_law_780 : decode zm_law.2.2.1 780 = .ok (.iinc 3 5, 3) := by decide +kernel
theorem d_law_783 : decode zm_law.2.2.1 783 = .ok (.goto (-765), 3) := by decide +kernel
theorem d_law_786 : decode zm_law.2.2.1 786 = .ok (.iconst 1, 1) := by decide +kernel
theorem d_law_787 : decode zm_law.2.2.1 787 = .ok (.ireturn, 1) := by decide +kernel
