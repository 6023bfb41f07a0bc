theorem d_M_within_0 : decode zm_M_within.2.2.1 0 = .ok (.iload_n 0, 1) := by decide +kernel
theorem d_M_within_1 : decode zm_M_within.2.2.1 1 = .ok (.iload_n 1, 1) := by decide +kernel
theorem d_M_within_2 : decode zm_M_within.2.2.1 2 = .ok (.if_icmp .lt 12, 3) := by decide +kernel
theorem d_M_within_5 : decode zm_M_within.2.2.1 5 = .ok (.iload_n 0, 1) := by decide +kernel
theorem d_M_within_6 : decode zm_M_within.2.2.1 6 = .ok (.iload_n 2, 1) := by decide +kernel
theorem d_M_within_7 : decode zm_M_within.2.2.1 7 = .ok (.if_icmp .gt 7, 3) := by decide +kernel
theorem d_M_within_10 : decode zm_M_within.2.2.1 10 = .ok (.iconst 1, 1) := by decide +kernel
theorem d_M_within_11 : decode zm_M_within.2.2.1 11 = .ok (.goto 4, 3) := by decide +kernel
theorem d_M_within_14 : decode zm_M_within.2.2.1 14 = .ok (.iconst 0, 1) := by decide +kernel
theorem d_M_within_15 : decode zm_M_within.2.2.1 15 = .ok (.ireturn, 1) := by decide +kernel
theorem d_M_letter_0 : decode zm_M_letter.2.2.1 0 = .ok (.iload_n 1, 1) := by decide +kernel
theorem d_M_letter_1 : decode zm_M_letter.2.2.1 1 = .ok (.bipush 32, 2) := by decide +kernel
theorem d_M_letter_3 : decode zm_M_letter.2.2.1 3 = .ok (.bipush 126, 2) := by decide +kernel
theorem d_M_letter_5 : decode zm_M_letter.2.2.1 5 = .ok (.invokestatic 72, 3) := by decide +kernel
theorem d_M_letter_8 : decode zm_M_letter.2.2.1 8 = .ok (.ifCond .ne 6, 3) := by decide +kernel
theorem d_M_letter_11 : decode zm_M_letter.2.2.1 11 = .ok (.bipush (-102), 2) := by decide +kernel
theorem d_M_letter_13 : decode zm_M_letter.2.2.1 13 = .ok (.ireturn, 1) := by decide +kernel
theorem d_M_letter_14 : decode zm_M_letter.2.2.1 14 = .ok (.aload_n 0, 1) := by decide +kernel
theorem d_M_letter_15 : decode zm_M_letter.2.2.1 15 = .ok (.getfield 76, 3) := by decide +kernel
theorem d_M_letter_18 : decode zm_M_letter.2.2.1 18 = .ok (.bipush 24, 2) := by decide +kernel
theorem d_M_letter_20 : decode zm_M_letter.2.2.1 20 = .ok (.if_icmp .ne 6, 3) := by decide +kernel
theorem d_M_letter_23 : decode zm_M_letter.2.2.1 23 = .ok (.bipush (-104), 2) := by decide +kernel
theorem d_M_letter_25 : decode zm_M_letter.2.2.1 25 = .ok (.ireturn, 1) := by decide +kernel
theorem d_M_letter_26 : decode zm_M_letter.2.2.1 26 = .ok (.aload_n 0, 1) := by decide +kernel
theorem d_M_letter_27 : decode zm_M_letter.2.2.1 27 = .ok (.getfield 7, 3) := by decide +kernel
theorem d_M_letter_30 : decode zm_M_letter.2.2.1 30 = .ok (.aload_n 0, 1) := by decide +kernel
theorem d_M_letter_31 : decode zm_M_letter.2.2.1 31 = .ok (.getfield 76, 3) := by decide +kernel
theorem d_M_letter_34 : decode zm_M_letter.2.2.1 34 = .ok (.iload_n 1, 1) := by decide +kernel
theorem d_M_letter_35 : decode zm_M_letter.2.2.1 35 = .ok (.iastore, 1) := by decide +kernel
theorem d_M_letter_36 : decode zm_M_letter.2.2.1 36 = .ok (.aload_n 0, 1) := by decide +kernel
theorem d_M_letter_37 : decode zm_M_letter.2.2.1 37 = .ok (.dup, 1) := by decide +kernel
theorem d_M_letter_38 : decode zm_M_letter.2.2.1 38 = .ok (.getfield 76, 3) := by decide +kernel
theorem d_M_letter_41 : decode zm_M_letter.2.2.1 41 = .ok (.iconst 1, 1) := by decide +kernel
theorem d_M_letter_42 : decode zm_M_letter.2.2.1 42 = .ok (.iadd, 1) := by decide +kernel
theorem d_M_letter_43 : decode zm_M_letter.2.2.1 43 = .ok (.putfield 76, 3) := by decide +kernel
theorem d_M_letter_46 : decode zm_M_letter.2.2.1 46 = .ok (.aload_n 0, 1) := by decide +kernel
theorem d_M_letter_47 : decode zm_M_letter.2.2.1 47 = .ok (.getfield 76, 3) := by decide +kernel
theorem d_M_letter_50 : decode zm_M_letter.2.2.1 50 = .ok (.ireturn, 1) := by decide +kernel
theorem d_M_blank_0 : decode zm_M_blank.2.2.1 0 = .ok (.aload_n 0, 1) := by decide +kernel
theorem d_M_blank_1 : decode zm_M_blank.2.2.1 1 = .ok (.getfield 76, 3) := by decide +kernel
theorem d_M_blank_4 : decode zm_M_blank.2.2.1 4 = .ok (.istore_n 1, 1) := by decide +kernel
theorem d_M_blank_5 : decode zm_M_blank.2.2.1 5 = .ok (.aload_n 0, 1) := by decide +kernel
theorem d_M_blank_6 : decode zm_M_blank.2.2.1 6 = .ok (.iconst 0, 1) := by decide +kernel
theorem d_M_blank_7 : decode zm_M_blank.2.2.1 7 = .ok (.putfield 76, 3) := by decide +kernel
theorem d_M_blank_10 : decode zm_M_blank.2.2.1 10 = .ok (.iload_n 1, 1) := by decide +kernel
theorem d_M_blank_11 : decode zm_M_blank.2.2.1 11 = .ok (.ireturn, 1) := by decide +kernel
theorem d_M_isCopyPage_0 : decode zm_M_isCopyPage.2.2.1 0 = .ok (.aload_n 0, 1) := by decide +kernel
theorem d_M_isCopyPage_1 : decode zm_M_isCopyPage.2.2.1 1 = .ok (.getfield 76, 3) := by decide +kernel
theorem d_M_isCopyPage_4 : decode zm_M_isCopyPage.2.2.1 4 = .ok (.ifCond .le 7, 3) := by decide +kernel
theorem d_M_isCopyPage_7 : decode zm_M_isCopyPage.2.2.1 7 = .ok (.iconst 1, 1) := by decide +kernel
theorem d_M_isCopyPage_8 : decode zm_M_isCopyPage.2.2.1 8 = .ok (.goto 4, 3) := by decide +kernel
theorem d_M_isCopyPage_11 : decode zm_M_isCopyPage.2.2.1 11 = .ok (.iconst 0, 1) := by decide +kernel
theorem d_M_isCopyPage_12 : decode zm_M_isCopyPage.2.2.1 12 = .ok (.istore_n 1, 1) := by decide +kernel
theorem d_M_isCopyPage_13 : decode zm_M_isCopyPage.2.2.1 13 = .ok (.iconst 0, 1) := by decide +kernel
theorem d_M_isCopyPage_14 : decode zm_M_isCopyPage.2.2.1 14 = .ok (.istore_n 2, 1) := by decide +kernel
theorem d_M_isCopyPage_15 : decode zm_M_isCopyPage.2.2.1 15 = .ok (.iload_n 2, 1) := by decide +kernel
theorem d_M_isCopyPage_16 : decode zm_M_isCopyPage.2.2.1 16 = .ok (.aload_n 0, 1) := by decide +kernel
theorem d_M_isCopyPage_17 : decode zm_M_isCopyPage.2.2.1 17 = .ok (.getfield 76, 3) := by decide +kernel
theorem d_M_isCopyPage_20 : decode zm_M_isCopyPage.2.2.1 20 = .ok (.if_icmp .ge 35, 3) := by decide +kernel
theorem d_M_isCopyPage_23 : decode zm_M_isCopyPage.2.2.1 23 = .ok (.iload_n 1, 1) := by decide +kernel
theorem d_M_isCopyPage_24 : decode zm_M_isCopyPage.2.2.1 24 = .ok (.ifCond .eq 23, 3) := by decide +kernel
theorem d_M_isCopyPage_27 : decode zm_M_isCopyPage.2.2.1 27 = .ok (.aload_n 0, 1) := by decide +kernel
theorem d_M_isCopyPage_28 : decode zm_M_isCopyPage.2.2.1 28 = .ok (.getfield 7, 3) := by decide +kernel
theorem d_M_isCopyPage_31 : decode zm_M_isCopyPage.2.2.1 31 = .ok (.iload_n 2, 1) := by decide +kernel
theorem d_M_isCopyPage_32 : decode zm_M_isCopyPage.2.2.1 32 = .ok (.iaload, 1) := by decide +kernel
theorem d_M_isCopyPage_33 : decode zm_M_isCopyPage.2.2.1 33 = .ok (.bipush 97, 2) := by decide +kernel
theorem d_M_isCopyPage_35 : decode zm_M_isCopyPage.2.2.1 35 = .ok (.bipush 122, 2) := by decide +kernel
theorem d_M_isCopyPage_37 : decode zm_M_isCopyPage.2.2.1 37 = .ok (.invokestatic 72, 3) := by decide +kernel
theorem d_M_isCopyPage_40 : decode zm_M_isCopyPage.2.2.1 40 = .ok (.ifCond .eq 7, 3) := by decide +kernel
theorem d_M_isCopyPage_43 : decode zm_M_isCopyPage.2.2.1 43 = .ok (.iconst 1, 1) := by decide +kernel
theorem d_M_isCopyPage_44 : decode zm_M_isCopyPage.2.2.1 44 = .ok (.goto 4, 3) := by decide +kernel
theorem d_M_isCopyPage_47 : decode zm_M_isCopyPage.2.2.1 47 = .ok (.iconst 0, 1) := by decide +kernel
theorem d_M_isCopyPage_48 : decode zm_M_isCopyPage.2.2.1 48 = .ok (.istore_n 1, 1) := by decide +kernel
theorem d_M_isCopyPage_49 : decode zm_M_isCopyPage.2.2.1 49 = .ok (.iinc 2 1, 3) := by decide +kernel
theorem d_M_isCopyPage_52 : decode zm_M_isCopyPage.2.2.1 52 = .ok (.goto (-37), 3) := by decide +kernel
theorem d_M_isCopyPage_55 : decode zm_M_isCopyPage.2.2.1 55 = .ok (.iload_n 1, 1) := by decide +kernel
theorem d_M_isCopyPage_56 : decode zm_M_isCopyPage.2.2.1 56 = .ok (.ireturn, 1) := by decide +kernel
theorem d_M_readInto_0 : decode zm_M_readInto.2.2.1 0 = .ok (.aload_n 0, 1) := by decide +kernel
theorem d_M_readInto_1 : decode zm_M_readInto.2.2.1 1 = .ok (.getfield 13, 3) := by decide +kernel
theorem d_M_readInto_4 : decode zm_M_readInto.2.2.1 4 = .ok (.iload_n 1, 1) := by decide +kernel
theorem d_M_readInto_5 : decode zm_M_readInto.2.2.1 5 = .ok (.aload_n 0, 1) := by decide +kernel
theorem d_M_readInto_6 : decode zm_M_readInto.2.2.1 6 = .ok (.getfield 76, 3) := by decide +kernel
theorem d_M_readInto_9 : decode zm_M_readInto.2.2.1 9 = .ok (.iastore, 1) := by decide +kernel
theorem d_M_readInto_10 : decode zm_M_readInto.2.2.1 10 = .ok (.iconst 0, 1) := by decide +kernel
theorem d_M_readInto_11 : decode zm_M_readInto.2.2.1 11 = .ok (.istore_n 2, 1) := by decide +kernel
theorem d_M_readInto_12 : decode zm_M_readInto.2.2.1 12 = .ok (.iload_n 2, 1) := by decide +kernel
theorem d_M_readInto_13 : decode zm_M_readInto.2.2.1 13 = .ok (.aload_n 0, 1) := by decide +kernel
theorem d_M_readInto_14 : decode zm_M_readInto.2.2.1 14 = .ok (.getfield 76, 3) := by decide +kernel
theorem d_M_readInto_17 : decode zm_M_readInto.2.2.1 17 = .ok (.if_icmp .ge 26, 3) := by decide +kernel
theorem d_M_readInto_20 : decode zm_M_readInto.2.2.1 20 = .ok (.aload_n 0, 1) := by decide +kernel
theorem d_M_readInto_21 : decode zm_M_readInto.2.2.1 21 = .ok (.getfield 16, 3) := by decide +kernel
theorem d_M_readInto_24 : decode zm_M_readInto.2.2.1 24 = .ok (.bipush 24, 2) := by decide +kernel
theorem d_M_readInto_26 : decode zm_M_readInto.2.2.1 26 = .ok (.iload_n 1, 1) := by decide +kernel
theorem d_M_readInto_27 : decode zm_M_readInto.2.2.1 27 = .ok (.imul, 1) := by decide +kernel
theorem d_M_readInto_28 : decode zm_M_readInto.2.2.1 28 = .ok (.iload_n 2, 1) := by decide +kernel
theorem d_M_readInto_29 : decode zm_M_readInto.2.2.1 29 = .ok (.iadd, 1) := by decide +kernel
theorem d_M_readInto_30 : decode zm_M_readInto.2.2.1 30 = .ok (.aload_n 0, 1) := by decide +kernel
theorem d_M_readInto_31 : decode zm_M_readInto.2.2.1 31 = .ok (.getfield 7, 3) := by decide +kernel
theorem d_M_readInto_34 : decode zm_M_readInto.2.2.1 34 = .ok (.iload_n 2, 1) := by decide +kernel
theorem d_M_readInto_35 : decode zm_M_readInto.2.2.1 35 = .ok (.iaload, 1) := by decide +kernel
theorem d_M_readInto_36 : decode zm_M_readInto.2.2.1 36 = .ok (.iastore, 1) := by decide +kernel
theorem d_M_readInto_37 : decode zm_M_readInto.2.2.1 37 = .ok (.iinc 2 1, 3) := by decide +kernel
theorem d_M_readInto_40 : decode zm_M_readInto.2.2.1 40 = .ok (.goto (-28), 3) := by decide +kernel
theorem d_M_readInto_43 : decode zm_M_readInto.2.2.1 43 = .ok (.aload_n 0, 1) := by decide +kernel
theorem d_M_readInto_44 : decode zm_M_readInto.2.2.1 44 = .ok (.iconst 0, 1) := by decide +kernel
theorem d_M_readInto_45 : decode zm_M_readInto.2.2.1 45 = .ok (.putfield 76, 3) := by decide +kernel
theorem d_M_readInto_48 : decode zm_M_readInto.2.2.1 48 = .ok (.aload_n 0, 1) := by decide +kernel
theorem d_M_readInto_49 : decode zm_M_readInto.2.2.1 49 = .ok (.dup, 1) := by decide +kernel
theorem d_M_readInto_50 : decode zm_M_readInto.2.2.1 50 = .ok (.getfield 79, 3) := by decide +kernel
theorem d_M_readInto_53 : decode zm_M_readInto.2.2.1 53 = .ok (.iconst 1, 1) := by decide +kernel
theorem d_M_readInto_54 : decode zm_M_readInto.2.2.1 54 = .ok (.iadd, 1) := by decide +kernel
theorem d_M_readInto_55 : decode zm_M_readInto.2.2.1 55 = .ok (.putfield 79, 3) := by decide +kernel
theorem d_M_readInto_58 : decode zm_M_readInto.2.2.1 58 = .ok (.return_, 1) := by decide +kernel
theorem d_M_copy_0 : decode zm_M_copy.2.2.1 0 = .ok (.aload_n 0, 1) := by decide +kernel
theorem d_M_copy_1 : decode zm_M_copy.2.2.1 1 = .ok (.invokevirtual 82, 3) := by decide +kernel
theorem d_M_copy_4 : decode zm_M_copy.2.2.1 4 = .ok (.ifCond .ne 6, 3) := by decide +kernel
theorem d_M_copy_7 : decode zm_M_copy.2.2.1 7 = .ok (.bipush (-103), 2) := by decide +kernel
theorem d_M_copy_9 : decode zm_M_copy.2.2.1 9 = .ok (.ireturn, 1) := by decide +kernel
theorem d_M_copy_10 : decode zm_M_copy.2.2.1 10 = .ok (.aload_n 0, 1) := by decide +kernel
theorem d_M_copy_11 : decode zm_M_copy.2.2.1 11 = .ok (.getfield 86, 3) := by decide +kernel
theorem d_M_copy_14 : decode zm_M_copy.2.2.1 14 = .ok (.bipush 6, 2) := by decide +kernel
theorem d_M_copy_16 : decode zm_M_copy.2.2.1 16 = .ok (.if_icmp .ne 6, 3) := by decide +kernel
theorem d_M_copy_19 : decode zm_M_copy.2.2.1 19 = .ok (.bipush (-104), 2) := by decide +kernel
theorem d_M_copy_21 : decode zm_M_copy.2.2.1 21 = .ok (.ireturn, 1) := by decide +kernel
theorem d_M_copy_22 : decode zm_M_copy.2.2.1 22 = .ok (.aload_n 0, 1) := by decide +kernel
theorem d_M_copy_23 : decode zm_M_copy.2.2.1 23 = .ok (.aload_n 0, 1) := by decide +kernel
theorem d_M_copy_24 : decode zm_M_copy.2.2.1 24 = .ok (.getfield 86, 3) := by decide +kernel
theorem d_M_copy_27 : decode zm_M_copy.2.2.1 27 = .ok (.invokevirtual 89, 3) := by decide +kernel
theorem d_M_copy_30 : decode zm_M_copy.2.2.1 30 = .ok (.aload_n 0, 1) := by decide +kernel
theorem d_M_copy_31 : decode zm_M_copy.2.2.1 31 = .ok (.dup, 1) := by decide +kernel
theorem d_M_copy_32 : decode zm_M_copy.2.2.1 32 = .ok (.getfield 86, 3) := by decide +kernel
theorem d_M_copy_35 : decode zm_M_copy.2.2.1 35 = .ok (.iconst 1, 1) := by decide +kernel
theorem d_M_copy_36 : decode zm_M_copy.2.2.1 36 = .ok (.iadd, 1) := by decide +kernel
theorem d_M_copy_37 : decode zm_M_copy.2.2.1 37 = .ok (.putfield 86, 3) := by decide +kernel
theorem d_M_copy_40 : decode zm_M_copy.2.2.1 40 = .ok (.aload_n 0, 1) := by decide +kernel
theorem d_M_copy_41 : decode zm_M_copy.2.2.1 41 = .ok (.getfield 86, 3) := by decide +kernel
theorem d_M_copy_44 : decode zm_M_copy.2.2.1 44 = .ok (.iconst 1, 1) := by decide +kernel
theorem d_M_copy_45 : decode zm_M_copy.2.2.1 45 = .ok (.isub, 1) := by decide +kernel
theorem d_M_copy_46 : decode zm_M_copy.2.2.1 46 = .ok (.ireturn, 1) := by decide +kernel
theorem d_M_isCopy_0 : decode zm_M_isCopy.2.2.1 0 = .ok (.iload_n 1, 1) := by decide +kernel
theorem d_M_isCopy_1 : decode zm_M_isCopy.2.2.1 1 = .ok (.iconst 0, 1) := by decide +kernel
theorem d_M_isCopy_2 : decode zm_M_isCopy.2.2.1 2 = .ok (.aload_n 0, 1) := by decide +kernel
theorem d_M_isCopy_3 : decode zm_M_isCopy.2.2.1 3 = .ok (.getfield 86, 3) := by decide +kernel
theorem d_M_isCopy_6 : decode zm_M_isCopy.2.2.1 6 = .ok (.iconst 1, 1) := by decide +kernel
theorem d_M_isCopy_7 : decode zm_M_isCopy.2.2.1 7 = .ok (.isub, 1) := by decide +kernel
theorem d_M_isCopy_8 : decode zm_M_isCopy.2.2.1 8 = .ok (.invokestatic 72, 3) := by decide +kernel
theorem d_M_isCopy_11 : decode zm_M_isCopy.2.2.1 11 = .ok (.ireturn, 1) := by decide +kernel
theorem d_M_correct_0 : decode zm_M_correct.2.2.1 0 = .ok (.aload_n 0, 1) := by decide +kernel
theorem d_M_correct_1 : decode zm_M_correct.2.2.1 1 = .ok (.iload_n 1, 1) := by decide +kernel
theorem d_M_correct_2 : decode zm_M_correct.2.2.1 2 = .ok (.invokevirtual 93, 3) := by decide +kernel
theorem d_M_correct_5 : decode zm_M_correct.2.2.1 5 = .ok (.ifCond .ne 6, 3) := by decide +kernel
theorem d_M_correct_8 : decode zm_M_correct.2.2.1 8 = .ok (.bipush (-101), 2) := by decide +kernel
theorem d_M_correct_10 : decode zm_M_correct.2.2.1 10 = .ok (.ireturn, 1) := by decide +kernel
theorem d_M_correct_11 : decode zm_M_correct.2.2.1 11 = .ok (.aload_n 0, 1) := by decide +kernel
theorem d_M_correct_12 : decode zm_M_correct.2.2.1 12 = .ok (.invokevirtual 82, 3) := by decide +kernel
theorem d_M_correct_15 : decode zm_M_correct.2.2.1 15 = .ok (.ifCond .ne 6, 3) := by decide +kernel
theorem d_M_correct_18 : decode zm_M_correct.2.2.1 18 = .ok (.bipush (-103), 2) := by decide +kernel
theorem d_M_correct_20 : decode zm_M_correct.2.2.1 20 = .ok (.ireturn, 1) := by decide +kernel
theorem d_M_correct_21 : decode zm_M_correct.2.2.1 21 = .ok (.aload_n 0, 1) := by decide +kernel
theorem d_M_correct_22 : decode zm_M_correct.2.2.1 22 = .ok (.getfield 13, 3) := by decide +kernel
theorem d_M_correct_25 : decode zm_M_correct.2.2.1 25 = .ok (.iload_n 1, 1) := by decide +kernel
theorem d_M_correct_26 : decode zm_M_correct.2.2.1 26 = .ok (.iaload, 1) := by decide +kernel
theorem d_M_correct_27 : decode zm_M_correct.2.2.1 27 = .ok (.istore_n 2, 1) := by decide +kernel
theorem d_M_correct_28 : decode zm_M_correct.2.2.1 28 = .ok (.aload_n 0, 1) := by decide +kernel
theorem d_M_correct_29 : decode zm_M_correct.2.2.1 29 = .ok (.iload_n 1, 1) := by decide +kernel
theorem d_M_correct_30 : decode zm_M_correct.2.2.1 30 = .ok (.invokevirtual 89, 3) := by decide +kernel
theorem d_M_correct_33 : decode zm_M_correct.2.2.1 33 = .ok (.iload_n 2, 1) := by decide +kernel
theorem d_M_correct_34 : decode zm_M_correct.2.2.1 34 = .ok (.ireturn, 1) := by decide +kernel
theorem d_M_drop_0 : decode zm_M_drop.2.2.1 0 = .ok (.aload_n 0, 1) := by decide +kernel
theorem d_M_drop_1 : decode zm_M_drop.2.2.1 1 = .ok (.getfield 86, 3) := by decide +kernel
theorem d_M_drop_4 : decode zm_M_drop.2.2.1 4 = .ok (.ifCond .ne 6, 3) := by decide +kernel
theorem d_M_drop_7 : decode zm_M_drop.2.2.1 7 = .ok (.bipush (-103), 2) := by decide +kernel
theorem d_M_drop_9 : decode zm_M_drop.2.2.1 9 = .ok (.ireturn, 1) := by decide +kernel
theorem d_M_drop_10 : decode zm_M_drop.2.2.1 10 = .ok (.aload_n 0, 1) := by decide +kernel
theorem d_M_drop_11 : decode zm_M_drop.2.2.1 11 = .ok (.dup, 1) := by decide +kernel
theorem d_M_drop_12 : decode zm_M_drop.2.2.1 12 = .ok (.getfield 86, 3) := by decide +kernel
theorem d_M_drop_15 : decode zm_M_drop.2.2.1 15 = .ok (.iconst 1, 1) := by decide +kernel
theorem d_M_drop_16 : decode zm_M_drop.2.2.1 16 = .ok (.isub, 1) := by decide +kernel
theorem d_M_drop_17 : decode zm_M_drop.2.2.1 17 = .ok (.putfield 86, 3) := by decide +kernel
theorem d_M_drop_20 : decode zm_M_drop.2.2.1 20 = .ok (.aload_n 0, 1) := by decide +kernel
theorem d_M_drop_21 : decode zm_M_drop.2.2.1 21 = .ok (.getfield 86, 3) := by decide +kernel
theorem d_M_drop_24 : decode zm_M_drop.2.2.1 24 = .ok (.ireturn, 1) := by decide +kernel
theorem d_M_band_0 : decode zm_M_band.2.2.1 0 = .ok (.iload_n 1, 1) := by decide +kernel
theorem d_M_band_1 : decode zm_M_band.2.2.1 1 = .ok (.iconst 0, 1) := by decide +kernel
theorem d_M_band_2 : decode zm_M_band.2.2.1 2 = .ok (.bipush 9, 2) := by decide +kernel
theorem d_M_band_4 : decode zm_M_band.2.2.1 4 = .ok (.invokestatic 72, 3) := by decide +kernel
theorem d_M_band_7 : decode zm_M_band.2.2.1 7 = .ok (.ifCond .ne 6, 3) := by decide +kernel
theorem d_M_band_10 : decode zm_M_band.2.2.1 10 = .ok (.bipush (-102), 2) := by decide +kernel
theorem d_M_band_12 : decode zm_M_band.2.2.1 12 = .ok (.ireturn, 1) := by decide +kernel
theorem d_M_band_13 : decode zm_M_band.2.2.1 13 = .ok (.aload_n 0, 1) := by decide +kernel
theorem d_M_band_14 : decode zm_M_band.2.2.1 14 = .ok (.getfield 19, 3) := by decide +kernel
theorem d_M_band_17 : decode zm_M_band.2.2.1 17 = .ok (.istore_n 2, 1) := by decide +kernel
theorem d_M_band_18 : decode zm_M_band.2.2.1 18 = .ok (.aload_n 0, 1) := by decide +kernel
theorem d_M_band_19 : decode zm_M_band.2.2.1 19 = .ok (.iload_n 1, 1) := by decide +kernel
theorem d_M_band_20 : decode zm_M_band.2.2.1 20 = .ok (.putfield 19, 3) := by decide +kernel
theorem d_M_band_23 : decode zm_M_band.2.2.1 23 = .ok (.iload_n 2, 1) := by decide +kernel
theorem d_M_band_24 : decode zm_M_band.2.2.1 24 = .ok (.ireturn, 1) := by decide +kernel
theorem d_M_family_0 : decode zm_M_family.2.2.1 0 = .ok (.iload_n 0, 1) := by decide +kernel
theorem d_M_family_1 : decode zm_M_family.2.2.1 1 = .ok (.tableswitch 117 98 118 #[111, 108, 117, 108, 105, 117, 111, 99, 99, 117, 99, 117, 102, 108, 117, 117, 114, 105, 114, 102, 102], 99) := by decide +kernel
theorem d_M_family_100 : decode zm_M_family.2.2.1 100 = .ok (.bipush 105, 2) := by decide +kernel
theorem d_M_family_102 : decode zm_M_family.2.2.1 102 = .ok (.ireturn, 1) := by decide +kernel
theorem d_M_family_103 : decode zm_M_family.2.2.1 103 = .ok (.bipush 110, 2) := by decide +kernel
theorem d_M_family_105 : decode zm_M_family.2.2.1 105 = .ok (.ireturn, 1) := by decide +kernel
theorem d_M_family_106 : decode zm_M_family.2.2.1 106 = .ok (.bipush 102, 2) := by decide +kernel
theorem d_M_family_108 : decode zm_M_family.2.2.1 108 = .ok (.ireturn, 1) := by decide +kernel
theorem d_M_family_109 : decode zm_M_family.2.2.1 109 = .ok (.bipush 99, 2) := by decide +kernel
theorem d_M_family_111 : decode zm_M_family.2.2.1 111 = .ok (.ireturn, 1) := by decide +kernel
theorem d_M_family_112 : decode zm_M_family.2.2.1 112 = .ok (.bipush 98, 2) := by decide +kernel
theorem d_M_family_114 : decode zm_M_family.2.2.1 114 = .ok (.ireturn, 1) := by decide +kernel
theorem d_M_family_115 : decode zm_M_family.2.2.1 115 = .ok (.bipush 114, 2) := by decide +kernel
theorem d_M_family_117 : decode zm_M_family.2.2.1 117 = .ok (.ireturn, 1) := by decide +kernel
theorem d_M_family_118 : decode zm_M_family.2.2.1 118 = .ok (.iload_n 0, 1) := by decide +kernel
theorem d_M_family_119 : decode zm_M_family.2.2.1 119 = .ok (.ireturn, 1) := by decide +kernel
theorem d_M_pairCost_0 : decode zm_M_pairCost.2.2.1 0 = .ok (.iload_n 0, 1) := by decide +kernel
theorem d_M_pairCost_1 : decode zm_M_pairCost.2.2.1 1 = .ok (.iload_n 1, 1) := by decide +kernel
theorem d_M_pairCost_2 : decode zm_M_pairCost.2.2.1 2 = .ok (.if_icmp .ne 7, 3) := by decide +kernel
theorem d_M_pairCost_5 : decode zm_M_pairCost.2.2.1 5 = .ok (.iconst 0, 1) := by decide +kernel
theorem d_M_pairCost_6 : decode zm_M_pairCost.2.2.1 6 = .ok (.goto 19, 3) := by decide +kernel
theorem d_M_pairCost_9 : decode zm_M_pairCost.2.2.1 9 = .ok (.iload_n 0, 1) := by decide +kernel
theorem d_M_pairCost_10 : decode zm_M_pairCost.2.2.1 10 = .ok (.invokestatic 97, 3) := by decide +kernel
theorem d_M_pairCost_13 : decode zm_M_pairCost.2.2.1 13 = .ok (.iload_n 1, 1) := by decide +kernel
theorem d_M_pairCost_14 : decode zm_M_pairCost.2.2.1 14 = .ok (.invokestatic 97, 3) := by decide +kernel
theorem d_M_pairCost_17 : decode zm_M_pairCost.2.2.1 17 = .ok (.if_icmp .ne 7, 3) := by decide +kernel
theorem d_M_pairCost_20 : decode zm_M_pairCost.2.2.1 20 = .ok (.iconst 1, 1) := by decide +kernel
theorem d_M_pairCost_21 : decode zm_M_pairCost.2.2.1 21 = .ok (.goto 4, 3) := by decide +kernel
theorem d_M_pairCost_24 : decode zm_M_pairCost.2.2.1 24 = .ok (.iconst 3, 1) := by decide +kernel
theorem d_M_pairCost_25 : decode zm_M_pairCost.2.2.1 25 = .ok (.ireturn, 1) := by decide +kernel
theorem d_M_letterAt_0 : decode zm_M_letterAt.2.2.1 0 = .ok (.aload_n 0, 1) := by decide +kernel
theorem d_M_letterAt_1 : decode zm_M_letterAt.2.2.1 1 = .ok (.getfield 16, 3) := by decide +kernel
theorem d_M_letterAt_4 : decode zm_M_letterAt.2.2.1 4 = .ok (.bipush 24, 2) := by decide +kernel
theorem d_M_letterAt_6 : decode zm_M_letterAt.2.2.1 6 = .ok (.iload_n 1, 1) := by decide +kernel
theorem d_M_letterAt_7 : decode zm_M_letterAt.2.2.1 7 = .ok (.imul, 1) := by decide +kernel
theorem d_M_letterAt_8 : decode zm_M_letterAt.2.2.1 8 = .ok (.iload_n 2, 1) := by decide +kernel
theorem d_M_letterAt_9 : decode zm_M_letterAt.2.2.1 9 = .ok (.iadd, 1) := by decide +kernel
theorem d_M_letterAt_10 : decode zm_M_letterAt.2.2.1 10 = .ok (.iaload, 1) := by decide +kernel
theorem d_M_letterAt_11 : decode zm_M_letterAt.2.2.1 11 = .ok (.ireturn, 1) := by decide +kernel
theorem d_M_costBy_0 : decode zm_M_costBy.2.2.1 0 = .ok (.iload_n 1, 1) := by decide +kernel
theorem d_M_costBy_1 : decode zm_M_costBy.2.2.1 1 = .ok (.aload_n 0, 1) := by decide +kernel
theorem d_M_costBy_2 : decode zm_M_costBy.2.2.1 2 = .ok (.getfield 13, 3) := by decide +kernel
theorem d_M_costBy_5 : decode zm_M_costBy.2.2.1 5 = .ok (.aload_n 0, 1) := by decide +kernel
theorem d_M_costBy_6 : decode zm_M_costBy.2.2.1 6 = .ok (.getfield 101, 3) := by decide +kernel
theorem d_M_costBy_9 : decode zm_M_costBy.2.2.1 9 = .ok (.iaload, 1) := by decide +kernel
theorem d_M_costBy_10 : decode zm_M_costBy.2.2.1 10 = .ok (.if_icmp .lt 8, 3) := by decide +kernel
theorem d_M_costBy_13 : decode zm_M_costBy.2.2.1 13 = .ok (.iload_n 3, 1) := by decide +kernel
theorem d_M_costBy_14 : decode zm_M_costBy.2.2.1 14 = .ok (.iconst 2, 1) := by decide +kernel
theorem d_M_costBy_15 : decode zm_M_costBy.2.2.1 15 = .ok (.if_icmp .ne 7, 3) := by decide +kernel
theorem d_M_costBy_18 : decode zm_M_costBy.2.2.1 18 = .ok (.iconst 1, 1) := by decide +kernel
theorem d_M_costBy_19 : decode zm_M_costBy.2.2.1 19 = .ok (.goto 4, 3) := by decide +kernel
theorem d_M_costBy_22 : decode zm_M_costBy.2.2.1 22 = .ok (.iconst 0, 1) := by decide +kernel
theorem d_M_costBy_23 : decode zm_M_costBy.2.2.1 23 = .ok (.istore 4, 2) := by decide +kernel
theorem d_M_costBy_25 : decode zm_M_costBy.2.2.1 25 = .ok (.iload 4, 2) := by decide +kernel
theorem d_M_costBy_27 : decode zm_M_costBy.2.2.1 27 = .ok (.ifCond .eq 25, 3) := by decide +kernel
theorem d_M_costBy_30 : decode zm_M_costBy.2.2.1 30 = .ok (.iload_n 2, 1) := by decide +kernel
theorem d_M_costBy_31 : decode zm_M_costBy.2.2.1 31 = .ok (.aload_n 0, 1) := by decide +kernel
theorem d_M_costBy_32 : decode zm_M_costBy.2.2.1 32 = .ok (.getfield 13, 3) := by decide +kernel
theorem d_M_costBy_35 : decode zm_M_costBy.2.2.1 35 = .ok (.aload_n 0, 1) := by decide +kernel
theorem d_M_costBy_36 : decode zm_M_costBy.2.2.1 36 = .ok (.getfield 104, 3) := by decide +kernel
theorem d_M_costBy_39 : decode zm_M_costBy.2.2.1 39 = .ok (.iaload, 1) := by decide +kernel
theorem d_M_costBy_40 : decode zm_M_costBy.2.2.1 40 = .ok (.if_icmp .lt 8, 3) := by decide +kernel
theorem d_M_costBy_43 : decode zm_M_costBy.2.2.1 43 = .ok (.iload_n 3, 1) := by decide +kernel
theorem d_M_costBy_44 : decode zm_M_costBy.2.2.1 44 = .ok (.iconst 1, 1) := by decide +kernel
theorem d_M_costBy_45 : decode zm_M_costBy.2.2.1 45 = .ok (.if_icmp .ne 7, 3) := by decide +kernel
theorem d_M_costBy_48 : decode zm_M_costBy.2.2.1 48 = .ok (.iconst 1, 1) := by decide +kernel
theorem d_M_costBy_49 : decode zm_M_costBy.2.2.1 49 = .ok (.goto 4, 3) := by decide +kernel
theorem d_M_costBy_52 : decode zm_M_costBy.2.2.1 52 = .ok (.iconst 0, 1) := by decide +kernel
theorem d_M_costBy_53 : decode zm_M_costBy.2.2.1 53 = .ok (.istore 4, 2) := by decide +kernel
theorem d_M_costBy_55 : decode zm_M_costBy.2.2.1 55 = .ok (.iload 4, 2) := by decide +kernel
theorem d_M_costBy_57 : decode zm_M_costBy.2.2.1 57 = .ok (.ifCond .eq 39, 3) := by decide +kernel
theorem d_M_costBy_60 : decode zm_M_costBy.2.2.1 60 = .ok (.iload_n 3, 1) := by decide +kernel
theorem d_M_costBy_61 : decode zm_M_costBy.2.2.1 61 = .ok (.iconst 1, 1) := by decide +kernel
theorem d_M_costBy_62 : decode zm_M_costBy.2.2.1 62 = .ok (.if_icmp .ne 16, 3) := by decide +kernel
theorem d_M_costBy_65 : decode zm_M_costBy.2.2.1 65 = .ok (.iload_n 1, 1) := by decide +kernel
theorem d_M_costBy_66 : decode zm_M_costBy.2.2.1 66 = .ok (.aload_n 0, 1) := by decide +kernel
theorem d_M_costBy_67 : decode zm_M_costBy.2.2.1 67 = .ok (.getfield 13, 3) := by decide +kernel
theorem d_M_costBy_70 : decode zm_M_costBy.2.2.1 70 = .ok (.aload_n 0, 1) := by decide +kernel
theorem d_M_costBy_71 : decode zm_M_costBy.2.2.1 71 = .ok (.getfield 101, 3) := by decide +kernel
theorem d_M_costBy_74 : decode zm_M_costBy.2.2.1 74 = .ok (.iaload, 1) := by decide +kernel
theorem d_M_costBy_75 : decode zm_M_costBy.2.2.1 75 = .ok (.if_icmp .eq 21, 3) := by decide +kernel
theorem d_M_costBy_78 : decode zm_M_costBy.2.2.1 78 = .ok (.iload_n 3, 1) := by decide +kernel
theorem d_M_costBy_79 : decode zm_M_costBy.2.2.1 79 = .ok (.iconst 2, 1) := by decide +kernel
theorem d_M_costBy_80 : decode zm_M_costBy.2.2.1 80 = .ok (.if_icmp .ne 19, 3) := by decide +kernel
theorem d_M_costBy_83 : decode zm_M_costBy.2.2.1 83 = .ok (.iload_n 2, 1) := by decide +kernel
theorem d_M_costBy_84 : decode zm_M_costBy.2.2.1 84 = .ok (.aload_n 0, 1) := by decide +kernel
theorem d_M_costBy_85 : decode zm_M_costBy.2.2.1 85 = .ok (.getfield 13, 3) := by decide +kernel
theorem d_M_costBy_88 : decode zm_M_costBy.2.2.1 88 = .ok (.aload_n 0, 1) := by decide +kernel
theorem d_M_costBy_89 : decode zm_M_costBy.2.2.1 89 = .ok (.getfield 104, 3) := by decide +kernel
theorem d_M_costBy_92 : decode zm_M_costBy.2.2.1 92 = .ok (.iaload, 1) := by decide +kernel
theorem d_M_costBy_93 : decode zm_M_costBy.2.2.1 93 = .ok (.if_icmp .ne 6, 3) := by decide +kernel
theorem d_M_costBy_96 : decode zm_M_costBy.2.2.1 96 = .ok (.ldc 107, 2) := by decide +kernel
theorem d_M_costBy_98 : decode zm_M_costBy.2.2.1 98 = .ok (.ireturn, 1) := by decide +kernel
theorem d_M_costBy_99 : decode zm_M_costBy.2.2.1 99 = .ok (.iload_n 3, 1) := by decide +kernel
theorem d_M_costBy_100 : decode zm_M_costBy.2.2.1 100 = .ok (.ifCond .ne 41, 3) := by decide +kernel
theorem d_M_costBy_103 : decode zm_M_costBy.2.2.1 103 = .ok (.aload_n 0, 1) := by decide +kernel
theorem d_M_costBy_104 : decode zm_M_costBy.2.2.1 104 = .ok (.getfield 35, 3) := by decide +kernel
theorem d_M_costBy_107 : decode zm_M_costBy.2.2.1 107 = .ok (.bipush 25, 2) := by decide +kernel
theorem d_M_costBy_109 : decode zm_M_costBy.2.2.1 109 = .ok (.iload_n 1, 1) := by decide +kernel
theorem d_M_costBy_110 : decode zm_M_costBy.2.2.1 110 = .ok (.iconst 1, 1) := by decide +kernel
theorem d_M_costBy_111 : decode zm_M_costBy.2.2.1 111 = .ok (.iadd, 1) := by decide +kernel
theorem d_M_costBy_112 : decode zm_M_costBy.2.2.1 112 = .ok (.imul, 1) := by decide +kernel
theorem d_M_costBy_113 : decode zm_M_costBy.2.2.1 113 = .ok (.iload_n 2, 1) := by decide +kernel
theorem d_M_costBy_114 : decode zm_M_costBy.2.2.1 114 = .ok (.iadd, 1) := by decide +kernel
theorem d_M_costBy_115 : decode zm_M_costBy.2.2.1 115 = .ok (.iconst 1, 1) := by decide +kernel
theorem d_M_costBy_116 : decode zm_M_costBy.2.2.1 116 = .ok (.iadd, 1) := by decide +kernel
theorem d_M_costBy_117 : decode zm_M_costBy.2.2.1 117 = .ok (.iaload, 1) := by decide +kernel
theorem d_M_costBy_118 : decode zm_M_costBy.2.2.1 118 = .ok (.aload_n 0, 1) := by decide +kernel
theorem d_M_costBy_119 : decode zm_M_costBy.2.2.1 119 = .ok (.aload_n 0, 1) := by decide +kernel
theorem d_M_costBy_120 : decode zm_M_costBy.2.2.1 120 = .ok (.getfield 101, 3) := by decide +kernel
theorem d_M_costBy_123 : decode zm_M_costBy.2.2.1 123 = .ok (.iload_n 1, 1) := by decide +kernel
theorem d_M_costBy_124 : decode zm_M_costBy.2.2.1 124 = .ok (.invokevirtual 108, 3) := by decide +kernel
theorem d_M_costBy_127 : decode zm_M_costBy.2.2.1 127 = .ok (.aload_n 0, 1) := by decide +kernel
theorem d_M_costBy_128 : decode zm_M_costBy.2.2.1 128 = .ok (.aload_n 0, 1) := by decide +kernel
theorem d_M_costBy_129 : decode zm_M_costBy.2.2.1 129 = .ok (.getfield 104, 3) := by decide +kernel
theorem d_M_costBy_132 : decode zm_M_costBy.2.2.1 132 = .ok (.iload_n 2, 1) := by decide +kernel
theorem d_M_costBy_133 : decode zm_M_costBy.2.2.1 133 = .ok (.invokevirtual 108, 3) := by decide +kernel
theorem d_M_costBy_136 : decode zm_M_costBy.2.2.1 136 = .ok (.invokestatic 112, 3) := by decide +kernel
theorem d_M_costBy_139 : decode zm_M_costBy.2.2.1 139 = .ok (.iadd, 1) := by decide +kernel
theorem d_M_costBy_140 : decode zm_M_costBy.2.2.1 140 = .ok (.ireturn, 1) := by decide +kernel
theorem d_M_costBy_141 : decode zm_M_costBy.2.2.1 141 = .ok (.iconst 2, 1) := by decide +kernel
theorem d_M_costBy_142 : decode zm_M_costBy.2.2.1 142 = .ok (.iload_n 3, 1) := by decide +kernel
theorem d_M_costBy_143 : decode zm_M_costBy.2.2.1 143 = .ok (.iconst 1, 1) := by decide +kernel
theorem d_M_costBy_144 : decode zm_M_costBy.2.2.1 144 = .ok (.if_icmp .ne 19, 3) := by decide +kernel
theorem d_M_costBy_147 : decode zm_M_costBy.2.2.1 147 = .ok (.aload_n 0, 1) := by decide +kernel
theorem d_M_costBy_148 : decode zm_M_costBy.2.2.1 148 = .ok (.getfield 35, 3) := by decide +kernel
theorem d_M_costBy_151 : decode zm_M_costBy.2.2.1 151 = .ok (.bipush 25, 2) := by decide +kernel
theorem d_M_costBy_153 : decode zm_M_costBy.2.2.1 153 = .ok (.iload_n 1, 1) := by decide +kernel
theorem d_M_costBy_154 : decode zm_M_costBy.2.2.1 154 = .ok (.iconst 1, 1) := by decide +kernel
theorem d_M_costBy_155 : decode zm_M_costBy.2.2.1 155 = .ok (.iadd, 1) := by decide +kernel
theorem d_M_costBy_156 : decode zm_M_costBy.2.2.1 156 = .ok (.imul, 1) := by decide +kernel
theorem d_M_costBy_157 : decode zm_M_costBy.2.2.1 157 = .ok (.iload_n 2, 1) := by decide +kernel
theorem d_M_costBy_158 : decode zm_M_costBy.2.2.1 158 = .ok (.iadd, 1) := by decide +kernel
theorem d_M_costBy_159 : decode zm_M_costBy.2.2.1 159 = .ok (.iaload, 1) := by decide +kernel
theorem d_M_costBy_160 : decode zm_M_costBy.2.2.1 160 = .ok (.goto 16, 3) := by decide +kernel
theorem d_M_costBy_163 : decode zm_M_costBy.2.2.1 163 = .ok (.aload_n 0, 1) := by decide +kernel
theorem d_M_costBy_164 : decode zm_M_costBy.2.2.1 164 = .ok (.getfield 35, 3) := by decide +kernel
theorem d_M_costBy_167 : decode zm_M_costBy.2.2.1 167 = .ok (.bipush 25, 2) := by decide +kernel
theorem d_M_costBy_169 : decode zm_M_costBy.2.2.1 169 = .ok (.iload_n 1, 1) := by decide +kernel
theorem d_M_costBy_170 : decode zm_M_costBy.2.2.1 170 = .ok (.imul, 1) := by decide +kernel
theorem d_M_costBy_171 : decode zm_M_costBy.2.2.1 171 = .ok (.iload_n 2, 1) := by decide +kernel
theorem d_M_costBy_172 : decode zm_M_costBy.2.2.1 172 = .ok (.iadd, 1) := by decide +kernel
theorem d_M_costBy_173 : decode zm_M_costBy.2.2.1 173 = .ok (.iconst 1, 1) := by decide +kernel
theorem d_M_costBy_174 : decode zm_M_costBy.2.2.1 174 = .ok (.iadd, 1) := by decide +kernel
theorem d_M_costBy_175 : decode zm_M_costBy.2.2.1 175 = .ok (.iaload, 1) := by decide +kernel
theorem d_M_costBy_176 : decode zm_M_costBy.2.2.1 176 = .ok (.iadd, 1) := by decide +kernel
theorem d_M_costBy_177 : decode zm_M_costBy.2.2.1 177 = .ok (.ireturn, 1) := by decide +kernel
theorem d_M_leastCost_0 : decode zm_M_leastCost.2.2.1 0 = .ok (.iload_n 1, 1) := by decide +kernel
theorem d_M_leastCost_1 : decode zm_M_leastCost.2.2.1 1 = .ok (.iload_n 2, 1) := by decide +kernel
theorem d_M_leastCost_2 : decode zm_M_leastCost.2.2.1 2 = .ok (.isub, 1) := by decide +kernel
theorem d_M_leastCost_3 : decode zm_M_leastCost.2.2.1 3 = .ok (.aload_n 0, 1) := by decide +kernel
theorem d_M_leastCost_4 : decode zm_M_leastCost.2.2.1 4 = .ok (.getfield 19, 3) := by decide +kernel
theorem d_M_leastCost_7 : decode zm_M_leastCost.2.2.1 7 = .ok (.if_icmp .gt 13, 3) := by decide +kernel
theorem d_M_leastCost_10 : decode zm_M_leastCost.2.2.1 10 = .ok (.iload_n 2, 1) := by decide +kernel
theorem d_M_leastCost_11 : decode zm_M_leastCost.2.2.1 11 = .ok (.iload_n 1, 1) := by decide +kernel
theorem d_M_leastCost_12 : decode zm_M_leastCost.2.2.1 12 = .ok (.isub, 1) := by decide +kernel
theorem d_M_leastCost_13 : decode zm_M_leastCost.2.2.1 13 = .ok (.aload_n 0, 1) := by decide +kernel
theorem d_M_leastCost_14 : decode zm_M_leastCost.2.2.1 14 = .ok (.getfield 19, 3) := by decide +kernel
theorem d_M_leastCost_17 : decode zm_M_leastCost.2.2.1 17 = .ok (.if_icmp .le 6, 3) := by decide +kernel
theorem d_M_leastCost_20 : decode zm_M_leastCost.2.2.1 20 = .ok (.ldc 107, 2) := by decide +kernel
theorem d_M_leastCost_22 : decode zm_M_leastCost.2.2.1 22 = .ok (.ireturn, 1) := by decide +kernel
theorem d_M_leastCost_23 : decode zm_M_leastCost.2.2.1 23 = .ok (.iload_n 1, 1) := by decide +kernel
theorem d_M_leastCost_24 : decode zm_M_leastCost.2.2.1 24 = .ok (.aload_n 0, 1) := by decide +kernel
theorem d_M_leastCost_25 : decode zm_M_leastCost.2.2.1 25 = .ok (.getfield 13, 3) := by decide +kernel
theorem d_M_leastCost_28 : decode zm_M_leastCost.2.2.1 28 = .ok (.aload_n 0, 1) := by decide +kernel
theorem d_M_leastCost_29 : decode zm_M_leastCost.2.2.1 29 = .ok (.getfield 101, 3) := by decide +kernel
theorem d_M_leastCost_32 : decode zm_M_leastCost.2.2.1 32 = .ok (.iaload, 1) := by decide +kernel
theorem d_M_leastCost_33 : decode zm_M_leastCost.2.2.1 33 = .ok (.if_icmp .ne 18, 3) := by decide +kernel
theorem d_M_leastCost_36 : decode zm_M_leastCost.2.2.1 36 = .ok (.iload_n 2, 1) := by decide +kernel
theorem d_M_leastCost_37 : decode zm_M_leastCost.2.2.1 37 = .ok (.aload_n 0, 1) := by decide +kernel
theorem d_M_leastCost_38 : decode zm_M_leastCost.2.2.1 38 = .ok (.getfield 13, 3) := by decide +kernel
theorem d_M_leastCost_41 : decode zm_M_leastCost.2.2.1 41 = .ok (.aload_n 0, 1) := by decide +kernel
theorem d_M_leastCost_42 : decode zm_M_leastCost.2.2.1 42 = .ok (.getfield 104, 3) := by decide +kernel
theorem d_M_leastCost_45 : decode zm_M_leastCost.2.2.1 45 = .ok (.iaload, 1) := by decide +kernel
theorem d_M_leastCost_46 : decode zm_M_leastCost.2.2.1 46 = .ok (.if_icmp .ne 5, 3) := by decide +kernel
theorem d_M_leastCost_49 : decode zm_M_leastCost.2.2.1 49 = .ok (.iconst 0, 1) := by decide +kernel
theorem d_M_leastCost_50 : decode zm_M_leastCost.2.2.1 50 = .ok (.ireturn, 1) := by decide +kernel
theorem d_M_leastCost_51 : decode zm_M_leastCost.2.2.1 51 = .ok (.aload_n 0, 1) := by decide +kernel
theorem d_M_leastCost_52 : decode zm_M_leastCost.2.2.1 52 = .ok (.iload_n 1, 1) := by decide +kernel
theorem d_M_leastCost_53 : decode zm_M_leastCost.2.2.1 53 = .ok (.iload_n 2, 1) := by decide +kernel
theorem d_M_leastCost_54 : decode zm_M_leastCost.2.2.1 54 = .ok (.iconst 0, 1) := by decide +kernel
theorem d_M_leastCost_55 : decode zm_M_leastCost.2.2.1 55 = .ok (.invokevirtual 115, 3) := by decide +kernel
theorem d_M_leastCost_58 : decode zm_M_leastCost.2.2.1 58 = .ok (.istore_n 3, 1) := by decide +kernel
theorem d_M_leastCost_59 : decode zm_M_leastCost.2.2.1 59 = .ok (.aload_n 0, 1) := by decide +kernel
theorem d_M_leastCost_60 : decode zm_M_leastCost.2.2.1 60 = .ok (.iload_n 1, 1) := by decide +kernel
theorem d_M_leastCost_61 : decode zm_M_leastCost.2.2.1 61 = .ok (.iload_n 2, 1) := by decide +kernel
theorem d_M_leastCost_62 : decode zm_M_leastCost.2.2.1 62 = .ok (.iconst 1, 1) := by decide +kernel
theorem d_M_leastCost_63 : decode zm_M_leastCost.2.2.1 63 = .ok (.invokevirtual 115, 3) := by decide +kernel
theorem d_M_leastCost_66 : decode zm_M_leastCost.2.2.1 66 = .ok (.iload_n 3, 1) := by decide +kernel
theorem d_M_leastCost_67 : decode zm_M_leastCost.2.2.1 67 = .ok (.if_icmp .ge 13, 3) := by decide +kernel
theorem d_M_leastCost_70 : decode zm_M_leastCost.2.2.1 70 = .ok (.aload_n 0, 1) := by decide +kernel
theorem d_M_leastCost_71 : decode zm_M_leastCost.2.2.1 71 = .ok (.iload_n 1, 1) := by decide +kernel
theorem d_M_leastCost_72 : decode zm_M_leastCost.2.2.1 72 = .ok (.iload_n 2, 1) := by decide +kernel
theorem d_M_leastCost_73 : decode zm_M_leastCost.2.2.1 73 = .ok (.iconst 1, 1) := by decide +kernel
theorem d_M_leastCost_74 : decode zm_M_leastCost.2.2.1 74 = .ok (.invokevirtual 115, 3) := by decide +kernel
theorem d_M_leastCost_77 : decode zm_M_leastCost.2.2.1 77 = .ok (.goto 4, 3) := by decide +kernel
theorem d_M_leastCost_80 : decode zm_M_leastCost.2.2.1 80 = .ok (.iload_n 3, 1) := by decide +kernel
theorem d_M_leastCost_81 : decode zm_M_leastCost.2.2.1 81 = .ok (.istore_n 3, 1) := by decide +kernel
theorem d_M_leastCost_82 : decode zm_M_leastCost.2.2.1 82 = .ok (.aload_n 0, 1) := by decide +kernel
theorem d_M_leastCost_83 : decode zm_M_leastCost.2.2.1 83 = .ok (.iload_n 1, 1) := by decide +kernel
theorem d_M_leastCost_84 : decode zm_M_leastCost.2.2.1 84 = .ok (.iload_n 2, 1) := by decide +kernel
theorem d_M_leastCost_85 : decode zm_M_leastCost.2.2.1 85 = .ok (.iconst 2, 1) := by decide +kernel
theorem d_M_leastCost_86 : decode zm_M_leastCost.2.2.1 86 = .ok (.invokevirtual 115, 3) := by decide +kernel
theorem d_M_leastCost_89 : decode zm_M_leastCost.2.2.1 89 = .ok (.iload_n 3, 1) := by decide +kernel
theorem d_M_leastCost_90 : decode zm_M_leastCost.2.2.1 90 = .ok (.if_icmp .ge 13, 3) := by decide +kernel
theorem d_M_leastCost_93 : decode zm_M_leastCost.2.2.1 93 = .ok (.aload_n 0, 1) := by decide +kernel
theorem d_M_leastCost_94 : decode zm_M_leastCost.2.2.1 94 = .ok (.iload_n 1, 1) := by decide +kernel
theorem d_M_leastCost_95 : decode zm_M_leastCost.2.2.1 95 = .ok (.iload_n 2, 1) := by decide +kernel
theorem d_M_leastCost_96 : decode zm_M_leastCost.2.2.1 96 = .ok (.iconst 2, 1) := by decide +kernel
theorem d_M_leastCost_97 : decode zm_M_leastCost.2.2.1 97 = .ok (.invokevirtual 115, 3) := by decide +kernel
theorem d_M_leastCost_100 : decode zm_M_leastCost.2.2.1 100 = .ok (.goto 4, 3) := by decide +kernel
theorem d_M_leastCost_103 : decode zm_M_leastCost.2.2.1 103 = .ok (.iload_n 3, 1) := by decide +kernel
theorem d_M_leastCost_104 : decode zm_M_leastCost.2.2.1 104 = .ok (.istore_n 3, 1) := by decide +kernel
theorem d_M_leastCost_105 : decode zm_M_leastCost.2.2.1 105 = .ok (.iload_n 3, 1) := by decide +kernel
theorem d_M_leastCost_106 : decode zm_M_leastCost.2.2.1 106 = .ok (.ldc 107, 2) := by decide +kernel
theorem d_M_leastCost_108 : decode zm_M_leastCost.2.2.1 108 = .ok (.if_icmp .ge 7, 3) := by decide +kernel
theorem d_M_leastCost_111 : decode zm_M_leastCost.2.2.1 111 = .ok (.iload_n 3, 1) := by decide +kernel
theorem d_M_leastCost_112 : decode zm_M_leastCost.2.2.1 112 = .ok (.goto 5, 3) := by decide +kernel
theorem d_M_leastCost_115 : decode zm_M_leastCost.2.2.1 115 = .ok (.ldc 107, 2) := by decide +kernel
theorem d_M_leastCost_117 : decode zm_M_leastCost.2.2.1 117 = .ok (.ireturn, 1) := by decide +kernel
theorem d_M_isCollated_0 : decode zm_M_isCollated.2.2.1 0 = .ok (.aload_n 0, 1) := by decide +kernel
theorem d_M_isCollated_1 : decode zm_M_isCollated.2.2.1 1 = .ok (.getfield 35, 3) := by decide +kernel
theorem d_M_isCollated_4 : decode zm_M_isCollated.2.2.1 4 = .ok (.iconst 0, 1) := by decide +kernel
theorem d_M_isCollated_5 : decode zm_M_isCollated.2.2.1 5 = .ok (.iaload, 1) := by decide +kernel
theorem d_M_isCollated_6 : decode zm_M_isCollated.2.2.1 6 = .ok (.ldc 107, 2) := by decide +kernel
theorem d_M_isCollated_8 : decode zm_M_isCollated.2.2.1 8 = .ok (.if_icmp .ge 7, 3) := by decide +kernel
theorem d_M_isCollated_11 : decode zm_M_isCollated.2.2.1 11 = .ok (.iconst 1, 1) := by decide +kernel
theorem d_M_isCollated_12 : decode zm_M_isCollated.2.2.1 12 = .ok (.goto 4, 3) := by decide +kernel
theorem d_M_isCollated_15 : decode zm_M_isCollated.2.2.1 15 = .ok (.iconst 0, 1) := by decide +kernel
theorem d_M_isCollated_16 : decode zm_M_isCollated.2.2.1 16 = .ok (.ireturn, 1) := by decide +kernel
theorem d_M_layCollation_0 : decode zm_M_layCollation.2.2.1 0 = .ok (.aload_n 0, 1) := by decide +kernel
theorem d_M_layCollation_1 : decode zm_M_layCollation.2.2.1 1 = .ok (.iload_n 1, 1) := by decide +kernel
theorem d_M_layCollation_2 : decode zm_M_layCollation.2.2.1 2 = .ok (.putfield 101, 3) := by decide +kernel
theorem d_M_layCollation_5 : decode zm_M_layCollation.2.2.1 5 = .ok (.aload_n 0, 1) := by decide +kernel
theorem d_M_layCollation_6 : decode zm_M_layCollation.2.2.1 6 = .ok (.iload_n 2, 1) := by decide +kernel
theorem d_M_layCollation_7 : decode zm_M_layCollation.2.2.1 7 = .ok (.putfield 104, 3) := by decide +kernel
theorem d_M_layCollation_10 : decode zm_M_layCollation.2.2.1 10 = .ok (.aload_n 0, 1) := by decide +kernel
theorem d_M_layCollation_11 : decode zm_M_layCollation.2.2.1 11 = .ok (.getfield 13, 3) := by decide +kernel
theorem d_M_layCollation_14 : decode zm_M_layCollation.2.2.1 14 = .ok (.iload_n 1, 1) := by decide +kernel
theorem d_M_layCollation_15 : decode zm_M_layCollation.2.2.1 15 = .ok (.iaload, 1) := by decide +kernel
theorem d_M_layCollation_16 : decode zm_M_layCollation.2.2.1 16 = .ok (.istore_n 3, 1) := by decide +kernel
theorem d_M_layCollation_17 : decode zm_M_layCollation.2.2.1 17 = .ok (.iload_n 3, 1) := by decide +kernel
theorem d_M_layCollation_18 : decode zm_M_layCollation.2.2.1 18 = .ok (.ifCond .lt 47, 3) := by decide +kernel
theorem d_M_layCollation_21 : decode zm_M_layCollation.2.2.1 21 = .ok (.aload_n 0, 1) := by decide +kernel
theorem d_M_layCollation_22 : decode zm_M_layCollation.2.2.1 22 = .ok (.getfield 13, 3) := by decide +kernel
theorem d_M_layCollation_25 : decode zm_M_layCollation.2.2.1 25 = .ok (.iload_n 2, 1) := by decide +kernel
theorem d_M_layCollation_26 : decode zm_M_layCollation.2.2.1 26 = .ok (.iaload, 1) := by decide +kernel
theorem d_M_layCollation_27 : decode zm_M_layCollation.2.2.1 27 = .ok (.istore 4, 2) := by decide +kernel
theorem d_M_layCollation_29 : decode zm_M_layCollation.2.2.1 29 = .ok (.iload 4, 2) := by decide +kernel
theorem d_M_layCollation_31 : decode zm_M_layCollation.2.2.1 31 = .ok (.ifCond .lt 28, 3) := by decide +kernel
theorem d_M_layCollation_34 : decode zm_M_layCollation.2.2.1 34 = .ok (.aload_n 0, 1) := by decide +kernel
theorem d_M_layCollation_35 : decode zm_M_layCollation.2.2.1 35 = .ok (.getfield 35, 3) := by decide +kernel
theorem d_M_layCollation_38 : decode zm_M_layCollation.2.2.1 38 = .ok (.bipush 25, 2) := by decide +kernel
theorem d_M_layCollation_40 : decode zm_M_layCollation.2.2.1 40 = .ok (.iload_n 3, 1) := by decide +kernel
theorem d_M_layCollation_41 : decode zm_M_layCollation.2.2.1 41 = .ok (.imul, 1) := by decide +kernel
theorem d_M_layCollation_42 : decode zm_M_layCollation.2.2.1 42 = .ok (.iload 4, 2) := by decide +kernel
theorem d_M_layCollation_44 : decode zm_M_layCollation.2.2.1 44 = .ok (.iadd, 1) := by decide +kernel
theorem d_M_layCollation_45 : decode zm_M_layCollation.2.2.1 45 = .ok (.aload_n 0, 1) := by decide +kernel
theorem d_M_layCollation_46 : decode zm_M_layCollation.2.2.1 46 = .ok (.iload_n 3, 1) := by decide +kernel
theorem d_M_layCollation_47 : decode zm_M_layCollation.2.2.1 47 = .ok (.iload 4, 2) := by decide +kernel
theorem d_M_layCollation_49 : decode zm_M_layCollation.2.2.1 49 = .ok (.invokevirtual 119, 3) := by decide +kernel
theorem d_M_layCollation_52 : decode zm_M_layCollation.2.2.1 52 = .ok (.iastore, 1) := by decide +kernel
theorem d_M_layCollation_53 : decode zm_M_layCollation.2.2.1 53 = .ok (.iinc 4 (-1), 3) := by decide +kernel
theorem d_M_layCollation_56 : decode zm_M_layCollation.2.2.1 56 = .ok (.goto (-27), 3) := by decide +kernel
theorem d_M_layCollation_59 : decode zm_M_layCollation.2.2.1 59 = .ok (.iinc 3 (-1), 3) := by decide +kernel
theorem d_M_layCollation_62 : decode zm_M_layCollation.2.2.1 62 = .ok (.goto (-45), 3) := by decide +kernel
theorem d_M_layCollation_65 : decode zm_M_layCollation.2.2.1 65 = .ok (.aload_n 0, 1) := by decide +kernel
theorem d_M_layCollation_66 : decode zm_M_layCollation.2.2.1 66 = .ok (.iconst 0, 1) := by decide +kernel
theorem d_M_layCollation_67 : decode zm_M_layCollation.2.2.1 67 = .ok (.putfield 122, 3) := by decide +kernel
theorem d_M_layCollation_70 : decode zm_M_layCollation.2.2.1 70 = .ok (.iconst 0, 1) := by decide +kernel
theorem d_M_layCollation_71 : decode zm_M_layCollation.2.2.1 71 = .ok (.istore_n 3, 1) := by decide +kernel
theorem d_M_layCollation_72 : decode zm_M_layCollation.2.2.1 72 = .ok (.iconst 0, 1) := by decide +kernel
theorem d_M_layCollation_73 : decode zm_M_layCollation.2.2.1 73 = .ok (.istore 4, 2) := by decide +kernel
theorem d_M_layCollation_75 : decode zm_M_layCollation.2.2.1 75 = .ok (.aload_n 0, 1) := by decide +kernel
theorem d_M_layCollation_76 : decode zm_M_layCollation.2.2.1 76 = .ok (.invokevirtual 125, 3) := by decide +kernel
theorem d_M_layCollation_79 : decode zm_M_layCollation.2.2.1 79 = .ok (.ifCond .eq 111, 3) := by decide +kernel
theorem d_M_layCollation_82 : decode zm_M_layCollation.2.2.1 82 = .ok (.iload_n 3, 1) := by decide +kernel
theorem d_M_layCollation_83 : decode zm_M_layCollation.2.2.1 83 = .ok (.aload_n 0, 1) := by decide +kernel
theorem d_M_layCollation_84 : decode zm_M_layCollation.2.2.1 84 = .ok (.getfield 13, 3) := by decide +kernel
theorem d_M_layCollation_87 : decode zm_M_layCollation.2.2.1 87 = .ok (.iload_n 1, 1) := by decide +kernel
theorem d_M_layCollation_88 : decode zm_M_layCollation.2.2.1 88 = .ok (.iaload, 1) := by decide +kernel
theorem d_M_layCollation_89 : decode zm_M_layCollation.2.2.1 89 = .ok (.if_icmp .lt 14, 3) := by decide +kernel
theorem d_M_layCollation_92 : decode zm_M_layCollation.2.2.1 92 = .ok (.iload 4, 2) := by decide +kernel
theorem d_M_layCollation_94 : decode zm_M_layCollation.2.2.1 94 = .ok (.aload_n 0, 1) := by decide +kernel
theorem d_M_layCollation_95 : decode zm_M_layCollation.2.2.1 95 = .ok (.getfield 13, 3) := by decide +kernel
theorem d_M_layCollation_98 : decode zm_M_layCollation.2.2.1 98 = .ok (.iload_n 2, 1) := by decide +kernel
theorem d_M_layCollation_99 : decode zm_M_layCollation.2.2.1 99 = .ok (.iaload, 1) := by decide +kernel
theorem d_M_layCollation_100 : decode zm_M_layCollation.2.2.1 100 = .ok (.if_icmp .ge 90, 3) := by decide +kernel
theorem d_M_layCollation_103 : decode zm_M_layCollation.2.2.1 103 = .ok (.iconst 0, 1) := by decide +kernel
theorem d_M_layCollation_104 : decode zm_M_layCollation.2.2.1 104 = .ok (.istore 5, 2) := by decide +kernel
theorem d_M_layCollation_106 : decode zm_M_layCollation.2.2.1 106 = .ok (.aload_n 0, 1) := by decide +kernel
theorem d_M_layCollation_107 : decode zm_M_layCollation.2.2.1 107 = .ok (.iload_n 3, 1) := by decide +kernel
theorem d_M_layCollation_108 : decode zm_M_layCollation.2.2.1 108 = .ok (.iload 4, 2) := by decide +kernel
theorem d_M_layCollation_110 : decode zm_M_layCollation.2.2.1 110 = .ok (.iload 5, 2) := by decide +kernel
theorem d_M_layCollation_112 : decode zm_M_layCollation.2.2.1 112 = .ok (.invokevirtual 115, 3) := by decide +kernel
theorem d_M_layCollation_115 : decode zm_M_layCollation.2.2.1 115 = .ok (.aload_n 0, 1) := by decide +kernel
theorem d_M_layCollation_116 : decode zm_M_layCollation.2.2.1 116 = .ok (.getfield 35, 3) := by decide +kernel
theorem d_M_layCollation_119 : decode zm_M_layCollation.2.2.1 119 = .ok (.bipush 25, 2) := by decide +kernel
theorem d_M_layCollation_121 : decode zm_M_layCollation.2.2.1 121 = .ok (.iload_n 3, 1) := by decide +kernel
theorem d_M_layCollation_122 : decode zm_M_layCollation.2.2.1 122 = .ok (.imul, 1) := by decide +kernel
theorem d_M_layCollation_123 : decode zm_M_layCollation.2.2.1 123 = .ok (.iload 4, 2) := by decide +kernel
theorem d_M_layCollation_125 : decode zm_M_layCollation.2.2.1 125 = .ok (.iadd, 1) := by decide +kernel
theorem d_M_layCollation_126 : decode zm_M_layCollation.2.2.1 126 = .ok (.iaload, 1) := by decide +kernel
theorem d_M_layCollation_127 : decode zm_M_layCollation.2.2.1 127 = .ok (.if_icmp .eq 9, 3) := by decide +kernel
theorem d_M_layCollation_130 : decode zm_M_layCollation.2.2.1 130 = .ok (.iinc 5 1, 3) := by decide +kernel
theorem d_M_layCollation_133 : decode zm_M_layCollation.2.2.1 133 = .ok (.goto (-27), 3) := by decide +kernel
theorem d_M_layCollation_136 : decode zm_M_layCollation.2.2.1 136 = .ok (.aload_n 0, 1) := by decide +kernel
theorem d_M_layCollation_137 : decode zm_M_layCollation.2.2.1 137 = .ok (.getfield 38, 3) := by decide +kernel
theorem d_M_layCollation_140 : decode zm_M_layCollation.2.2.1 140 = .ok (.aload_n 0, 1) := by decide +kernel
theorem d_M_layCollation_141 : decode zm_M_layCollation.2.2.1 141 = .ok (.getfield 122, 3) := by decide +kernel
theorem d_M_layCollation_144 : decode zm_M_layCollation.2.2.1 144 = .ok (.iload 5, 2) := by decide +kernel
theorem d_M_layCollation_146 : decode zm_M_layCollation.2.2.1 146 = .ok (.iastore, 1) := by decide +kernel
theorem d_M_layCollation_147 : decode zm_M_layCollation.2.2.1 147 = .ok (.aload_n 0, 1) := by decide +kernel
theorem d_M_layCollation_148 : decode zm_M_layCollation.2.2.1 148 = .ok (.dup, 1) := by decide +kernel
theorem d_M_layCollation_149 : decode zm_M_layCollation.2.2.1 149 = .ok (.getfield 122, 3) := by decide +kernel
theorem d_M_layCollation_152 : decode zm_M_layCollation.2.2.1 152 = .ok (.iconst 1, 1) := by decide +kernel
theorem d_M_layCollation_153 : decode zm_M_layCollation.2.2.1 153 = .ok (.iadd, 1) := by decide +kernel
theorem d_M_layCollation_154 : decode zm_M_layCollation.2.2.1 154 = .ok (.putfield 122, 3) := by decide +kernel
theorem d_M_layCollation_157 : decode zm_M_layCollation.2.2.1 157 = .ok (.iload_n 3, 1) := by decide +kernel
theorem d_M_layCollation_158 : decode zm_M_layCollation.2.2.1 158 = .ok (.iload 5, 2) := by decide +kernel
theorem d_M_layCollation_160 : decode zm_M_layCollation.2.2.1 160 = .ok (.iconst 2, 1) := by decide +kernel
theorem d_M_layCollation_161 : decode zm_M_layCollation.2.2.1 161 = .ok (.if_icmp .ne 7, 3) := by decide +kernel
theorem d_M_layCollation_164 : decode zm_M_layCollation.2.2.1 164 = .ok (.iconst 0, 1) := by decide +kernel
theorem d_M_layCollation_165 : decode zm_M_layCollation.2.2.1 165 = .ok (.goto 4, 3) := by decide +kernel
theorem d_M_layCollation_168 : decode zm_M_layCollation.2.2.1 168 = .ok (.iconst 1, 1) := by decide +kernel
theorem d_M_layCollation_169 : decode zm_M_layCollation.2.2.1 169 = .ok (.iadd, 1) := by decide +kernel
theorem d_M_layCollation_170 : decode zm_M_layCollation.2.2.1 170 = .ok (.istore_n 3, 1) := by decide +kernel
theorem d_M_layCollation_171 : decode zm_M_layCollation.2.2.1 171 = .ok (.iload 4, 2) := by decide +kernel
theorem d_M_layCollation_173 : decode zm_M_layCollation.2.2.1 173 = .ok (.iload 5, 2) := by decide +kernel
theorem d_M_layCollation_175 : decode zm_M_layCollation.2.2.1 175 = .ok (.iconst 1, 1) := by decide +kernel
theorem d_M_layCollation_176 : decode zm_M_layCollation.2.2.1 176 = .ok (.if_icmp .ne 7, 3) := by decide +kernel
theorem d_M_layCollation_179 : decode zm_M_layCollation.2.2.1 179 = .ok (.iconst 0, 1) := by decide +kernel
theorem d_M_layCollation_180 : decode zm_M_layCollation.2.2.1 180 = .ok (.goto 4, 3) := by decide +kernel
theorem d_M_layCollation_183 : decode zm_M_layCollation.2.2.1 183 = .ok (.iconst 1, 1) := by decide +kernel
theorem d_M_layCollation_184 : decode zm_M_layCollation.2.2.1 184 = .ok (.iadd, 1) := by decide +kernel
theorem d_M_layCollation_185 : decode zm_M_layCollation.2.2.1 185 = .ok (.istore 4, 2) := by decide +kernel
theorem d_M_layCollation_187 : decode zm_M_layCollation.2.2.1 187 = .ok (.goto (-112), 3) := by decide +kernel
theorem d_M_layCollation_190 : decode zm_M_layCollation.2.2.1 190 = .ok (.return_, 1) := by decide +kernel
theorem d_M_stepsOf_0 : decode zm_M_stepsOf.2.2.1 0 = .ok (.iconst 0, 1) := by decide +kernel
theorem d_M_stepsOf_1 : decode zm_M_stepsOf.2.2.1 1 = .ok (.istore_n 2, 1) := by decide +kernel
theorem d_M_stepsOf_2 : decode zm_M_stepsOf.2.2.1 2 = .ok (.iconst 0, 1) := by decide +kernel
theorem d_M_stepsOf_3 : decode zm_M_stepsOf.2.2.1 3 = .ok (.istore_n 3, 1) := by decide +kernel
theorem d_M_stepsOf_4 : decode zm_M_stepsOf.2.2.1 4 = .ok (.iconst 0, 1) := by decide +kernel
theorem d_M_stepsOf_5 : decode zm_M_stepsOf.2.2.1 5 = .ok (.istore 4, 2) := by decide +kernel
theorem d_M_stepsOf_7 : decode zm_M_stepsOf.2.2.1 7 = .ok (.iconst 0, 1) := by decide +kernel
theorem d_M_stepsOf_8 : decode zm_M_stepsOf.2.2.1 8 = .ok (.istore 5, 2) := by decide +kernel
theorem d_M_stepsOf_10 : decode zm_M_stepsOf.2.2.1 10 = .ok (.iload 5, 2) := by decide +kernel
theorem d_M_stepsOf_12 : decode zm_M_stepsOf.2.2.1 12 = .ok (.aload_n 0, 1) := by decide +kernel
theorem d_M_stepsOf_13 : decode zm_M_stepsOf.2.2.1 13 = .ok (.getfield 122, 3) := by decide +kernel
theorem d_M_stepsOf_16 : decode zm_M_stepsOf.2.2.1 16 = .ok (.if_icmp .ge 153, 3) := by decide +kernel
theorem d_M_stepsOf_19 : decode zm_M_stepsOf.2.2.1 19 = .ok (.aload_n 0, 1) := by decide +kernel
theorem d_M_stepsOf_20 : decode zm_M_stepsOf.2.2.1 20 = .ok (.getfield 38, 3) := by decide +kernel
theorem d_M_stepsOf_23 : decode zm_M_stepsOf.2.2.1 23 = .ok (.iload 5, 2) := by decide +kernel
theorem d_M_stepsOf_25 : decode zm_M_stepsOf.2.2.1 25 = .ok (.iaload, 1) := by decide +kernel
theorem d_M_stepsOf_26 : decode zm_M_stepsOf.2.2.1 26 = .ok (.ifCond .ne 27, 3) := by decide +kernel
theorem d_M_stepsOf_29 : decode zm_M_stepsOf.2.2.1 29 = .ok (.aload_n 0, 1) := by decide +kernel
theorem d_M_stepsOf_30 : decode zm_M_stepsOf.2.2.1 30 = .ok (.aload_n 0, 1) := by decide +kernel
theorem d_M_stepsOf_31 : decode zm_M_stepsOf.2.2.1 31 = .ok (.getfield 101, 3) := by decide +kernel
theorem d_M_stepsOf_34 : decode zm_M_stepsOf.2.2.1 34 = .ok (.iload_n 2, 1) := by decide +kernel
theorem d_M_stepsOf_35 : decode zm_M_stepsOf.2.2.1 35 = .ok (.invokevirtual 108, 3) := by decide +kernel
theorem d_M_stepsOf_38 : decode zm_M_stepsOf.2.2.1 38 = .ok (.aload_n 0, 1) := by decide +kernel
theorem d_M_stepsOf_39 : decode zm_M_stepsOf.2.2.1 39 = .ok (.aload_n 0, 1) := by decide +kernel
theorem d_M_stepsOf_40 : decode zm_M_stepsOf.2.2.1 40 = .ok (.getfield 104, 3) := by decide +kernel
theorem d_M_stepsOf_43 : decode zm_M_stepsOf.2.2.1 43 = .ok (.iload_n 3, 1) := by decide +kernel
theorem d_M_stepsOf_44 : decode zm_M_stepsOf.2.2.1 44 = .ok (.invokevirtual 108, 3) := by decide +kernel
theorem d_M_stepsOf_47 : decode zm_M_stepsOf.2.2.1 47 = .ok (.invokestatic 112, 3) := by decide +kernel
theorem d_M_stepsOf_50 : decode zm_M_stepsOf.2.2.1 50 = .ok (.goto 4, 3) := by decide +kernel
theorem d_M_stepsOf_53 : decode zm_M_stepsOf.2.2.1 53 = .ok (.iconst (-1), 1) := by decide +kernel
theorem d_M_stepsOf_54 : decode zm_M_stepsOf.2.2.1 54 = .ok (.istore 6, 2) := by decide +kernel
theorem d_M_stepsOf_56 : decode zm_M_stepsOf.2.2.1 56 = .ok (.aload_n 0, 1) := by decide +kernel
theorem d_M_stepsOf_57 : decode zm_M_stepsOf.2.2.1 57 = .ok (.getfield 38, 3) := by decide +kernel
theorem d_M_stepsOf_60 : decode zm_M_stepsOf.2.2.1 60 = .ok (.iload 5, 2) := by decide +kernel
theorem d_M_stepsOf_62 : decode zm_M_stepsOf.2.2.1 62 = .ok (.iaload, 1) := by decide +kernel
theorem d_M_stepsOf_63 : decode zm_M_stepsOf.2.2.1 63 = .ok (.iconst 1, 1) := by decide +kernel
theorem d_M_stepsOf_64 : decode zm_M_stepsOf.2.2.1 64 = .ok (.if_icmp .ne 7, 3) := by decide +kernel
theorem d_M_stepsOf_67 : decode zm_M_stepsOf.2.2.1 67 = .ok (.iconst 5, 1) := by decide +kernel
theorem d_M_stepsOf_68 : decode zm_M_stepsOf.2.2.1 68 = .ok (.goto 39, 3) := by decide +kernel
theorem d_M_stepsOf_71 : decode zm_M_stepsOf.2.2.1 71 = .ok (.aload_n 0, 1) := by decide +kernel
theorem d_M_stepsOf_72 : decode zm_M_stepsOf.2.2.1 72 = .ok (.getfield 38, 3) := by decide +kernel
theorem d_M_stepsOf_75 : decode zm_M_stepsOf.2.2.1 75 = .ok (.iload 5, 2) := by decide +kernel
theorem d_M_stepsOf_77 : decode zm_M_stepsOf.2.2.1 77 = .ok (.iaload, 1) := by decide +kernel
theorem d_M_stepsOf_78 : decode zm_M_stepsOf.2.2.1 78 = .ok (.iconst 2, 1) := by decide +kernel
theorem d_M_stepsOf_79 : decode zm_M_stepsOf.2.2.1 79 = .ok (.if_icmp .ne 8, 3) := by decide +kernel
theorem d_M_stepsOf_82 : decode zm_M_stepsOf.2.2.1 82 = .ok (.bipush 6, 2) := by decide +kernel
theorem d_M_stepsOf_84 : decode zm_M_stepsOf.2.2.1 84 = .ok (.goto 23, 3) := by decide +kernel
theorem d_M_stepsOf_87 : decode zm_M_stepsOf.2.2.1 87 = .ok (.iload 6, 2) := by decide +kernel
theorem d_M_stepsOf_89 : decode zm_M_stepsOf.2.2.1 89 = .ok (.ifCond .ne 7, 3) := by decide +kernel
theorem d_M_stepsOf_92 : decode zm_M_stepsOf.2.2.1 92 = .ok (.iconst 2, 1) := by decide +kernel
theorem d_M_stepsOf_93 : decode zm_M_stepsOf.2.2.1 93 = .ok (.goto 14, 3) := by decide +kernel
theorem d_M_stepsOf_96 : decode zm_M_stepsOf.2.2.1 96 = .ok (.iload 6, 2) := by decide +kernel
theorem d_M_stepsOf_98 : decode zm_M_stepsOf.2.2.1 98 = .ok (.iconst 1, 1) := by decide +kernel
theorem d_M_stepsOf_99 : decode zm_M_stepsOf.2.2.1 99 = .ok (.if_icmp .ne 7, 3) := by decide +kernel
theorem d_M_stepsOf_102 : decode zm_M_stepsOf.2.2.1 102 = .ok (.iconst 3, 1) := by decide +kernel
theorem d_M_stepsOf_103 : decode zm_M_stepsOf.2.2.1 103 = .ok (.goto 4, 3) := by decide +kernel
theorem d_M_stepsOf_106 : decode zm_M_stepsOf.2.2.1 106 = .ok (.iconst 4, 1) := by decide +kernel
theorem d_M_stepsOf_107 : decode zm_M_stepsOf.2.2.1 107 = .ok (.istore 7, 2) := by decide +kernel
theorem d_M_stepsOf_109 : decode zm_M_stepsOf.2.2.1 109 = .ok (.iload 4, 2) := by decide +kernel
theorem d_M_stepsOf_111 : decode zm_M_stepsOf.2.2.1 111 = .ok (.iload 7, 2) := by decide +kernel
theorem d_M_stepsOf_113 : decode zm_M_stepsOf.2.2.1 113 = .ok (.iload_n 1, 1) := by decide +kernel
theorem d_M_stepsOf_114 : decode zm_M_stepsOf.2.2.1 114 = .ok (.if_icmp .ne 7, 3) := by decide +kernel
theorem d_M_stepsOf_117 : decode zm_M_stepsOf.2.2.1 117 = .ok (.iconst 1, 1) := by decide +kernel
theorem d_M_stepsOf_118 : decode zm_M_stepsOf.2.2.1 118 = .ok (.goto 4, 3) := by decide +kernel
theorem d_M_stepsOf_121 : decode zm_M_stepsOf.2.2.1 121 = .ok (.iconst 0, 1) := by decide +kernel
theorem d_M_stepsOf_122 : decode zm_M_stepsOf.2.2.1 122 = .ok (.iadd, 1) := by decide +kernel
theorem d_M_stepsOf_123 : decode zm_M_stepsOf.2.2.1 123 = .ok (.istore 4, 2) := by decide +kernel
theorem d_M_stepsOf_125 : decode zm_M_stepsOf.2.2.1 125 = .ok (.iload_n 2, 1) := by decide +kernel
theorem d_M_stepsOf_126 : decode zm_M_stepsOf.2.2.1 126 = .ok (.aload_n 0, 1) := by decide +kernel
theorem d_M_stepsOf_127 : decode zm_M_stepsOf.2.2.1 127 = .ok (.getfield 38, 3) := by decide +kernel
theorem d_M_stepsOf_130 : decode zm_M_stepsOf.2.2.1 130 = .ok (.iload 5, 2) := by decide +kernel
theorem d_M_stepsOf_132 : decode zm_M_stepsOf.2.2.1 132 = .ok (.iaload, 1) := by decide +kernel
theorem d_M_stepsOf_133 : decode zm_M_stepsOf.2.2.1 133 = .ok (.iconst 2, 1) := by decide +kernel
theorem d_M_stepsOf_134 : decode zm_M_stepsOf.2.2.1 134 = .ok (.if_icmp .ne 7, 3) := by decide +kernel
theorem d_M_stepsOf_137 : decode zm_M_stepsOf.2.2.1 137 = .ok (.iconst 0, 1) := by decide +kernel
theorem d_M_stepsOf_138 : decode zm_M_stepsOf.2.2.1 138 = .ok (.goto 4, 3) := by decide +kernel
theorem d_M_stepsOf_141 : decode zm_M_stepsOf.2.2.1 141 = .ok (.iconst 1, 1) := by decide +kernel
theorem d_M_stepsOf_142 : decode zm_M_stepsOf.2.2.1 142 = .ok (.iadd, 1) := by decide +kernel
theorem d_M_stepsOf_143 : decode zm_M_stepsOf.2.2.1 143 = .ok (.istore_n 2, 1) := by decide +kernel
theorem d_M_stepsOf_144 : decode zm_M_stepsOf.2.2.1 144 = .ok (.iload_n 3, 1) := by decide +kernel
theorem d_M_stepsOf_145 : decode zm_M_stepsOf.2.2.1 145 = .ok (.aload_n 0, 1) := by decide +kernel
theorem d_M_stepsOf_146 : decode zm_M_stepsOf.2.2.1 146 = .ok (.getfield 38, 3) := by decide +kernel
theorem d_M_stepsOf_149 : decode zm_M_stepsOf.2.2.1 149 = .ok (.iload 5, 2) := by decide +kernel
theorem d_M_stepsOf_151 : decode zm_M_stepsOf.2.2.1 151 = .ok (.iaload, 1) := by decide +kernel
theorem d_M_stepsOf_152 : decode zm_M_stepsOf.2.2.1 152 = .ok (.iconst 1, 1) := by decide +kernel
theorem d_M_stepsOf_153 : decode zm_M_stepsOf.2.2.1 153 = .ok (.if_icmp .ne 7, 3) := by decide +kernel
theorem d_M_stepsOf_156 : decode zm_M_stepsOf.2.2.1 156 = .ok (.iconst 0, 1) := by decide +kernel
theorem d_M_stepsOf_157 : decode zm_M_stepsOf.2.2.1 157 = .ok (.goto 4, 3) := by decide +kernel
theorem d_M_stepsOf_160 : decode zm_M_stepsOf.2.2.1 160 = .ok (.iconst 1, 1) := by decide +kernel
theorem d_M_stepsOf_161 : decode zm_M_stepsOf.2.2.1 161 = .ok (.iadd, 1) := by decide +kernel
theorem d_M_stepsOf_162 : decode zm_M_stepsOf.2.2.1 162 = .ok (.istore_n 3, 1) := by decide +kernel
theorem d_M_stepsOf_163 : decode zm_M_stepsOf.2.2.1 163 = .ok (.iinc 5 1, 3) := by decide +kernel
theorem d_M_stepsOf_166 : decode zm_M_stepsOf.2.2.1 166 = .ok (.goto (-156), 3) := by decide +kernel
theorem d_M_stepsOf_169 : decode zm_M_stepsOf.2.2.1 169 = .ok (.iload 4, 2) := by decide +kernel
theorem d_M_stepsOf_171 : decode zm_M_stepsOf.2.2.1 171 = .ok (.ireturn, 1) := by decide +kernel
theorem d_M_collateNow_0 : decode zm_M_collateNow.2.2.1 0 = .ok (.aload_n 0, 1) := by decide +kernel
theorem d_M_collateNow_1 : decode zm_M_collateNow.2.2.1 1 = .ok (.iload_n 1, 1) := by decide +kernel
theorem d_M_collateNow_2 : decode zm_M_collateNow.2.2.1 2 = .ok (.iload_n 2, 1) := by decide +kernel
theorem d_M_collateNow_3 : decode zm_M_collateNow.2.2.1 3 = .ok (.invokevirtual 128, 3) := by decide +kernel
theorem d_M_collateNow_6 : decode zm_M_collateNow.2.2.1 6 = .ok (.aload_n 0, 1) := by decide +kernel
theorem d_M_collateNow_7 : decode zm_M_collateNow.2.2.1 7 = .ok (.invokevirtual 125, 3) := by decide +kernel
theorem d_M_collateNow_10 : decode zm_M_collateNow.2.2.1 10 = .ok (.ifCond .ne 5, 3) := by decide +kernel
theorem d_M_collateNow_13 : decode zm_M_collateNow.2.2.1 13 = .ok (.iconst (-1), 1) := by decide +kernel
theorem d_M_collateNow_14 : decode zm_M_collateNow.2.2.1 14 = .ok (.ireturn, 1) := by decide +kernel
theorem d_M_collateNow_15 : decode zm_M_collateNow.2.2.1 15 = .ok (.iload_n 3, 1) := by decide +kernel
theorem d_M_collateNow_16 : decode zm_M_collateNow.2.2.1 16 = .ok (.ifCond .ne 12, 3) := by decide +kernel
theorem d_M_collateNow_19 : decode zm_M_collateNow.2.2.1 19 = .ok (.aload_n 0, 1) := by decide +kernel
theorem d_M_collateNow_20 : decode zm_M_collateNow.2.2.1 20 = .ok (.getfield 35, 3) := by decide +kernel
theorem d_M_collateNow_23 : decode zm_M_collateNow.2.2.1 23 = .ok (.iconst 0, 1) := by decide +kernel
theorem d_M_collateNow_24 : decode zm_M_collateNow.2.2.1 24 = .ok (.iaload, 1) := by decide +kernel
theorem d_M_collateNow_25 : decode zm_M_collateNow.2.2.1 25 = .ok (.goto 20, 3) := by decide +kernel
theorem d_M_collateNow_28 : decode zm_M_collateNow.2.2.1 28 = .ok (.iload_n 3, 1) := by decide +kernel
theorem d_M_collateNow_29 : decode zm_M_collateNow.2.2.1 29 = .ok (.iconst 1, 1) := by decide +kernel
theorem d_M_collateNow_30 : decode zm_M_collateNow.2.2.1 30 = .ok (.if_icmp .ne 10, 3) := by decide +kernel
theorem d_M_collateNow_33 : decode zm_M_collateNow.2.2.1 33 = .ok (.aload_n 0, 1) := by decide +kernel
theorem d_M_collateNow_34 : decode zm_M_collateNow.2.2.1 34 = .ok (.getfield 122, 3) := by decide +kernel
theorem d_M_collateNow_37 : decode zm_M_collateNow.2.2.1 37 = .ok (.goto 8, 3) := by decide +kernel
theorem d_M_collateNow_40 : decode zm_M_collateNow.2.2.1 40 = .ok (.aload_n 0, 1) := by decide +kernel
theorem d_M_collateNow_41 : decode zm_M_collateNow.2.2.1 41 = .ok (.iload_n 3, 1) := by decide +kernel
theorem d_M_collateNow_42 : decode zm_M_collateNow.2.2.1 42 = .ok (.invokevirtual 132, 3) := by decide +kernel
theorem d_M_collateNow_45 : decode zm_M_collateNow.2.2.1 45 = .ok (.ireturn, 1) := by decide +kernel
theorem d_M_collate_0 : decode zm_M_collate.2.2.1 0 = .ok (.aload_n 0, 1) := by decide +kernel
theorem d_M_collate_1 : decode zm_M_collate.2.2.1 1 = .ok (.iload_n 1, 1) := by decide +kernel
theorem d_M_collate_2 : decode zm_M_collate.2.2.1 2 = .ok (.invokevirtual 93, 3) := by decide +kernel
theorem d_M_collate_5 : decode zm_M_collate.2.2.1 5 = .ok (.ifCond .eq 11, 3) := by decide +kernel
theorem d_M_collate_8 : decode zm_M_collate.2.2.1 8 = .ok (.aload_n 0, 1) := by decide +kernel
theorem d_M_collate_9 : decode zm_M_collate.2.2.1 9 = .ok (.iload_n 2, 1) := by decide +kernel
theorem d_M_collate_10 : decode zm_M_collate.2.2.1 10 = .ok (.invokevirtual 93, 3) := by decide +kernel
theorem d_M_collate_13 : decode zm_M_collate.2.2.1 13 = .ok (.ifCond .ne 6, 3) := by decide +kernel
theorem d_M_collate_16 : decode zm_M_collate.2.2.1 16 = .ok (.bipush (-101), 2) := by decide +kernel
theorem d_M_collate_18 : decode zm_M_collate.2.2.1 18 = .ok (.ireturn, 1) := by decide +kernel
theorem d_M_collate_19 : decode zm_M_collate.2.2.1 19 = .ok (.iload_n 3, 1) := by decide +kernel
theorem d_M_collate_20 : decode zm_M_collate.2.2.1 20 = .ok (.iconst 0, 1) := by decide +kernel
theorem d_M_collate_21 : decode zm_M_collate.2.2.1 21 = .ok (.bipush 6, 2) := by decide +kernel
theorem d_M_collate_23 : decode zm_M_collate.2.2.1 23 = .ok (.invokestatic 72, 3) := by decide +kernel
theorem d_M_collate_26 : decode zm_M_collate.2.2.1 26 = .ok (.ifCond .eq 13, 3) := by decide +kernel
theorem d_M_collate_29 : decode zm_M_collate.2.2.1 29 = .ok (.aload_n 0, 1) := by decide +kernel
theorem d_M_collate_30 : decode zm_M_collate.2.2.1 30 = .ok (.iload_n 1, 1) := by decide +kernel
theorem d_M_collate_31 : decode zm_M_collate.2.2.1 31 = .ok (.iload_n 2, 1) := by decide +kernel
theorem d_M_collate_32 : decode zm_M_collate.2.2.1 32 = .ok (.iload_n 3, 1) := by decide +kernel
theorem d_M_collate_33 : decode zm_M_collate.2.2.1 33 = .ok (.invokevirtual 135, 3) := by decide +kernel
theorem d_M_collate_36 : decode zm_M_collate.2.2.1 36 = .ok (.goto 5, 3) := by decide +kernel
theorem d_M_collate_39 : decode zm_M_collate.2.2.1 39 = .ok (.bipush (-102), 2) := by decide +kernel
theorem d_M_collate_41 : decode zm_M_collate.2.2.1 41 = .ok (.ireturn, 1) := by decide +kernel
theorem d_M_stepNow_0 : decode zm_M_stepNow.2.2.1 0 = .ok (.aload_n 0, 1) := by decide +kernel
theorem d_M_stepNow_1 : decode zm_M_stepNow.2.2.1 1 = .ok (.iload_n 1, 1) := by decide +kernel
theorem d_M_stepNow_2 : decode zm_M_stepNow.2.2.1 2 = .ok (.iload_n 2, 1) := by decide +kernel
theorem d_M_stepNow_3 : decode zm_M_stepNow.2.2.1 3 = .ok (.invokevirtual 128, 3) := by decide +kernel
theorem d_M_stepNow_6 : decode zm_M_stepNow.2.2.1 6 = .ok (.iload_n 3, 1) := by decide +kernel
theorem d_M_stepNow_7 : decode zm_M_stepNow.2.2.1 7 = .ok (.iconst 0, 1) := by decide +kernel
theorem d_M_stepNow_8 : decode zm_M_stepNow.2.2.1 8 = .ok (.aload_n 0, 1) := by decide +kernel
theorem d_M_stepNow_9 : decode zm_M_stepNow.2.2.1 9 = .ok (.getfield 122, 3) := by decide +kernel
theorem d_M_stepNow_12 : decode zm_M_stepNow.2.2.1 12 = .ok (.iconst 1, 1) := by decide +kernel
theorem d_M_stepNow_13 : decode zm_M_stepNow.2.2.1 13 = .ok (.isub, 1) := by decide +kernel
theorem d_M_stepNow_14 : decode zm_M_stepNow.2.2.1 14 = .ok (.invokestatic 72, 3) := by decide +kernel
theorem d_M_stepNow_17 : decode zm_M_stepNow.2.2.1 17 = .ok (.ifCond .eq 12, 3) := by decide +kernel
theorem d_M_stepNow_20 : decode zm_M_stepNow.2.2.1 20 = .ok (.aload_n 0, 1) := by decide +kernel
theorem d_M_stepNow_21 : decode zm_M_stepNow.2.2.1 21 = .ok (.getfield 38, 3) := by decide +kernel
theorem d_M_stepNow_24 : decode zm_M_stepNow.2.2.1 24 = .ok (.iload_n 3, 1) := by decide +kernel
theorem d_M_stepNow_25 : decode zm_M_stepNow.2.2.1 25 = .ok (.iaload, 1) := by decide +kernel
theorem d_M_stepNow_26 : decode zm_M_stepNow.2.2.1 26 = .ok (.goto 5, 3) := by decide +kernel
theorem d_M_stepNow_29 : decode zm_M_stepNow.2.2.1 29 = .ok (.bipush (-101), 2) := by decide +kernel
theorem d_M_stepNow_31 : decode zm_M_stepNow.2.2.1 31 = .ok (.ireturn, 1) := by decide +kernel
theorem d_M_step_0 : decode zm_M_step.2.2.1 0 = .ok (.aload_n 0, 1) := by decide +kernel
theorem d_M_step_1 : decode zm_M_step.2.2.1 1 = .ok (.iload_n 1, 1) := by decide +kernel
theorem d_M_step_2 : decode zm_M_step.2.2.1 2 = .ok (.invokevirtual 93, 3) := by decide +kernel
theorem d_M_step_5 : decode zm_M_step.2.2.1 5 = .ok (.ifCond .eq 21, 3) := by decide +kernel
theorem d_M_step_8 : decode zm_M_step.2.2.1 8 = .ok (.aload_n 0, 1) := by decide +kernel
theorem d_M_step_9 : decode zm_M_step.2.2.1 9 = .ok (.iload_n 2, 1) := by decide +kernel
theorem d_M_step_10 : decode zm_M_step.2.2.1 10 = .ok (.invokevirtual 93, 3) := by decide +kernel
theorem d_M_step_13 : decode zm_M_step.2.2.1 13 = .ok (.ifCond .eq 13, 3) := by decide +kernel
theorem d_M_step_16 : decode zm_M_step.2.2.1 16 = .ok (.aload_n 0, 1) := by decide +kernel
theorem d_M_step_17 : decode zm_M_step.2.2.1 17 = .ok (.iload_n 1, 1) := by decide +kernel
theorem d_M_step_18 : decode zm_M_step.2.2.1 18 = .ok (.iload_n 2, 1) := by decide +kernel
theorem d_M_step_19 : decode zm_M_step.2.2.1 19 = .ok (.iload_n 3, 1) := by decide +kernel
theorem d_M_step_20 : decode zm_M_step.2.2.1 20 = .ok (.invokevirtual 138, 3) := by decide +kernel
theorem d_M_step_23 : decode zm_M_step.2.2.1 23 = .ok (.goto 5, 3) := by decide +kernel
theorem d_M_step_26 : decode zm_M_step.2.2.1 26 = .ok (.bipush (-101), 2) := by decide +kernel
theorem d_M_step_28 : decode zm_M_step.2.2.1 28 = .ok (.ireturn, 1) := by decide +kernel
theorem d_M_layReading_0 : decode zm_M_layReading.2.2.1 0 = .ok (.aload_n 0, 1) := by decide +kernel
theorem d_M_layReading_1 : decode zm_M_layReading.2.2.1 1 = .ok (.iconst 0, 1) := by decide +kernel
theorem d_M_layReading_2 : decode zm_M_layReading.2.2.1 2 = .ok (.iload_n 1, 1) := by decide +kernel
theorem d_M_layReading_3 : decode zm_M_layReading.2.2.1 3 = .ok (.invokevirtual 128, 3) := by decide +kernel
theorem d_M_layReading_6 : decode zm_M_layReading.2.2.1 6 = .ok (.aload_n 0, 1) := by decide +kernel
theorem d_M_layReading_7 : decode zm_M_layReading.2.2.1 7 = .ok (.getfield 44, 3) := by decide +kernel
theorem d_M_layReading_10 : decode zm_M_layReading.2.2.1 10 = .ok (.iload_n 1, 1) := by decide +kernel
theorem d_M_layReading_11 : decode zm_M_layReading.2.2.1 11 = .ok (.aload_n 0, 1) := by decide +kernel
theorem d_M_layReading_12 : decode zm_M_layReading.2.2.1 12 = .ok (.invokevirtual 125, 3) := by decide +kernel
theorem d_M_layReading_15 : decode zm_M_layReading.2.2.1 15 = .ok (.ifCond .ne 7, 3) := by decide +kernel
theorem d_M_layReading_18 : decode zm_M_layReading.2.2.1 18 = .ok (.iconst 1, 1) := by decide +kernel
theorem d_M_layReading_19 : decode zm_M_layReading.2.2.1 19 = .ok (.goto 4, 3) := by decide +kernel
theorem d_M_layReading_22 : decode zm_M_layReading.2.2.1 22 = .ok (.iconst 0, 1) := by decide +kernel
theorem d_M_layReading_23 : decode zm_M_layReading.2.2.1 23 = .ok (.bastore, 1) := by decide +kernel
theorem d_M_layReading_24 : decode zm_M_layReading.2.2.1 24 = .ok (.iconst 0, 1) := by decide +kernel
theorem d_M_layReading_25 : decode zm_M_layReading.2.2.1 25 = .ok (.istore_n 2, 1) := by decide +kernel
theorem d_M_layReading_26 : decode zm_M_layReading.2.2.1 26 = .ok (.iconst 0, 1) := by decide +kernel
theorem d_M_layReading_27 : decode zm_M_layReading.2.2.1 27 = .ok (.istore_n 3, 1) := by decide +kernel
theorem d_M_layReading_28 : decode zm_M_layReading.2.2.1 28 = .ok (.iconst 0, 1) := by decide +kernel
theorem d_M_layReading_29 : decode zm_M_layReading.2.2.1 29 = .ok (.istore 4, 2) := by decide +kernel
theorem d_M_layReading_31 : decode zm_M_layReading.2.2.1 31 = .ok (.iload 4, 2) := by decide +kernel
theorem d_M_layReading_33 : decode zm_M_layReading.2.2.1 33 = .ok (.aload_n 0, 1) := by decide +kernel
theorem d_M_layReading_34 : decode zm_M_layReading.2.2.1 34 = .ok (.getfield 122, 3) := by decide +kernel
theorem d_M_layReading_37 : decode zm_M_layReading.2.2.1 37 = .ok (.if_icmp .ge 73, 3) := by decide +kernel
theorem d_M_layReading_40 : decode zm_M_layReading.2.2.1 40 = .ok (.aload_n 0, 1) := by decide +kernel
theorem d_M_layReading_41 : decode zm_M_layReading.2.2.1 41 = .ok (.getfield 38, 3) := by decide +kernel
theorem d_M_layReading_44 : decode zm_M_layReading.2.2.1 44 = .ok (.iload 4, 2) := by decide +kernel
theorem d_M_layReading_46 : decode zm_M_layReading.2.2.1 46 = .ok (.iaload, 1) := by decide +kernel
theorem d_M_layReading_47 : decode zm_M_layReading.2.2.1 47 = .ok (.iconst 2, 1) := by decide +kernel
theorem d_M_layReading_48 : decode zm_M_layReading.2.2.1 48 = .ok (.if_icmp .eq 37, 3) := by decide +kernel
theorem d_M_layReading_51 : decode zm_M_layReading.2.2.1 51 = .ok (.aload_n 0, 1) := by decide +kernel
theorem d_M_layReading_52 : decode zm_M_layReading.2.2.1 52 = .ok (.getfield 41, 3) := by decide +kernel
theorem d_M_layReading_55 : decode zm_M_layReading.2.2.1 55 = .ok (.bipush 24, 2) := by decide +kernel
theorem d_M_layReading_57 : decode zm_M_layReading.2.2.1 57 = .ok (.iload_n 1, 1) := by decide +kernel
theorem d_M_layReading_58 : decode zm_M_layReading.2.2.1 58 = .ok (.imul, 1) := by decide +kernel
theorem d_M_layReading_59 : decode zm_M_layReading.2.2.1 59 = .ok (.iload_n 2, 1) := by decide +kernel
theorem d_M_layReading_60 : decode zm_M_layReading.2.2.1 60 = .ok (.iadd, 1) := by decide +kernel
theorem d_M_layReading_61 : decode zm_M_layReading.2.2.1 61 = .ok (.aload_n 0, 1) := by decide +kernel
theorem d_M_layReading_62 : decode zm_M_layReading.2.2.1 62 = .ok (.getfield 38, 3) := by decide +kernel
theorem d_M_layReading_65 : decode zm_M_layReading.2.2.1 65 = .ok (.iload 4, 2) := by decide +kernel
theorem d_M_layReading_67 : decode zm_M_layReading.2.2.1 67 = .ok (.iaload, 1) := by decide +kernel
theorem d_M_layReading_68 : decode zm_M_layReading.2.2.1 68 = .ok (.ifCond .ne 12, 3) := by decide +kernel
theorem d_M_layReading_71 : decode zm_M_layReading.2.2.1 71 = .ok (.aload_n 0, 1) := by decide +kernel
theorem d_M_layReading_72 : decode zm_M_layReading.2.2.1 72 = .ok (.iload_n 1, 1) := by decide +kernel
theorem d_M_layReading_73 : decode zm_M_layReading.2.2.1 73 = .ok (.iload_n 3, 1) := by decide +kernel
theorem d_M_layReading_74 : decode zm_M_layReading.2.2.1 74 = .ok (.invokevirtual 108, 3) := by decide +kernel
theorem d_M_layReading_77 : decode zm_M_layReading.2.2.1 77 = .ok (.goto 4, 3) := by decide +kernel
theorem d_M_layReading_80 : decode zm_M_layReading.2.2.1 80 = .ok (.iconst (-1), 1) := by decide +kernel
theorem d_M_layReading_81 : decode zm_M_layReading.2.2.1 81 = .ok (.iastore, 1) := by decide +kernel
theorem d_M_layReading_82 : decode zm_M_layReading.2.2.1 82 = .ok (.iinc 2 1, 3) := by decide +kernel
theorem d_M_layReading_85 : decode zm_M_layReading.2.2.1 85 = .ok (.iload_n 3, 1) := by decide +kernel
theorem d_M_layReading_86 : decode zm_M_layReading.2.2.1 86 = .ok (.aload_n 0, 1) := by decide +kernel
theorem d_M_layReading_87 : decode zm_M_layReading.2.2.1 87 = .ok (.getfield 38, 3) := by decide +kernel
theorem d_M_layReading_90 : decode zm_M_layReading.2.2.1 90 = .ok (.iload 4, 2) := by decide +kernel
theorem d_M_layReading_92 : decode zm_M_layReading.2.2.1 92 = .ok (.iaload, 1) := by decide +kernel
theorem d_M_layReading_93 : decode zm_M_layReading.2.2.1 93 = .ok (.iconst 1, 1) := by decide +kernel
theorem d_M_layReading_94 : decode zm_M_layReading.2.2.1 94 = .ok (.if_icmp .ne 7, 3) := by decide +kernel
theorem d_M_layReading_97 : decode zm_M_layReading.2.2.1 97 = .ok (.iconst 0, 1) := by decide +kernel
theorem d_M_layReading_98 : decode zm_M_layReading.2.2.1 98 = .ok (.goto 4, 3) := by decide +kernel
theorem d_M_layReading_101 : decode zm_M_layReading.2.2.1 101 = .ok (.iconst 1, 1) := by decide +kernel
theorem d_M_layReading_102 : decode zm_M_layReading.2.2.1 102 = .ok (.iadd, 1) := by decide +kernel
theorem d_M_layReading_103 : decode zm_M_layReading.2.2.1 103 = .ok (.istore_n 3, 1) := by decide +kernel
theorem d_M_layReading_104 : decode zm_M_layReading.2.2.1 104 = .ok (.iinc 4 1, 3) := by decide +kernel
theorem d_M_layReading_107 : decode zm_M_layReading.2.2.1 107 = .ok (.goto (-76), 3) := by decide +kernel
theorem d_M_layReading_110 : decode zm_M_layReading.2.2.1 110 = .ok (.return_, 1) := by decide +kernel
theorem d_M_places_0 : decode zm_M_places.2.2.1 0 = .ok (.aload_n 0, 1) := by decide +kernel
theorem d_M_places_1 : decode zm_M_places.2.2.1 1 = .ok (.getfield 86, 3) := by decide +kernel
theorem d_M_places_4 : decode zm_M_places.2.2.1 4 = .ok (.ifCond .le 12, 3) := by decide +kernel
theorem d_M_places_7 : decode zm_M_places.2.2.1 7 = .ok (.aload_n 0, 1) := by decide +kernel
theorem d_M_places_8 : decode zm_M_places.2.2.1 8 = .ok (.getfield 13, 3) := by decide +kernel
theorem d_M_places_11 : decode zm_M_places.2.2.1 11 = .ok (.iconst 0, 1) := by decide +kernel
theorem d_M_places_12 : decode zm_M_places.2.2.1 12 = .ok (.iaload, 1) := by decide +kernel
theorem d_M_places_13 : decode zm_M_places.2.2.1 13 = .ok (.goto 4, 3) := by decide +kernel
theorem d_M_places_16 : decode zm_M_places.2.2.1 16 = .ok (.iconst 0, 1) := by decide +kernel
theorem d_M_places_17 : decode zm_M_places.2.2.1 17 = .ok (.ireturn, 1) := by decide +kernel
theorem d_M_unlike_0 : decode zm_M_unlike.2.2.1 0 = .ok (.iconst 0, 1) := by decide +kernel
theorem d_M_unlike_1 : decode zm_M_unlike.2.2.1 1 = .ok (.istore_n 3, 1) := by decide +kernel
theorem d_M_unlike_2 : decode zm_M_unlike.2.2.1 2 = .ok (.iconst 0, 1) := by decide +kernel
theorem d_M_unlike_3 : decode zm_M_unlike.2.2.1 3 = .ok (.istore 4, 2) := by decide +kernel
theorem d_M_unlike_5 : decode zm_M_unlike.2.2.1 5 = .ok (.iload 4, 2) := by decide +kernel
theorem d_M_unlike_7 : decode zm_M_unlike.2.2.1 7 = .ok (.aload_n 0, 1) := by decide +kernel
theorem d_M_unlike_8 : decode zm_M_unlike.2.2.1 8 = .ok (.invokevirtual 141, 3) := by decide +kernel
theorem d_M_unlike_11 : decode zm_M_unlike.2.2.1 11 = .ok (.if_icmp .ge 44, 3) := by decide +kernel
theorem d_M_unlike_14 : decode zm_M_unlike.2.2.1 14 = .ok (.iload_n 3, 1) := by decide +kernel
theorem d_M_unlike_15 : decode zm_M_unlike.2.2.1 15 = .ok (.aload_n 0, 1) := by decide +kernel
theorem d_M_unlike_16 : decode zm_M_unlike.2.2.1 16 = .ok (.getfield 41, 3) := by decide +kernel
theorem d_M_unlike_19 : decode zm_M_unlike.2.2.1 19 = .ok (.bipush 24, 2) := by decide +kernel
theorem d_M_unlike_21 : decode zm_M_unlike.2.2.1 21 = .ok (.iload_n 1, 1) := by decide +kernel
theorem d_M_unlike_22 : decode zm_M_unlike.2.2.1 22 = .ok (.imul, 1) := by decide +kernel
theorem d_M_unlike_23 : decode zm_M_unlike.2.2.1 23 = .ok (.iload 4, 2) := by decide +kernel
theorem d_M_unlike_25 : decode zm_M_unlike.2.2.1 25 = .ok (.iadd, 1) := by decide +kernel
theorem d_M_unlike_26 : decode zm_M_unlike.2.2.1 26 = .ok (.iaload, 1) := by decide +kernel
theorem d_M_unlike_27 : decode zm_M_unlike.2.2.1 27 = .ok (.aload_n 0, 1) := by decide +kernel
theorem d_M_unlike_28 : decode zm_M_unlike.2.2.1 28 = .ok (.getfield 41, 3) := by decide +kernel
theorem d_M_unlike_31 : decode zm_M_unlike.2.2.1 31 = .ok (.bipush 24, 2) := by decide +kernel
theorem d_M_unlike_33 : decode zm_M_unlike.2.2.1 33 = .ok (.iload_n 2, 1) := by decide +kernel
theorem d_M_unlike_34 : decode zm_M_unlike.2.2.1 34 = .ok (.imul, 1) := by decide +kernel
theorem d_M_unlike_35 : decode zm_M_unlike.2.2.1 35 = .ok (.iload 4, 2) := by decide +kernel
theorem d_M_unlike_37 : decode zm_M_unlike.2.2.1 37 = .ok (.iadd, 1) := by decide +kernel
theorem d_M_unlike_38 : decode zm_M_unlike.2.2.1 38 = .ok (.iaload, 1) := by decide +kernel
theorem d_M_unlike_39 : decode zm_M_unlike.2.2.1 39 = .ok (.if_icmp .ne 7, 3) := by decide +kernel
theorem d_M_unlike_42 : decode zm_M_unlike.2.2.1 42 = .ok (.iconst 0, 1) := by decide +kernel
theorem d_M_unlike_43 : decode zm_M_unlike.2.2.1 43 = .ok (.goto 4, 3) := by decide +kernel
theorem d_M_unlike_46 : decode zm_M_unlike.2.2.1 46 = .ok (.iconst 1, 1) := by decide +kernel
theorem d_M_unlike_47 : decode zm_M_unlike.2.2.1 47 = .ok (.iadd, 1) := by decide +kernel
theorem d_M_unlike_48 : decode zm_M_unlike.2.2.1 48 = .ok (.istore_n 3, 1) := by decide +kernel
theorem d_M_unlike_49 : decode zm_M_unlike.2.2.1 49 = .ok (.iinc 4 1, 3) := by decide +kernel
theorem d_M_unlike_52 : decode zm_M_unlike.2.2.1 52 = .ok (.goto (-47), 3) := by decide +kernel
theorem d_M_unlike_55 : decode zm_M_unlike.2.2.1 55 = .ok (.iload_n 3, 1) := by decide +kernel
theorem d_M_unlike_56 : decode zm_M_unlike.2.2.1 56 = .ok (.ireturn, 1) := by decide +kernel
theorem d_M_farNow_0 : decode zm_M_farNow.2.2.1 0 = .ok (.aload_n 0, 1) := by decide +kernel
theorem d_M_farNow_1 : decode zm_M_farNow.2.2.1 1 = .ok (.aload_n 0, 1) := by decide +kernel
theorem d_M_farNow_2 : decode zm_M_farNow.2.2.1 2 = .ok (.getfield 51, 3) := by decide +kernel
theorem d_M_farNow_5 : decode zm_M_farNow.2.2.1 5 = .ok (.iload_n 1, 1) := by decide +kernel
theorem d_M_farNow_6 : decode zm_M_farNow.2.2.1 6 = .ok (.iaload, 1) := by decide +kernel
theorem d_M_farNow_7 : decode zm_M_farNow.2.2.1 7 = .ok (.aload_n 0, 1) := by decide +kernel
theorem d_M_farNow_8 : decode zm_M_farNow.2.2.1 8 = .ok (.getfield 51, 3) := by decide +kernel
theorem d_M_farNow_11 : decode zm_M_farNow.2.2.1 11 = .ok (.iload_n 2, 1) := by decide +kernel
theorem d_M_farNow_12 : decode zm_M_farNow.2.2.1 12 = .ok (.iaload, 1) := by decide +kernel
theorem d_M_farNow_13 : decode zm_M_farNow.2.2.1 13 = .ok (.invokevirtual 145, 3) := by decide +kernel
theorem d_M_farNow_16 : decode zm_M_farNow.2.2.1 16 = .ok (.ireturn, 1) := by decide +kernel
theorem d_M_layStates_0 : decode zm_M_layStates.2.2.1 0 = .ok (.aload_n 0, 1) := by decide +kernel
theorem d_M_layStates_1 : decode zm_M_layStates.2.2.1 1 = .ok (.iconst 0, 1) := by decide +kernel
theorem d_M_layStates_2 : decode zm_M_layStates.2.2.1 2 = .ok (.putfield 148, 3) := by decide +kernel
theorem d_M_layStates_5 : decode zm_M_layStates.2.2.1 5 = .ok (.iconst 0, 1) := by decide +kernel
theorem d_M_layStates_6 : decode zm_M_layStates.2.2.1 6 = .ok (.istore_n 1, 1) := by decide +kernel
theorem d_M_layStates_7 : decode zm_M_layStates.2.2.1 7 = .ok (.iload_n 1, 1) := by decide +kernel
theorem d_M_layStates_8 : decode zm_M_layStates.2.2.1 8 = .ok (.aload_n 0, 1) := by decide +kernel
theorem d_M_layStates_9 : decode zm_M_layStates.2.2.1 9 = .ok (.getfield 86, 3) := by decide +kernel
theorem d_M_layStates_12 : decode zm_M_layStates.2.2.1 12 = .ok (.if_icmp .ge 135, 3) := by decide +kernel
theorem d_M_layStates_15 : decode zm_M_layStates.2.2.1 15 = .ok (.aload_n 0, 1) := by decide +kernel
theorem d_M_layStates_16 : decode zm_M_layStates.2.2.1 16 = .ok (.iload_n 1, 1) := by decide +kernel
theorem d_M_layStates_17 : decode zm_M_layStates.2.2.1 17 = .ok (.invokevirtual 151, 3) := by decide +kernel
theorem d_M_layStates_20 : decode zm_M_layStates.2.2.1 20 = .ok (.aload_n 0, 1) := by decide +kernel
theorem d_M_layStates_21 : decode zm_M_layStates.2.2.1 21 = .ok (.getfield 48, 3) := by decide +kernel
theorem d_M_layStates_24 : decode zm_M_layStates.2.2.1 24 = .ok (.iload_n 1, 1) := by decide +kernel
theorem d_M_layStates_25 : decode zm_M_layStates.2.2.1 25 = .ok (.iconst (-1), 1) := by decide +kernel
theorem d_M_layStates_26 : decode zm_M_layStates.2.2.1 26 = .ok (.iastore, 1) := by decide +kernel
theorem d_M_layStates_27 : decode zm_M_layStates.2.2.1 27 = .ok (.iconst 0, 1) := by decide +kernel
theorem d_M_layStates_28 : decode zm_M_layStates.2.2.1 28 = .ok (.istore_n 2, 1) := by decide +kernel
theorem d_M_layStates_29 : decode zm_M_layStates.2.2.1 29 = .ok (.iload_n 2, 1) := by decide +kernel
theorem d_M_layStates_30 : decode zm_M_layStates.2.2.1 30 = .ok (.aload_n 0, 1) := by decide +kernel
theorem d_M_layStates_31 : decode zm_M_layStates.2.2.1 31 = .ok (.getfield 148, 3) := by decide +kernel
theorem d_M_layStates_34 : decode zm_M_layStates.2.2.1 34 = .ok (.if_icmp .ge 58, 3) := by decide +kernel
theorem d_M_layStates_37 : decode zm_M_layStates.2.2.1 37 = .ok (.aload_n 0, 1) := by decide +kernel
theorem d_M_layStates_38 : decode zm_M_layStates.2.2.1 38 = .ok (.getfield 44, 3) := by decide +kernel
theorem d_M_layStates_41 : decode zm_M_layStates.2.2.1 41 = .ok (.iload_n 1, 1) := by decide +kernel
theorem d_M_layStates_42 : decode zm_M_layStates.2.2.1 42 = .ok (.baload, 1) := by decide +kernel
theorem d_M_layStates_43 : decode zm_M_layStates.2.2.1 43 = .ok (.ifCond .ne 49, 3) := by decide +kernel
theorem d_M_layStates_46 : decode zm_M_layStates.2.2.1 46 = .ok (.aload_n 0, 1) := by decide +kernel
theorem d_M_layStates_47 : decode zm_M_layStates.2.2.1 47 = .ok (.getfield 48, 3) := by decide +kernel
theorem d_M_layStates_50 : decode zm_M_layStates.2.2.1 50 = .ok (.iload_n 1, 1) := by decide +kernel
theorem d_M_layStates_51 : decode zm_M_layStates.2.2.1 51 = .ok (.aload_n 0, 1) := by decide +kernel
theorem d_M_layStates_52 : decode zm_M_layStates.2.2.1 52 = .ok (.getfield 48, 3) := by decide +kernel
theorem d_M_layStates_55 : decode zm_M_layStates.2.2.1 55 = .ok (.iload_n 1, 1) := by decide +kernel
theorem d_M_layStates_56 : decode zm_M_layStates.2.2.1 56 = .ok (.iaload, 1) := by decide +kernel
theorem d_M_layStates_57 : decode zm_M_layStates.2.2.1 57 = .ok (.iconst (-1), 1) := by decide +kernel
theorem d_M_layStates_58 : decode zm_M_layStates.2.2.1 58 = .ok (.if_icmp .ne 21, 3) := by decide +kernel
theorem d_M_layStates_61 : decode zm_M_layStates.2.2.1 61 = .ok (.aload_n 0, 1) := by decide +kernel
theorem d_M_layStates_62 : decode zm_M_layStates.2.2.1 62 = .ok (.aload_n 0, 1) := by decide +kernel
theorem d_M_layStates_63 : decode zm_M_layStates.2.2.1 63 = .ok (.getfield 51, 3) := by decide +kernel
theorem d_M_layStates_66 : decode zm_M_layStates.2.2.1 66 = .ok (.iload_n 2, 1) := by decide +kernel
theorem d_M_layStates_67 : decode zm_M_layStates.2.2.1 67 = .ok (.iaload, 1) := by decide +kernel
theorem d_M_layStates_68 : decode zm_M_layStates.2.2.1 68 = .ok (.iload_n 1, 1) := by decide +kernel
theorem d_M_layStates_69 : decode zm_M_layStates.2.2.1 69 = .ok (.invokevirtual 145, 3) := by decide +kernel
theorem d_M_layStates_72 : decode zm_M_layStates.2.2.1 72 = .ok (.ifCond .ne 7, 3) := by decide +kernel
theorem d_M_layStates_75 : decode zm_M_layStates.2.2.1 75 = .ok (.iload_n 2, 1) := by decide +kernel
theorem d_M_layStates_76 : decode zm_M_layStates.2.2.1 76 = .ok (.goto 9, 3) := by decide +kernel
theorem d_M_layStates_79 : decode zm_M_layStates.2.2.1 79 = .ok (.aload_n 0, 1) := by decide +kernel
theorem d_M_layStates_80 : decode zm_M_layStates.2.2.1 80 = .ok (.getfield 48, 3) := by decide +kernel
theorem d_M_layStates_83 : decode zm_M_layStates.2.2.1 83 = .ok (.iload_n 1, 1) := by decide +kernel
theorem d_M_layStates_84 : decode zm_M_layStates.2.2.1 84 = .ok (.iaload, 1) := by decide +kernel
theorem d_M_layStates_85 : decode zm_M_layStates.2.2.1 85 = .ok (.iastore, 1) := by decide +kernel
theorem d_M_layStates_86 : decode zm_M_layStates.2.2.1 86 = .ok (.iinc 2 1, 3) := by decide +kernel
theorem d_M_layStates_89 : decode zm_M_layStates.2.2.1 89 = .ok (.goto (-60), 3) := by decide +kernel
theorem d_M_layStates_92 : decode zm_M_layStates.2.2.1 92 = .ok (.aload_n 0, 1) := by decide +kernel
theorem d_M_layStates_93 : decode zm_M_layStates.2.2.1 93 = .ok (.getfield 44, 3) := by decide +kernel
theorem d_M_layStates_96 : decode zm_M_layStates.2.2.1 96 = .ok (.iload_n 1, 1) := by decide +kernel
theorem d_M_layStates_97 : decode zm_M_layStates.2.2.1 97 = .ok (.baload, 1) := by decide +kernel
theorem d_M_layStates_98 : decode zm_M_layStates.2.2.1 98 = .ok (.ifCond .ne 43, 3) := by decide +kernel
theorem d_M_layStates_101 : decode zm_M_layStates.2.2.1 101 = .ok (.aload_n 0, 1) := by decide +kernel
theorem d_M_layStates_102 : decode zm_M_layStates.2.2.1 102 = .ok (.getfield 48, 3) := by decide +kernel
theorem d_M_layStates_105 : decode zm_M_layStates.2.2.1 105 = .ok (.iload_n 1, 1) := by decide +kernel
theorem d_M_layStates_106 : decode zm_M_layStates.2.2.1 106 = .ok (.iaload, 1) := by decide +kernel
theorem d_M_layStates_107 : decode zm_M_layStates.2.2.1 107 = .ok (.iconst (-1), 1) := by decide +kernel
theorem d_M_layStates_108 : decode zm_M_layStates.2.2.1 108 = .ok (.if_icmp .ne 33, 3) := by decide +kernel
theorem d_M_layStates_111 : decode zm_M_layStates.2.2.1 111 = .ok (.aload_n 0, 1) := by decide +kernel
theorem d_M_layStates_112 : decode zm_M_layStates.2.2.1 112 = .ok (.getfield 48, 3) := by decide +kernel
theorem d_M_layStates_115 : decode zm_M_layStates.2.2.1 115 = .ok (.iload_n 1, 1) := by decide +kernel
theorem d_M_layStates_116 : decode zm_M_layStates.2.2.1 116 = .ok (.aload_n 0, 1) := by decide +kernel
theorem d_M_layStates_117 : decode zm_M_layStates.2.2.1 117 = .ok (.getfield 148, 3) := by decide +kernel
theorem d_M_layStates_120 : decode zm_M_layStates.2.2.1 120 = .ok (.iastore, 1) := by decide +kernel
theorem d_M_layStates_121 : decode zm_M_layStates.2.2.1 121 = .ok (.aload_n 0, 1) := by decide +kernel
theorem d_M_layStates_122 : decode zm_M_layStates.2.2.1 122 = .ok (.getfield 51, 3) := by decide +kernel
theorem d_M_layStates_125 : decode zm_M_layStates.2.2.1 125 = .ok (.aload_n 0, 1) := by decide +kernel
theorem d_M_layStates_126 : decode zm_M_layStates.2.2.1 126 = .ok (.getfield 148, 3) := by decide +kernel
theorem d_M_layStates_129 : decode zm_M_layStates.2.2.1 129 = .ok (.iload_n 1, 1) := by decide +kernel
theorem d_M_layStates_130 : decode zm_M_layStates.2.2.1 130 = .ok (.iastore, 1) := by decide +kernel
theorem d_M_layStates_131 : decode zm_M_layStates.2.2.1 131 = .ok (.aload_n 0, 1) := by decide +kernel
theorem d_M_layStates_132 : decode zm_M_layStates.2.2.1 132 = .ok (.dup, 1) := by decide +kernel
theorem d_M_layStates_133 : decode zm_M_layStates.2.2.1 133 = .ok (.getfield 148, 3) := by decide +kernel
theorem d_M_layStates_136 : decode zm_M_layStates.2.2.1 136 = .ok (.iconst 1, 1) := by decide +kernel
theorem d_M_layStates_137 : decode zm_M_layStates.2.2.1 137 = .ok (.iadd, 1) := by decide +kernel
theorem d_M_layStates_138 : decode zm_M_layStates.2.2.1 138 = .ok (.putfield 148, 3) := by decide +kernel
theorem d_M_layStates_141 : decode zm_M_layStates.2.2.1 141 = .ok (.iinc 1 1, 3) := by decide +kernel
theorem d_M_layStates_144 : decode zm_M_layStates.2.2.1 144 = .ok (.goto (-137), 3) := by decide +kernel
theorem d_M_layStates_147 : decode zm_M_layStates.2.2.1 147 = .ok (.aload_n 0, 1) := by decide +kernel
theorem d_M_layStates_148 : decode zm_M_layStates.2.2.1 148 = .ok (.invokevirtual 154, 3) := by decide +kernel
theorem d_M_layStates_151 : decode zm_M_layStates.2.2.1 151 = .ok (.return_, 1) := by decide +kernel
