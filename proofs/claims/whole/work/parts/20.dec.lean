theorem d_Text_size_0 : decode zm_Text_size.2.2.1 0 = .ok (.aload_n 0, 1) := by decide +kernel
theorem d_Text_size_1 : decode zm_Text_size.2.2.1 1 = .ok (.getfield 15, 3) := by decide +kernel
theorem d_Text_size_4 : decode zm_Text_size.2.2.1 4 = .ok (.ireturn, 1) := by decide +kernel
theorem d_Text_has_0 : decode zm_Text_has.2.2.1 0 = .ok (.iload_n 1, 1) := by decide +kernel
theorem d_Text_has_1 : decode zm_Text_has.2.2.1 1 = .ok (.ifCond .lt 15, 3) := by decide +kernel
theorem d_Text_has_4 : decode zm_Text_has.2.2.1 4 = .ok (.iload_n 1, 1) := by decide +kernel
theorem d_Text_has_5 : decode zm_Text_has.2.2.1 5 = .ok (.aload_n 0, 1) := by decide +kernel
theorem d_Text_has_6 : decode zm_Text_has.2.2.1 6 = .ok (.getfield 15, 3) := by decide +kernel
theorem d_Text_has_9 : decode zm_Text_has.2.2.1 9 = .ok (.if_icmp .ge 7, 3) := by decide +kernel
theorem d_Text_has_12 : decode zm_Text_has.2.2.1 12 = .ok (.iconst 1, 1) := by decide +kernel
theorem d_Text_has_13 : decode zm_Text_has.2.2.1 13 = .ok (.goto 4, 3) := by decide +kernel
theorem d_Text_has_16 : decode zm_Text_has.2.2.1 16 = .ok (.iconst 0, 1) := by decide +kernel
theorem d_Text_has_17 : decode zm_Text_has.2.2.1 17 = .ok (.ireturn, 1) := by decide +kernel
theorem d_Text_at_0 : decode zm_Text_at.2.2.1 0 = .ok (.iload_n 1, 1) := by decide +kernel
theorem d_Text_at_1 : decode zm_Text_at.2.2.1 1 = .ok (.ifCond .lt 20, 3) := by decide +kernel
theorem d_Text_at_4 : decode zm_Text_at.2.2.1 4 = .ok (.iload_n 1, 1) := by decide +kernel
theorem d_Text_at_5 : decode zm_Text_at.2.2.1 5 = .ok (.aload_n 0, 1) := by decide +kernel
theorem d_Text_at_6 : decode zm_Text_at.2.2.1 6 = .ok (.getfield 15, 3) := by decide +kernel
theorem d_Text_at_9 : decode zm_Text_at.2.2.1 9 = .ok (.if_icmp .ge 12, 3) := by decide +kernel
theorem d_Text_at_12 : decode zm_Text_at.2.2.1 12 = .ok (.aload_n 0, 1) := by decide +kernel
theorem d_Text_at_13 : decode zm_Text_at.2.2.1 13 = .ok (.getfield 9, 3) := by decide +kernel
theorem d_Text_at_16 : decode zm_Text_at.2.2.1 16 = .ok (.iload_n 1, 1) := by decide +kernel
theorem d_Text_at_17 : decode zm_Text_at.2.2.1 17 = .ok (.iaload, 1) := by decide +kernel
theorem d_Text_at_18 : decode zm_Text_at.2.2.1 18 = .ok (.goto 4, 3) := by decide +kernel
theorem d_Text_at_21 : decode zm_Text_at.2.2.1 21 = .ok (.iconst (-1), 1) := by decide +kernel
theorem d_Text_at_22 : decode zm_Text_at.2.2.1 22 = .ok (.ireturn, 1) := by decide +kernel
theorem d_Text_append_0 : decode zm_Text_append.2.2.1 0 = .ok (.aload_n 0, 1) := by decide +kernel
theorem d_Text_append_1 : decode zm_Text_append.2.2.1 1 = .ok (.getfield 15, 3) := by decide +kernel
theorem d_Text_append_4 : decode zm_Text_append.2.2.1 4 = .ok (.aload_n 0, 1) := by decide +kernel
theorem d_Text_append_5 : decode zm_Text_append.2.2.1 5 = .ok (.getfield 9, 3) := by decide +kernel
theorem d_Text_append_8 : decode zm_Text_append.2.2.1 8 = .ok (.arraylength, 1) := by decide +kernel
theorem d_Text_append_9 : decode zm_Text_append.2.2.1 9 = .ok (.if_icmp .ge 23, 3) := by decide +kernel
theorem d_Text_append_12 : decode zm_Text_append.2.2.1 12 = .ok (.aload_n 0, 1) := by decide +kernel
theorem d_Text_append_13 : decode zm_Text_append.2.2.1 13 = .ok (.getfield 9, 3) := by decide +kernel
theorem d_Text_append_16 : decode zm_Text_append.2.2.1 16 = .ok (.aload_n 0, 1) := by decide +kernel
theorem d_Text_append_17 : decode zm_Text_append.2.2.1 17 = .ok (.getfield 15, 3) := by decide +kernel
theorem d_Text_append_20 : decode zm_Text_append.2.2.1 20 = .ok (.iload_n 1, 1) := by decide +kernel
theorem d_Text_append_21 : decode zm_Text_append.2.2.1 21 = .ok (.iastore, 1) := by decide +kernel
theorem d_Text_append_22 : decode zm_Text_append.2.2.1 22 = .ok (.aload_n 0, 1) := by decide +kernel
theorem d_Text_append_23 : decode zm_Text_append.2.2.1 23 = .ok (.dup, 1) := by decide +kernel
theorem d_Text_append_24 : decode zm_Text_append.2.2.1 24 = .ok (.getfield 15, 3) := by decide +kernel
theorem d_Text_append_27 : decode zm_Text_append.2.2.1 27 = .ok (.iconst 1, 1) := by decide +kernel
theorem d_Text_append_28 : decode zm_Text_append.2.2.1 28 = .ok (.iadd, 1) := by decide +kernel
theorem d_Text_append_29 : decode zm_Text_append.2.2.1 29 = .ok (.putfield 15, 3) := by decide +kernel
theorem d_Text_append_32 : decode zm_Text_append.2.2.1 32 = .ok (.return_, 1) := by decide +kernel
theorem d_Text_clear_0 : decode zm_Text_clear.2.2.1 0 = .ok (.aload_n 0, 1) := by decide +kernel
theorem d_Text_clear_1 : decode zm_Text_clear.2.2.1 1 = .ok (.iconst 0, 1) := by decide +kernel
theorem d_Text_clear_2 : decode zm_Text_clear.2.2.1 2 = .ok (.putfield 15, 3) := by decide +kernel
theorem d_Text_clear_5 : decode zm_Text_clear.2.2.1 5 = .ok (.return_, 1) := by decide +kernel
theorem d_Text_takeFrom_0 : decode zm_Text_takeFrom.2.2.1 0 = .ok (.aload_n 0, 1) := by decide +kernel
theorem d_Text_takeFrom_1 : decode zm_Text_takeFrom.2.2.1 1 = .ok (.iconst 0, 1) := by decide +kernel
theorem d_Text_takeFrom_2 : decode zm_Text_takeFrom.2.2.1 2 = .ok (.putfield 15, 3) := by decide +kernel
theorem d_Text_takeFrom_5 : decode zm_Text_takeFrom.2.2.1 5 = .ok (.iconst 0, 1) := by decide +kernel
theorem d_Text_takeFrom_6 : decode zm_Text_takeFrom.2.2.1 6 = .ok (.istore_n 2, 1) := by decide +kernel
theorem d_Text_takeFrom_7 : decode zm_Text_takeFrom.2.2.1 7 = .ok (.iload_n 2, 1) := by decide +kernel
theorem d_Text_takeFrom_8 : decode zm_Text_takeFrom.2.2.1 8 = .ok (.aload_n 1, 1) := by decide +kernel
theorem d_Text_takeFrom_9 : decode zm_Text_takeFrom.2.2.1 9 = .ok (.invokevirtual 19, 3) := by decide +kernel
theorem d_Text_takeFrom_12 : decode zm_Text_takeFrom.2.2.1 12 = .ok (.if_icmp .ge 18, 3) := by decide +kernel
theorem d_Text_takeFrom_15 : decode zm_Text_takeFrom.2.2.1 15 = .ok (.aload_n 0, 1) := by decide +kernel
theorem d_Text_takeFrom_16 : decode zm_Text_takeFrom.2.2.1 16 = .ok (.aload_n 1, 1) := by decide +kernel
theorem d_Text_takeFrom_17 : decode zm_Text_takeFrom.2.2.1 17 = .ok (.iload_n 2, 1) := by decide +kernel
theorem d_Text_takeFrom_18 : decode zm_Text_takeFrom.2.2.1 18 = .ok (.invokevirtual 23, 3) := by decide +kernel
theorem d_Text_takeFrom_21 : decode zm_Text_takeFrom.2.2.1 21 = .ok (.invokevirtual 27, 3) := by decide +kernel
theorem d_Text_takeFrom_24 : decode zm_Text_takeFrom.2.2.1 24 = .ok (.iinc 2 1, 3) := by decide +kernel
theorem d_Text_takeFrom_27 : decode zm_Text_takeFrom.2.2.1 27 = .ok (.goto (-20), 3) := by decide +kernel
theorem d_Text_takeFrom_30 : decode zm_Text_takeFrom.2.2.1 30 = .ok (.return_, 1) := by decide +kernel
theorem d_Text_isWord_0 : decode zm_Text_isWord.2.2.1 0 = .ok (.iconst 0, 1) := by decide +kernel
theorem d_Text_isWord_1 : decode zm_Text_isWord.2.2.1 1 = .ok (.istore_n 1, 1) := by decide +kernel
theorem d_Text_isWord_2 : decode zm_Text_isWord.2.2.1 2 = .ok (.iload_n 1, 1) := by decide +kernel
theorem d_Text_isWord_3 : decode zm_Text_isWord.2.2.1 3 = .ok (.aload_n 0, 1) := by decide +kernel
theorem d_Text_isWord_4 : decode zm_Text_isWord.2.2.1 4 = .ok (.getfield 15, 3) := by decide +kernel
theorem d_Text_isWord_7 : decode zm_Text_isWord.2.2.1 7 = .ok (.if_icmp .ge 33, 3) := by decide +kernel
theorem d_Text_isWord_10 : decode zm_Text_isWord.2.2.1 10 = .ok (.aload_n 0, 1) := by decide +kernel
theorem d_Text_isWord_11 : decode zm_Text_isWord.2.2.1 11 = .ok (.getfield 9, 3) := by decide +kernel
theorem d_Text_isWord_14 : decode zm_Text_isWord.2.2.1 14 = .ok (.iload_n 1, 1) := by decide +kernel
theorem d_Text_isWord_15 : decode zm_Text_isWord.2.2.1 15 = .ok (.iaload, 1) := by decide +kernel
theorem d_Text_isWord_16 : decode zm_Text_isWord.2.2.1 16 = .ok (.bipush 97, 2) := by decide +kernel
theorem d_Text_isWord_18 : decode zm_Text_isWord.2.2.1 18 = .ok (.if_icmp .lt 14, 3) := by decide +kernel
theorem d_Text_isWord_21 : decode zm_Text_isWord.2.2.1 21 = .ok (.aload_n 0, 1) := by decide +kernel
theorem d_Text_isWord_22 : decode zm_Text_isWord.2.2.1 22 = .ok (.getfield 9, 3) := by decide +kernel
theorem d_Text_isWord_25 : decode zm_Text_isWord.2.2.1 25 = .ok (.iload_n 1, 1) := by decide +kernel
theorem d_Text_isWord_26 : decode zm_Text_isWord.2.2.1 26 = .ok (.iaload, 1) := by decide +kernel
theorem d_Text_isWord_27 : decode zm_Text_isWord.2.2.1 27 = .ok (.bipush 122, 2) := by decide +kernel
theorem d_Text_isWord_29 : decode zm_Text_isWord.2.2.1 29 = .ok (.if_icmp .le 5, 3) := by decide +kernel
theorem d_Text_isWord_32 : decode zm_Text_isWord.2.2.1 32 = .ok (.iconst 0, 1) := by decide +kernel
theorem d_Text_isWord_33 : decode zm_Text_isWord.2.2.1 33 = .ok (.ireturn, 1) := by decide +kernel
theorem d_Text_isWord_34 : decode zm_Text_isWord.2.2.1 34 = .ok (.iinc 1 1, 3) := by decide +kernel
theorem d_Text_isWord_37 : decode zm_Text_isWord.2.2.1 37 = .ok (.goto (-35), 3) := by decide +kernel
theorem d_Text_isWord_40 : decode zm_Text_isWord.2.2.1 40 = .ok (.aload_n 0, 1) := by decide +kernel
theorem d_Text_isWord_41 : decode zm_Text_isWord.2.2.1 41 = .ok (.getfield 15, 3) := by decide +kernel
theorem d_Text_isWord_44 : decode zm_Text_isWord.2.2.1 44 = .ok (.ifCond .le 7, 3) := by decide +kernel
theorem d_Text_isWord_47 : decode zm_Text_isWord.2.2.1 47 = .ok (.iconst 1, 1) := by decide +kernel
theorem d_Text_isWord_48 : decode zm_Text_isWord.2.2.1 48 = .ok (.goto 4, 3) := by decide +kernel
theorem d_Text_isWord_51 : decode zm_Text_isWord.2.2.1 51 = .ok (.iconst 0, 1) := by decide +kernel
theorem d_Text_isWord_52 : decode zm_Text_isWord.2.2.1 52 = .ok (.ireturn, 1) := by decide +kernel
theorem d_Alignment_isKnown_0 : decode zm_Alignment_isKnown.2.2.1 0 = .ok (.aload_n 0, 1) := by decide +kernel
theorem d_Alignment_isKnown_1 : decode zm_Alignment_isKnown.2.2.1 1 = .ok (.getfield 18, 3) := by decide +kernel
theorem d_Alignment_isKnown_4 : decode zm_Alignment_isKnown.2.2.1 4 = .ok (.ireturn, 1) := by decide +kernel
theorem d_Alignment_isFound_0 : decode zm_Alignment_isFound.2.2.1 0 = .ok (.aload_n 0, 1) := by decide +kernel
theorem d_Alignment_isFound_1 : decode zm_Alignment_isFound.2.2.1 1 = .ok (.getfield 22, 3) := by decide +kernel
theorem d_Alignment_isFound_4 : decode zm_Alignment_isFound.2.2.1 4 = .ok (.ireturn, 1) := by decide +kernel
theorem d_Alignment_forget_0 : decode zm_Alignment_forget.2.2.1 0 = .ok (.aload_n 0, 1) := by decide +kernel
theorem d_Alignment_forget_1 : decode zm_Alignment_forget.2.2.1 1 = .ok (.iconst 0, 1) := by decide +kernel
theorem d_Alignment_forget_2 : decode zm_Alignment_forget.2.2.1 2 = .ok (.putfield 18, 3) := by decide +kernel
theorem d_Alignment_forget_5 : decode zm_Alignment_forget.2.2.1 5 = .ok (.return_, 1) := by decide +kernel
theorem d_Alignment_begin_0 : decode zm_Alignment_begin.2.2.1 0 = .ok (.aload_n 0, 1) := by decide +kernel
theorem d_Alignment_begin_1 : decode zm_Alignment_begin.2.2.1 1 = .ok (.iconst 1, 1) := by decide +kernel
theorem d_Alignment_begin_2 : decode zm_Alignment_begin.2.2.1 2 = .ok (.putfield 18, 3) := by decide +kernel
theorem d_Alignment_begin_5 : decode zm_Alignment_begin.2.2.1 5 = .ok (.aload_n 0, 1) := by decide +kernel
theorem d_Alignment_begin_6 : decode zm_Alignment_begin.2.2.1 6 = .ok (.iload_n 1, 1) := by decide +kernel
theorem d_Alignment_begin_7 : decode zm_Alignment_begin.2.2.1 7 = .ok (.putfield 22, 3) := by decide +kernel
theorem d_Alignment_begin_10 : decode zm_Alignment_begin.2.2.1 10 = .ok (.iconst 0, 1) := by decide +kernel
theorem d_Alignment_begin_11 : decode zm_Alignment_begin.2.2.1 11 = .ok (.istore_n 2, 1) := by decide +kernel
theorem d_Alignment_begin_12 : decode zm_Alignment_begin.2.2.1 12 = .ok (.iload_n 2, 1) := by decide +kernel
theorem d_Alignment_begin_13 : decode zm_Alignment_begin.2.2.1 13 = .ok (.aload_n 0, 1) := by decide +kernel
theorem d_Alignment_begin_14 : decode zm_Alignment_begin.2.2.1 14 = .ok (.getfield 15, 3) := by decide +kernel
theorem d_Alignment_begin_17 : decode zm_Alignment_begin.2.2.1 17 = .ok (.arraylength, 1) := by decide +kernel
theorem d_Alignment_begin_18 : decode zm_Alignment_begin.2.2.1 18 = .ok (.if_icmp .ge 24, 3) := by decide +kernel
theorem d_Alignment_begin_21 : decode zm_Alignment_begin.2.2.1 21 = .ok (.aload_n 0, 1) := by decide +kernel
theorem d_Alignment_begin_22 : decode zm_Alignment_begin.2.2.1 22 = .ok (.getfield 15, 3) := by decide +kernel
theorem d_Alignment_begin_25 : decode zm_Alignment_begin.2.2.1 25 = .ok (.iload_n 2, 1) := by decide +kernel
theorem d_Alignment_begin_26 : decode zm_Alignment_begin.2.2.1 26 = .ok (.iload_n 1, 1) := by decide +kernel
theorem d_Alignment_begin_27 : decode zm_Alignment_begin.2.2.1 27 = .ok (.ifCond .eq 7, 3) := by decide +kernel
theorem d_Alignment_begin_30 : decode zm_Alignment_begin.2.2.1 30 = .ok (.iconst 0, 1) := by decide +kernel
theorem d_Alignment_begin_31 : decode zm_Alignment_begin.2.2.1 31 = .ok (.goto 4, 3) := by decide +kernel
theorem d_Alignment_begin_34 : decode zm_Alignment_begin.2.2.1 34 = .ok (.iconst (-1), 1) := by decide +kernel
theorem d_Alignment_begin_35 : decode zm_Alignment_begin.2.2.1 35 = .ok (.iastore, 1) := by decide +kernel
theorem d_Alignment_begin_36 : decode zm_Alignment_begin.2.2.1 36 = .ok (.iinc 2 1, 3) := by decide +kernel
theorem d_Alignment_begin_39 : decode zm_Alignment_begin.2.2.1 39 = .ok (.goto (-27), 3) := by decide +kernel
theorem d_Alignment_begin_42 : decode zm_Alignment_begin.2.2.1 42 = .ok (.return_, 1) := by decide +kernel
theorem d_Alignment_add_0 : decode zm_Alignment_add.2.2.1 0 = .ok (.aload_n 0, 1) := by decide +kernel
theorem d_Alignment_add_1 : decode zm_Alignment_add.2.2.1 1 = .ok (.getfield 15, 3) := by decide +kernel
theorem d_Alignment_add_4 : decode zm_Alignment_add.2.2.1 4 = .ok (.iconst 1, 1) := by decide +kernel
theorem d_Alignment_add_5 : decode zm_Alignment_add.2.2.1 5 = .ok (.iaload, 1) := by decide +kernel
theorem d_Alignment_add_6 : decode zm_Alignment_add.2.2.1 6 = .ok (.istore_n 2, 1) := by decide +kernel
theorem d_Alignment_add_7 : decode zm_Alignment_add.2.2.1 7 = .ok (.aload_n 0, 1) := by decide +kernel
theorem d_Alignment_add_8 : decode zm_Alignment_add.2.2.1 8 = .ok (.getfield 22, 3) := by decide +kernel
theorem d_Alignment_add_11 : decode zm_Alignment_add.2.2.1 11 = .ok (.ifCond .eq 27, 3) := by decide +kernel
theorem d_Alignment_add_14 : decode zm_Alignment_add.2.2.1 14 = .ok (.iload_n 2, 1) := by decide +kernel
theorem d_Alignment_add_15 : decode zm_Alignment_add.2.2.1 15 = .ok (.ifCond .lt 23, 3) := by decide +kernel
theorem d_Alignment_add_18 : decode zm_Alignment_add.2.2.1 18 = .ok (.iload_n 2, 1) := by decide +kernel
theorem d_Alignment_add_19 : decode zm_Alignment_add.2.2.1 19 = .ok (.aload_n 0, 1) := by decide +kernel
theorem d_Alignment_add_20 : decode zm_Alignment_add.2.2.1 20 = .ok (.getfield 9, 3) := by decide +kernel
theorem d_Alignment_add_23 : decode zm_Alignment_add.2.2.1 23 = .ok (.arraylength, 1) := by decide +kernel
theorem d_Alignment_add_24 : decode zm_Alignment_add.2.2.1 24 = .ok (.if_icmp .ge 14, 3) := by decide +kernel
theorem d_Alignment_add_27 : decode zm_Alignment_add.2.2.1 27 = .ok (.iload_n 1, 1) := by decide +kernel
theorem d_Alignment_add_28 : decode zm_Alignment_add.2.2.1 28 = .ok (.iconst 2, 1) := by decide +kernel
theorem d_Alignment_add_29 : decode zm_Alignment_add.2.2.1 29 = .ok (.if_icmp .lt 9, 3) := by decide +kernel
theorem d_Alignment_add_32 : decode zm_Alignment_add.2.2.1 32 = .ok (.iload_n 1, 1) := by decide +kernel
theorem d_Alignment_add_33 : decode zm_Alignment_add.2.2.1 33 = .ok (.bipush 6, 2) := by decide +kernel
theorem d_Alignment_add_35 : decode zm_Alignment_add.2.2.1 35 = .ok (.if_icmp .le 4, 3) := by decide +kernel
theorem d_Alignment_add_38 : decode zm_Alignment_add.2.2.1 38 = .ok (.return_, 1) := by decide +kernel
theorem d_Alignment_add_39 : decode zm_Alignment_add.2.2.1 39 = .ok (.aload_n 0, 1) := by decide +kernel
theorem d_Alignment_add_40 : decode zm_Alignment_add.2.2.1 40 = .ok (.getfield 9, 3) := by decide +kernel
theorem d_Alignment_add_43 : decode zm_Alignment_add.2.2.1 43 = .ok (.iload_n 2, 1) := by decide +kernel
theorem d_Alignment_add_44 : decode zm_Alignment_add.2.2.1 44 = .ok (.getstatic 25, 3) := by decide +kernel
theorem d_Alignment_add_47 : decode zm_Alignment_add.2.2.1 47 = .ok (.iload_n 1, 1) := by decide +kernel
theorem d_Alignment_add_48 : decode zm_Alignment_add.2.2.1 48 = .ok (.iaload, 1) := by decide +kernel
theorem d_Alignment_add_49 : decode zm_Alignment_add.2.2.1 49 = .ok (.iastore, 1) := by decide +kernel
theorem d_Alignment_add_50 : decode zm_Alignment_add.2.2.1 50 = .ok (.aload_n 0, 1) := by decide +kernel
theorem d_Alignment_add_51 : decode zm_Alignment_add.2.2.1 51 = .ok (.getfield 15, 3) := by decide +kernel
theorem d_Alignment_add_54 : decode zm_Alignment_add.2.2.1 54 = .ok (.iconst 1, 1) := by decide +kernel
theorem d_Alignment_add_55 : decode zm_Alignment_add.2.2.1 55 = .ok (.dup2, 1) := by decide +kernel
theorem d_Alignment_add_56 : decode zm_Alignment_add.2.2.1 56 = .ok (.iaload, 1) := by decide +kernel
theorem d_Alignment_add_57 : decode zm_Alignment_add.2.2.1 57 = .ok (.iconst 1, 1) := by decide +kernel
theorem d_Alignment_add_58 : decode zm_Alignment_add.2.2.1 58 = .ok (.iadd, 1) := by decide +kernel
theorem d_Alignment_add_59 : decode zm_Alignment_add.2.2.1 59 = .ok (.iastore, 1) := by decide +kernel
theorem d_Alignment_add_60 : decode zm_Alignment_add.2.2.1 60 = .ok (.aload_n 0, 1) := by decide +kernel
theorem d_Alignment_add_61 : decode zm_Alignment_add.2.2.1 61 = .ok (.getfield 15, 3) := by decide +kernel
theorem d_Alignment_add_64 : decode zm_Alignment_add.2.2.1 64 = .ok (.iload_n 1, 1) := by decide +kernel
theorem d_Alignment_add_65 : decode zm_Alignment_add.2.2.1 65 = .ok (.dup2, 1) := by decide +kernel
theorem d_Alignment_add_66 : decode zm_Alignment_add.2.2.1 66 = .ok (.iaload, 1) := by decide +kernel
theorem d_Alignment_add_67 : decode zm_Alignment_add.2.2.1 67 = .ok (.iconst 1, 1) := by decide +kernel
theorem d_Alignment_add_68 : decode zm_Alignment_add.2.2.1 68 = .ok (.iadd, 1) := by decide +kernel
theorem d_Alignment_add_69 : decode zm_Alignment_add.2.2.1 69 = .ok (.iastore, 1) := by decide +kernel
theorem d_Alignment_add_70 : decode zm_Alignment_add.2.2.1 70 = .ok (.aload_n 0, 1) := by decide +kernel
theorem d_Alignment_add_71 : decode zm_Alignment_add.2.2.1 71 = .ok (.getfield 15, 3) := by decide +kernel
theorem d_Alignment_add_74 : decode zm_Alignment_add.2.2.1 74 = .ok (.iconst 0, 1) := by decide +kernel
theorem d_Alignment_add_75 : decode zm_Alignment_add.2.2.1 75 = .ok (.dup2, 1) := by decide +kernel
theorem d_Alignment_add_76 : decode zm_Alignment_add.2.2.1 76 = .ok (.iaload, 1) := by decide +kernel
theorem d_Alignment_add_77 : decode zm_Alignment_add.2.2.1 77 = .ok (.getstatic 28, 3) := by decide +kernel
theorem d_Alignment_add_80 : decode zm_Alignment_add.2.2.1 80 = .ok (.iload_n 1, 1) := by decide +kernel
theorem d_Alignment_add_81 : decode zm_Alignment_add.2.2.1 81 = .ok (.iaload, 1) := by decide +kernel
theorem d_Alignment_add_82 : decode zm_Alignment_add.2.2.1 82 = .ok (.iadd, 1) := by decide +kernel
theorem d_Alignment_add_83 : decode zm_Alignment_add.2.2.1 83 = .ok (.iastore, 1) := by decide +kernel
theorem d_Alignment_add_84 : decode zm_Alignment_add.2.2.1 84 = .ok (.return_, 1) := by decide +kernel
theorem d_Alignment_tally_0 : decode zm_Alignment_tally.2.2.1 0 = .ok (.iload_n 1, 1) := by decide +kernel
theorem d_Alignment_tally_1 : decode zm_Alignment_tally.2.2.1 1 = .ok (.ifCond .lt 21, 3) := by decide +kernel
theorem d_Alignment_tally_4 : decode zm_Alignment_tally.2.2.1 4 = .ok (.iload_n 1, 1) := by decide +kernel
theorem d_Alignment_tally_5 : decode zm_Alignment_tally.2.2.1 5 = .ok (.aload_n 0, 1) := by decide +kernel
theorem d_Alignment_tally_6 : decode zm_Alignment_tally.2.2.1 6 = .ok (.getfield 15, 3) := by decide +kernel
theorem d_Alignment_tally_9 : decode zm_Alignment_tally.2.2.1 9 = .ok (.arraylength, 1) := by decide +kernel
theorem d_Alignment_tally_10 : decode zm_Alignment_tally.2.2.1 10 = .ok (.if_icmp .ge 12, 3) := by decide +kernel
theorem d_Alignment_tally_13 : decode zm_Alignment_tally.2.2.1 13 = .ok (.aload_n 0, 1) := by decide +kernel
theorem d_Alignment_tally_14 : decode zm_Alignment_tally.2.2.1 14 = .ok (.getfield 15, 3) := by decide +kernel
theorem d_Alignment_tally_17 : decode zm_Alignment_tally.2.2.1 17 = .ok (.iload_n 1, 1) := by decide +kernel
theorem d_Alignment_tally_18 : decode zm_Alignment_tally.2.2.1 18 = .ok (.iaload, 1) := by decide +kernel
theorem d_Alignment_tally_19 : decode zm_Alignment_tally.2.2.1 19 = .ok (.goto 4, 3) := by decide +kernel
theorem d_Alignment_tally_22 : decode zm_Alignment_tally.2.2.1 22 = .ok (.iconst (-1), 1) := by decide +kernel
theorem d_Alignment_tally_23 : decode zm_Alignment_tally.2.2.1 23 = .ok (.ireturn, 1) := by decide +kernel
theorem d_Alignment_length_0 : decode zm_Alignment_length.2.2.1 0 = .ok (.aload_n 0, 1) := by decide +kernel
theorem d_Alignment_length_1 : decode zm_Alignment_length.2.2.1 1 = .ok (.getfield 22, 3) := by decide +kernel
theorem d_Alignment_length_4 : decode zm_Alignment_length.2.2.1 4 = .ok (.ifCond .eq 12, 3) := by decide +kernel
theorem d_Alignment_length_7 : decode zm_Alignment_length.2.2.1 7 = .ok (.aload_n 0, 1) := by decide +kernel
theorem d_Alignment_length_8 : decode zm_Alignment_length.2.2.1 8 = .ok (.getfield 15, 3) := by decide +kernel
theorem d_Alignment_length_11 : decode zm_Alignment_length.2.2.1 11 = .ok (.iconst 1, 1) := by decide +kernel
theorem d_Alignment_length_12 : decode zm_Alignment_length.2.2.1 12 = .ok (.iaload, 1) := by decide +kernel
theorem d_Alignment_length_13 : decode zm_Alignment_length.2.2.1 13 = .ok (.goto 4, 3) := by decide +kernel
theorem d_Alignment_length_16 : decode zm_Alignment_length.2.2.1 16 = .ok (.iconst 0, 1) := by decide +kernel
theorem d_Alignment_length_17 : decode zm_Alignment_length.2.2.1 17 = .ok (.ireturn, 1) := by decide +kernel
theorem d_Alignment_hasStep_0 : decode zm_Alignment_hasStep.2.2.1 0 = .ok (.iload_n 1, 1) := by decide +kernel
theorem d_Alignment_hasStep_1 : decode zm_Alignment_hasStep.2.2.1 1 = .ok (.ifCond .lt 15, 3) := by decide +kernel
theorem d_Alignment_hasStep_4 : decode zm_Alignment_hasStep.2.2.1 4 = .ok (.iload_n 1, 1) := by decide +kernel
theorem d_Alignment_hasStep_5 : decode zm_Alignment_hasStep.2.2.1 5 = .ok (.aload_n 0, 1) := by decide +kernel
theorem d_Alignment_hasStep_6 : decode zm_Alignment_hasStep.2.2.1 6 = .ok (.invokevirtual 31, 3) := by decide +kernel
theorem d_Alignment_hasStep_9 : decode zm_Alignment_hasStep.2.2.1 9 = .ok (.if_icmp .ge 7, 3) := by decide +kernel
theorem d_Alignment_hasStep_12 : decode zm_Alignment_hasStep.2.2.1 12 = .ok (.iconst 1, 1) := by decide +kernel
theorem d_Alignment_hasStep_13 : decode zm_Alignment_hasStep.2.2.1 13 = .ok (.goto 4, 3) := by decide +kernel
theorem d_Alignment_hasStep_16 : decode zm_Alignment_hasStep.2.2.1 16 = .ok (.iconst 0, 1) := by decide +kernel
theorem d_Alignment_hasStep_17 : decode zm_Alignment_hasStep.2.2.1 17 = .ok (.ireturn, 1) := by decide +kernel
theorem d_Alignment_stepAt_0 : decode zm_Alignment_stepAt.2.2.1 0 = .ok (.aload_n 0, 1) := by decide +kernel
theorem d_Alignment_stepAt_1 : decode zm_Alignment_stepAt.2.2.1 1 = .ok (.iload_n 1, 1) := by decide +kernel
theorem d_Alignment_stepAt_2 : decode zm_Alignment_stepAt.2.2.1 2 = .ok (.invokevirtual 35, 3) := by decide +kernel
theorem d_Alignment_stepAt_5 : decode zm_Alignment_stepAt.2.2.1 5 = .ok (.ifCond .eq 12, 3) := by decide +kernel
theorem d_Alignment_stepAt_8 : decode zm_Alignment_stepAt.2.2.1 8 = .ok (.aload_n 0, 1) := by decide +kernel
theorem d_Alignment_stepAt_9 : decode zm_Alignment_stepAt.2.2.1 9 = .ok (.getfield 9, 3) := by decide +kernel
theorem d_Alignment_stepAt_12 : decode zm_Alignment_stepAt.2.2.1 12 = .ok (.iload_n 1, 1) := by decide +kernel
theorem d_Alignment_stepAt_13 : decode zm_Alignment_stepAt.2.2.1 13 = .ok (.iaload, 1) := by decide +kernel
theorem d_Alignment_stepAt_14 : decode zm_Alignment_stepAt.2.2.1 14 = .ok (.goto 4, 3) := by decide +kernel
theorem d_Alignment_stepAt_17 : decode zm_Alignment_stepAt.2.2.1 17 = .ok (.iconst (-1), 1) := by decide +kernel
theorem d_Alignment_stepAt_18 : decode zm_Alignment_stepAt.2.2.1 18 = .ok (.ireturn, 1) := by decide +kernel
theorem d_Aligner_align_0 : decode zm_Aligner_align.2.2.1 0 = .ok (.aload_n 1, 1) := by decide +kernel
theorem d_Aligner_align_1 : decode zm_Aligner_align.2.2.1 1 = .ok (.invokevirtual 15, 3) := by decide +kernel
theorem d_Aligner_align_4 : decode zm_Aligner_align.2.2.1 4 = .ok (.aload_n 2, 1) := by decide +kernel
theorem d_Aligner_align_5 : decode zm_Aligner_align.2.2.1 5 = .ok (.invokevirtual 15, 3) := by decide +kernel
theorem d_Aligner_align_8 : decode zm_Aligner_align.2.2.1 8 = .ok (.isub, 1) := by decide +kernel
theorem d_Aligner_align_9 : decode zm_Aligner_align.2.2.1 9 = .ok (.invokestatic 21, 3) := by decide +kernel
theorem d_Aligner_align_12 : decode zm_Aligner_align.2.2.1 12 = .ok (.iload_n 3, 1) := by decide +kernel
theorem d_Aligner_align_13 : decode zm_Aligner_align.2.2.1 13 = .ok (.if_icmp .gt 7, 3) := by decide +kernel
theorem d_Aligner_align_16 : decode zm_Aligner_align.2.2.1 16 = .ok (.iconst 1, 1) := by decide +kernel
theorem d_Aligner_align_17 : decode zm_Aligner_align.2.2.1 17 = .ok (.goto 4, 3) := by decide +kernel
theorem d_Aligner_align_20 : decode zm_Aligner_align.2.2.1 20 = .ok (.iconst 0, 1) := by decide +kernel
theorem d_Aligner_align_21 : decode zm_Aligner_align.2.2.1 21 = .ok (.istore 5, 2) := by decide +kernel
theorem d_Aligner_align_23 : decode zm_Aligner_align.2.2.1 23 = .ok (.aload 4, 2) := by decide +kernel
theorem d_Aligner_align_25 : decode zm_Aligner_align.2.2.1 25 = .ok (.iload 5, 2) := by decide +kernel
theorem d_Aligner_align_27 : decode zm_Aligner_align.2.2.1 27 = .ok (.invokevirtual 27, 3) := by decide +kernel
theorem d_Aligner_align_30 : decode zm_Aligner_align.2.2.1 30 = .ok (.iload 5, 2) := by decide +kernel
theorem d_Aligner_align_32 : decode zm_Aligner_align.2.2.1 32 = .ok (.ifCond .eq 18, 3) := by decide +kernel
theorem d_Aligner_align_35 : decode zm_Aligner_align.2.2.1 35 = .ok (.aload_n 0, 1) := by decide +kernel
theorem d_Aligner_align_36 : decode zm_Aligner_align.2.2.1 36 = .ok (.aload_n 1, 1) := by decide +kernel
theorem d_Aligner_align_37 : decode zm_Aligner_align.2.2.1 37 = .ok (.aload_n 2, 1) := by decide +kernel
theorem d_Aligner_align_38 : decode zm_Aligner_align.2.2.1 38 = .ok (.iload_n 3, 1) := by decide +kernel
theorem d_Aligner_align_39 : decode zm_Aligner_align.2.2.1 39 = .ok (.invokevirtual 33, 3) := by decide +kernel
theorem d_Aligner_align_42 : decode zm_Aligner_align.2.2.1 42 = .ok (.aload_n 0, 1) := by decide +kernel
theorem d_Aligner_align_43 : decode zm_Aligner_align.2.2.1 43 = .ok (.aload_n 1, 1) := by decide +kernel
theorem d_Aligner_align_44 : decode zm_Aligner_align.2.2.1 44 = .ok (.aload_n 2, 1) := by decide +kernel
theorem d_Aligner_align_45 : decode zm_Aligner_align.2.2.1 45 = .ok (.aload 4, 2) := by decide +kernel
theorem d_Aligner_align_47 : decode zm_Aligner_align.2.2.1 47 = .ok (.invokevirtual 37, 3) := by decide +kernel
theorem d_Aligner_align_50 : decode zm_Aligner_align.2.2.1 50 = .ok (.return_, 1) := by decide +kernel
theorem d_Aligner_fill_0 : decode zm_Aligner_fill.2.2.1 0 = .ok (.aload_n 1, 1) := by decide +kernel
theorem d_Aligner_fill_1 : decode zm_Aligner_fill.2.2.1 1 = .ok (.invokevirtual 15, 3) := by decide +kernel
theorem d_Aligner_fill_4 : decode zm_Aligner_fill.2.2.1 4 = .ok (.istore 4, 2) := by decide +kernel
theorem d_Aligner_fill_6 : decode zm_Aligner_fill.2.2.1 6 = .ok (.aload_n 2, 1) := by decide +kernel
theorem d_Aligner_fill_7 : decode zm_Aligner_fill.2.2.1 7 = .ok (.invokevirtual 15, 3) := by decide +kernel
theorem d_Aligner_fill_10 : decode zm_Aligner_fill.2.2.1 10 = .ok (.istore 5, 2) := by decide +kernel
theorem d_Aligner_fill_12 : decode zm_Aligner_fill.2.2.1 12 = .ok (.iload 4, 2) := by decide +kernel
theorem d_Aligner_fill_14 : decode zm_Aligner_fill.2.2.1 14 = .ok (.iconst 1, 1) := by decide +kernel
theorem d_Aligner_fill_15 : decode zm_Aligner_fill.2.2.1 15 = .ok (.iadd, 1) := by decide +kernel
theorem d_Aligner_fill_16 : decode zm_Aligner_fill.2.2.1 16 = .ok (.istore 6, 2) := by decide +kernel
theorem d_Aligner_fill_18 : decode zm_Aligner_fill.2.2.1 18 = .ok (.iload 6, 2) := by decide +kernel
theorem d_Aligner_fill_20 : decode zm_Aligner_fill.2.2.1 20 = .ok (.ifCond .lt 192, 3) := by decide +kernel
theorem d_Aligner_fill_23 : decode zm_Aligner_fill.2.2.1 23 = .ok (.iload 5, 2) := by decide +kernel
theorem d_Aligner_fill_25 : decode zm_Aligner_fill.2.2.1 25 = .ok (.iconst 1, 1) := by decide +kernel
theorem d_Aligner_fill_26 : decode zm_Aligner_fill.2.2.1 26 = .ok (.iadd, 1) := by decide +kernel
theorem d_Aligner_fill_27 : decode zm_Aligner_fill.2.2.1 27 = .ok (.istore 7, 2) := by decide +kernel
theorem d_Aligner_fill_29 : decode zm_Aligner_fill.2.2.1 29 = .ok (.iload 7, 2) := by decide +kernel
theorem d_Aligner_fill_31 : decode zm_Aligner_fill.2.2.1 31 = .ok (.ifCond .lt 175, 3) := by decide +kernel
theorem d_Aligner_fill_34 : decode zm_Aligner_fill.2.2.1 34 = .ok (.iload 6, 2) := by decide +kernel
theorem d_Aligner_fill_36 : decode zm_Aligner_fill.2.2.1 36 = .ok (.bipush 26, 2) := by decide +kernel
theorem d_Aligner_fill_38 : decode zm_Aligner_fill.2.2.1 38 = .ok (.imul, 1) := by decide +kernel
theorem d_Aligner_fill_39 : decode zm_Aligner_fill.2.2.1 39 = .ok (.iload 7, 2) := by decide +kernel
theorem d_Aligner_fill_41 : decode zm_Aligner_fill.2.2.1 41 = .ok (.iadd, 1) := by decide +kernel
theorem d_Aligner_fill_42 : decode zm_Aligner_fill.2.2.1 42 = .ok (.istore 8, 2) := by decide +kernel
theorem d_Aligner_fill_44 : decode zm_Aligner_fill.2.2.1 44 = .ok (.iload 6, 2) := by decide +kernel
theorem d_Aligner_fill_46 : decode zm_Aligner_fill.2.2.1 46 = .ok (.iload 4, 2) := by decide +kernel
theorem d_Aligner_fill_48 : decode zm_Aligner_fill.2.2.1 48 = .ok (.if_icmp .gt 22, 3) := by decide +kernel
theorem d_Aligner_fill_51 : decode zm_Aligner_fill.2.2.1 51 = .ok (.iload 7, 2) := by decide +kernel
theorem d_Aligner_fill_53 : decode zm_Aligner_fill.2.2.1 53 = .ok (.iload 5, 2) := by decide +kernel
theorem d_Aligner_fill_55 : decode zm_Aligner_fill.2.2.1 55 = .ok (.if_icmp .gt 15, 3) := by decide +kernel
theorem d_Aligner_fill_58 : decode zm_Aligner_fill.2.2.1 58 = .ok (.iload 6, 2) := by decide +kernel
theorem d_Aligner_fill_60 : decode zm_Aligner_fill.2.2.1 60 = .ok (.iload 7, 2) := by decide +kernel
theorem d_Aligner_fill_62 : decode zm_Aligner_fill.2.2.1 62 = .ok (.isub, 1) := by decide +kernel
theorem d_Aligner_fill_63 : decode zm_Aligner_fill.2.2.1 63 = .ok (.invokestatic 21, 3) := by decide +kernel
theorem d_Aligner_fill_66 : decode zm_Aligner_fill.2.2.1 66 = .ok (.iload_n 3, 1) := by decide +kernel
theorem d_Aligner_fill_67 : decode zm_Aligner_fill.2.2.1 67 = .ok (.if_icmp .le 15, 3) := by decide +kernel
theorem d_Aligner_fill_70 : decode zm_Aligner_fill.2.2.1 70 = .ok (.aload_n 0, 1) := by decide +kernel
theorem d_Aligner_fill_71 : decode zm_Aligner_fill.2.2.1 71 = .ok (.getfield 11, 3) := by decide +kernel
theorem d_Aligner_fill_74 : decode zm_Aligner_fill.2.2.1 74 = .ok (.iload 8, 2) := by decide +kernel
theorem d_Aligner_fill_76 : decode zm_Aligner_fill.2.2.1 76 = .ok (.ldc 41, 2) := by decide +kernel
theorem d_Aligner_fill_78 : decode zm_Aligner_fill.2.2.1 78 = .ok (.iastore, 1) := by decide +kernel
theorem d_Aligner_fill_79 : decode zm_Aligner_fill.2.2.1 79 = .ok (.goto 121, 3) := by decide +kernel
theorem d_Aligner_fill_82 : decode zm_Aligner_fill.2.2.1 82 = .ok (.iload 6, 2) := by decide +kernel
theorem d_Aligner_fill_84 : decode zm_Aligner_fill.2.2.1 84 = .ok (.iload 4, 2) := by decide +kernel
theorem d_Aligner_fill_86 : decode zm_Aligner_fill.2.2.1 86 = .ok (.if_icmp .ne 21, 3) := by decide +kernel
theorem d_Aligner_fill_89 : decode zm_Aligner_fill.2.2.1 89 = .ok (.iload 7, 2) := by decide +kernel
theorem d_Aligner_fill_91 : decode zm_Aligner_fill.2.2.1 91 = .ok (.iload 5, 2) := by decide +kernel
theorem d_Aligner_fill_93 : decode zm_Aligner_fill.2.2.1 93 = .ok (.if_icmp .ne 14, 3) := by decide +kernel
theorem d_Aligner_fill_96 : decode zm_Aligner_fill.2.2.1 96 = .ok (.aload_n 0, 1) := by decide +kernel
theorem d_Aligner_fill_97 : decode zm_Aligner_fill.2.2.1 97 = .ok (.getfield 11, 3) := by decide +kernel
theorem d_Aligner_fill_100 : decode zm_Aligner_fill.2.2.1 100 = .ok (.iload 8, 2) := by decide +kernel
theorem d_Aligner_fill_102 : decode zm_Aligner_fill.2.2.1 102 = .ok (.iconst 0, 1) := by decide +kernel
theorem d_Aligner_fill_103 : decode zm_Aligner_fill.2.2.1 103 = .ok (.iastore, 1) := by decide +kernel
theorem d_Aligner_fill_104 : decode zm_Aligner_fill.2.2.1 104 = .ok (.goto 96, 3) := by decide +kernel
theorem d_Aligner_fill_107 : decode zm_Aligner_fill.2.2.1 107 = .ok (.aload_n 1, 1) := by decide +kernel
theorem d_Aligner_fill_108 : decode zm_Aligner_fill.2.2.1 108 = .ok (.iload 6, 2) := by decide +kernel
theorem d_Aligner_fill_110 : decode zm_Aligner_fill.2.2.1 110 = .ok (.invokevirtual 42, 3) := by decide +kernel
theorem d_Aligner_fill_113 : decode zm_Aligner_fill.2.2.1 113 = .ok (.aload_n 2, 1) := by decide +kernel
theorem d_Aligner_fill_114 : decode zm_Aligner_fill.2.2.1 114 = .ok (.iload 7, 2) := by decide +kernel
theorem d_Aligner_fill_116 : decode zm_Aligner_fill.2.2.1 116 = .ok (.invokevirtual 42, 3) := by decide +kernel
theorem d_Aligner_fill_119 : decode zm_Aligner_fill.2.2.1 119 = .ok (.invokestatic 45, 3) := by decide +kernel
theorem d_Aligner_fill_122 : decode zm_Aligner_fill.2.2.1 122 = .ok (.istore 9, 2) := by decide +kernel
theorem d_Aligner_fill_124 : decode zm_Aligner_fill.2.2.1 124 = .ok (.getstatic 49, 3) := by decide +kernel
theorem d_Aligner_fill_127 : decode zm_Aligner_fill.2.2.1 127 = .ok (.iload 9, 2) := by decide +kernel
theorem d_Aligner_fill_129 : decode zm_Aligner_fill.2.2.1 129 = .ok (.iaload, 1) := by decide +kernel
theorem d_Aligner_fill_130 : decode zm_Aligner_fill.2.2.1 130 = .ok (.aload_n 0, 1) := by decide +kernel
theorem d_Aligner_fill_131 : decode zm_Aligner_fill.2.2.1 131 = .ok (.getfield 11, 3) := by decide +kernel
theorem d_Aligner_fill_134 : decode zm_Aligner_fill.2.2.1 134 = .ok (.iload 8, 2) := by decide +kernel
theorem d_Aligner_fill_136 : decode zm_Aligner_fill.2.2.1 136 = .ok (.bipush 26, 2) := by decide +kernel
theorem d_Aligner_fill_138 : decode zm_Aligner_fill.2.2.1 138 = .ok (.iadd, 1) := by decide +kernel
theorem d_Aligner_fill_139 : decode zm_Aligner_fill.2.2.1 139 = .ok (.iconst 1, 1) := by decide +kernel
theorem d_Aligner_fill_140 : decode zm_Aligner_fill.2.2.1 140 = .ok (.iadd, 1) := by decide +kernel
theorem d_Aligner_fill_141 : decode zm_Aligner_fill.2.2.1 141 = .ok (.iaload, 1) := by decide +kernel
theorem d_Aligner_fill_142 : decode zm_Aligner_fill.2.2.1 142 = .ok (.iadd, 1) := by decide +kernel
theorem d_Aligner_fill_143 : decode zm_Aligner_fill.2.2.1 143 = .ok (.istore 10, 2) := by decide +kernel
theorem d_Aligner_fill_145 : decode zm_Aligner_fill.2.2.1 145 = .ok (.getstatic 49, 3) := by decide +kernel
theorem d_Aligner_fill_148 : decode zm_Aligner_fill.2.2.1 148 = .ok (.iconst 5, 1) := by decide +kernel
theorem d_Aligner_fill_149 : decode zm_Aligner_fill.2.2.1 149 = .ok (.iaload, 1) := by decide +kernel
theorem d_Aligner_fill_150 : decode zm_Aligner_fill.2.2.1 150 = .ok (.aload_n 0, 1) := by decide +kernel
theorem d_Aligner_fill_151 : decode zm_Aligner_fill.2.2.1 151 = .ok (.getfield 11, 3) := by decide +kernel
theorem d_Aligner_fill_154 : decode zm_Aligner_fill.2.2.1 154 = .ok (.iload 8, 2) := by decide +kernel
theorem d_Aligner_fill_156 : decode zm_Aligner_fill.2.2.1 156 = .ok (.bipush 26, 2) := by decide +kernel
theorem d_Aligner_fill_158 : decode zm_Aligner_fill.2.2.1 158 = .ok (.iadd, 1) := by decide +kernel
theorem d_Aligner_fill_159 : decode zm_Aligner_fill.2.2.1 159 = .ok (.iaload, 1) := by decide +kernel
theorem d_Aligner_fill_160 : decode zm_Aligner_fill.2.2.1 160 = .ok (.iadd, 1) := by decide +kernel
theorem d_Aligner_fill_161 : decode zm_Aligner_fill.2.2.1 161 = .ok (.istore 11, 2) := by decide +kernel
theorem d_Aligner_fill_163 : decode zm_Aligner_fill.2.2.1 163 = .ok (.getstatic 49, 3) := by decide +kernel
theorem d_Aligner_fill_166 : decode zm_Aligner_fill.2.2.1 166 = .ok (.bipush 6, 2) := by decide +kernel
theorem d_Aligner_fill_168 : decode zm_Aligner_fill.2.2.1 168 = .ok (.iaload, 1) := by decide +kernel
theorem d_Aligner_fill_169 : decode zm_Aligner_fill.2.2.1 169 = .ok (.aload_n 0, 1) := by decide +kernel
theorem d_Aligner_fill_170 : decode zm_Aligner_fill.2.2.1 170 = .ok (.getfield 11, 3) := by decide +kernel
theorem d_Aligner_fill_173 : decode zm_Aligner_fill.2.2.1 173 = .ok (.iload 8, 2) := by decide +kernel
theorem d_Aligner_fill_175 : decode zm_Aligner_fill.2.2.1 175 = .ok (.iconst 1, 1) := by decide +kernel
theorem d_Aligner_fill_176 : decode zm_Aligner_fill.2.2.1 176 = .ok (.iadd, 1) := by decide +kernel
theorem d_Aligner_fill_177 : decode zm_Aligner_fill.2.2.1 177 = .ok (.iaload, 1) := by decide +kernel
theorem d_Aligner_fill_178 : decode zm_Aligner_fill.2.2.1 178 = .ok (.iadd, 1) := by decide +kernel
theorem d_Aligner_fill_179 : decode zm_Aligner_fill.2.2.1 179 = .ok (.istore 12, 2) := by decide +kernel
theorem d_Aligner_fill_181 : decode zm_Aligner_fill.2.2.1 181 = .ok (.aload_n 0, 1) := by decide +kernel
theorem d_Aligner_fill_182 : decode zm_Aligner_fill.2.2.1 182 = .ok (.getfield 11, 3) := by decide +kernel
theorem d_Aligner_fill_185 : decode zm_Aligner_fill.2.2.1 185 = .ok (.iload 8, 2) := by decide +kernel
theorem d_Aligner_fill_187 : decode zm_Aligner_fill.2.2.1 187 = .ok (.iload 10, 2) := by decide +kernel
theorem d_Aligner_fill_189 : decode zm_Aligner_fill.2.2.1 189 = .ok (.iload 11, 2) := by decide +kernel
theorem d_Aligner_fill_191 : decode zm_Aligner_fill.2.2.1 191 = .ok (.iload 12, 2) := by decide +kernel
theorem d_Aligner_fill_193 : decode zm_Aligner_fill.2.2.1 193 = .ok (.invokestatic 52, 3) := by decide +kernel
theorem d_Aligner_fill_196 : decode zm_Aligner_fill.2.2.1 196 = .ok (.invokestatic 52, 3) := by decide +kernel
theorem d_Aligner_fill_199 : decode zm_Aligner_fill.2.2.1 199 = .ok (.iastore, 1) := by decide +kernel
theorem d_Aligner_fill_200 : decode zm_Aligner_fill.2.2.1 200 = .ok (.iinc 7 (-1), 3) := by decide +kernel
theorem d_Aligner_fill_203 : decode zm_Aligner_fill.2.2.1 203 = .ok (.goto (-174), 3) := by decide +kernel
theorem d_Aligner_fill_206 : decode zm_Aligner_fill.2.2.1 206 = .ok (.iinc 6 (-1), 3) := by decide +kernel
theorem d_Aligner_fill_209 : decode zm_Aligner_fill.2.2.1 209 = .ok (.goto (-191), 3) := by decide +kernel
theorem d_Aligner_fill_212 : decode zm_Aligner_fill.2.2.1 212 = .ok (.return_, 1) := by decide +kernel
theorem d_Aligner_trace_0 : decode zm_Aligner_trace.2.2.1 0 = .ok (.iconst 0, 1) := by decide +kernel
theorem d_Aligner_trace_1 : decode zm_Aligner_trace.2.2.1 1 = .ok (.istore 4, 2) := by decide +kernel
theorem d_Aligner_trace_3 : decode zm_Aligner_trace.2.2.1 3 = .ok (.iconst 0, 1) := by decide +kernel
theorem d_Aligner_trace_4 : decode zm_Aligner_trace.2.2.1 4 = .ok (.istore 5, 2) := by decide +kernel
theorem d_Aligner_trace_6 : decode zm_Aligner_trace.2.2.1 6 = .ok (.iconst 0, 1) := by decide +kernel
theorem d_Aligner_trace_7 : decode zm_Aligner_trace.2.2.1 7 = .ok (.istore 6, 2) := by decide +kernel
theorem d_Aligner_trace_9 : decode zm_Aligner_trace.2.2.1 9 = .ok (.iload 6, 2) := by decide +kernel
theorem d_Aligner_trace_11 : decode zm_Aligner_trace.2.2.1 11 = .ok (.bipush 48, 2) := by decide +kernel
theorem d_Aligner_trace_13 : decode zm_Aligner_trace.2.2.1 13 = .ok (.if_icmp .ge 196, 3) := by decide +kernel
theorem d_Aligner_trace_16 : decode zm_Aligner_trace.2.2.1 16 = .ok (.iload 4, 2) := by decide +kernel
theorem d_Aligner_trace_18 : decode zm_Aligner_trace.2.2.1 18 = .ok (.aload_n 1, 1) := by decide +kernel
theorem d_Aligner_trace_19 : decode zm_Aligner_trace.2.2.1 19 = .ok (.invokevirtual 15, 3) := by decide +kernel
theorem d_Aligner_trace_22 : decode zm_Aligner_trace.2.2.1 22 = .ok (.if_icmp .lt 12, 3) := by decide +kernel
theorem d_Aligner_trace_25 : decode zm_Aligner_trace.2.2.1 25 = .ok (.iload 5, 2) := by decide +kernel
theorem d_Aligner_trace_27 : decode zm_Aligner_trace.2.2.1 27 = .ok (.aload_n 2, 1) := by decide +kernel
theorem d_Aligner_trace_28 : decode zm_Aligner_trace.2.2.1 28 = .ok (.invokevirtual 15, 3) := by decide +kernel
theorem d_Aligner_trace_31 : decode zm_Aligner_trace.2.2.1 31 = .ok (.if_icmp .ge 178, 3) := by decide +kernel
theorem d_Aligner_trace_34 : decode zm_Aligner_trace.2.2.1 34 = .ok (.iload 4, 2) := by decide +kernel
theorem d_Aligner_trace_36 : decode zm_Aligner_trace.2.2.1 36 = .ok (.bipush 26, 2) := by decide +kernel
theorem d_Aligner_trace_38 : decode zm_Aligner_trace.2.2.1 38 = .ok (.imul, 1) := by decide +kernel
theorem d_Aligner_trace_39 : decode zm_Aligner_trace.2.2.1 39 = .ok (.iload 5, 2) := by decide +kernel
theorem d_Aligner_trace_41 : decode zm_Aligner_trace.2.2.1 41 = .ok (.iadd, 1) := by decide +kernel
theorem d_Aligner_trace_42 : decode zm_Aligner_trace.2.2.1 42 = .ok (.istore 7, 2) := by decide +kernel
theorem d_Aligner_trace_44 : decode zm_Aligner_trace.2.2.1 44 = .ok (.aload_n 1, 1) := by decide +kernel
theorem d_Aligner_trace_45 : decode zm_Aligner_trace.2.2.1 45 = .ok (.iload 4, 2) := by decide +kernel
theorem d_Aligner_trace_47 : decode zm_Aligner_trace.2.2.1 47 = .ok (.invokevirtual 42, 3) := by decide +kernel
theorem d_Aligner_trace_50 : decode zm_Aligner_trace.2.2.1 50 = .ok (.aload_n 2, 1) := by decide +kernel
theorem d_Aligner_trace_51 : decode zm_Aligner_trace.2.2.1 51 = .ok (.iload 5, 2) := by decide +kernel
theorem d_Aligner_trace_53 : decode zm_Aligner_trace.2.2.1 53 = .ok (.invokevirtual 42, 3) := by decide +kernel
theorem d_Aligner_trace_56 : decode zm_Aligner_trace.2.2.1 56 = .ok (.invokestatic 45, 3) := by decide +kernel
theorem d_Aligner_trace_59 : decode zm_Aligner_trace.2.2.1 59 = .ok (.istore 8, 2) := by decide +kernel
theorem d_Aligner_trace_61 : decode zm_Aligner_trace.2.2.1 61 = .ok (.iload 4, 2) := by decide +kernel
theorem d_Aligner_trace_63 : decode zm_Aligner_trace.2.2.1 63 = .ok (.aload_n 1, 1) := by decide +kernel
theorem d_Aligner_trace_64 : decode zm_Aligner_trace.2.2.1 64 = .ok (.invokevirtual 15, 3) := by decide +kernel
theorem d_Aligner_trace_67 : decode zm_Aligner_trace.2.2.1 67 = .ok (.if_icmp .ge 7, 3) := by decide +kernel
theorem d_Aligner_trace_70 : decode zm_Aligner_trace.2.2.1 70 = .ok (.iconst 1, 1) := by decide +kernel
theorem d_Aligner_trace_71 : decode zm_Aligner_trace.2.2.1 71 = .ok (.goto 4, 3) := by decide +kernel
theorem d_Aligner_trace_74 : decode zm_Aligner_trace.2.2.1 74 = .ok (.iconst 0, 1) := by decide +kernel
theorem d_Aligner_trace_75 : decode zm_Aligner_trace.2.2.1 75 = .ok (.istore 9, 2) := by decide +kernel
theorem d_Aligner_trace_77 : decode zm_Aligner_trace.2.2.1 77 = .ok (.iload 5, 2) := by decide +kernel
theorem d_Aligner_trace_79 : decode zm_Aligner_trace.2.2.1 79 = .ok (.aload_n 2, 1) := by decide +kernel
theorem d_Aligner_trace_80 : decode zm_Aligner_trace.2.2.1 80 = .ok (.invokevirtual 15, 3) := by decide +kernel
theorem d_Aligner_trace_83 : decode zm_Aligner_trace.2.2.1 83 = .ok (.if_icmp .ge 7, 3) := by decide +kernel
theorem d_Aligner_trace_86 : decode zm_Aligner_trace.2.2.1 86 = .ok (.iconst 1, 1) := by decide +kernel
theorem d_Aligner_trace_87 : decode zm_Aligner_trace.2.2.1 87 = .ok (.goto 4, 3) := by decide +kernel
theorem d_Aligner_trace_90 : decode zm_Aligner_trace.2.2.1 90 = .ok (.iconst 0, 1) := by decide +kernel
theorem d_Aligner_trace_91 : decode zm_Aligner_trace.2.2.1 91 = .ok (.istore 10, 2) := by decide +kernel
theorem d_Aligner_trace_93 : decode zm_Aligner_trace.2.2.1 93 = .ok (.iload 9, 2) := by decide +kernel
theorem d_Aligner_trace_95 : decode zm_Aligner_trace.2.2.1 95 = .ok (.ifCond .eq 52, 3) := by decide +kernel
theorem d_Aligner_trace_98 : decode zm_Aligner_trace.2.2.1 98 = .ok (.iload 10, 2) := by decide +kernel
theorem d_Aligner_trace_100 : decode zm_Aligner_trace.2.2.1 100 = .ok (.ifCond .eq 47, 3) := by decide +kernel
theorem d_Aligner_trace_103 : decode zm_Aligner_trace.2.2.1 103 = .ok (.aload_n 0, 1) := by decide +kernel
theorem d_Aligner_trace_104 : decode zm_Aligner_trace.2.2.1 104 = .ok (.getfield 11, 3) := by decide +kernel
theorem d_Aligner_trace_107 : decode zm_Aligner_trace.2.2.1 107 = .ok (.iload 7, 2) := by decide +kernel
theorem d_Aligner_trace_109 : decode zm_Aligner_trace.2.2.1 109 = .ok (.iaload, 1) := by decide +kernel
theorem d_Aligner_trace_110 : decode zm_Aligner_trace.2.2.1 110 = .ok (.getstatic 49, 3) := by decide +kernel
theorem d_Aligner_trace_113 : decode zm_Aligner_trace.2.2.1 113 = .ok (.iload 8, 2) := by decide +kernel
theorem d_Aligner_trace_115 : decode zm_Aligner_trace.2.2.1 115 = .ok (.iaload, 1) := by decide +kernel
theorem d_Aligner_trace_116 : decode zm_Aligner_trace.2.2.1 116 = .ok (.aload_n 0, 1) := by decide +kernel
theorem d_Aligner_trace_117 : decode zm_Aligner_trace.2.2.1 117 = .ok (.getfield 11, 3) := by decide +kernel
theorem d_Aligner_trace_120 : decode zm_Aligner_trace.2.2.1 120 = .ok (.iload 7, 2) := by decide +kernel
theorem d_Aligner_trace_122 : decode zm_Aligner_trace.2.2.1 122 = .ok (.bipush 26, 2) := by decide +kernel
theorem d_Aligner_trace_124 : decode zm_Aligner_trace.2.2.1 124 = .ok (.iadd, 1) := by decide +kernel
theorem d_Aligner_trace_125 : decode zm_Aligner_trace.2.2.1 125 = .ok (.iconst 1, 1) := by decide +kernel
theorem d_Aligner_trace_126 : decode zm_Aligner_trace.2.2.1 126 = .ok (.iadd, 1) := by decide +kernel
theorem d_Aligner_trace_127 : decode zm_Aligner_trace.2.2.1 127 = .ok (.iaload, 1) := by decide +kernel
theorem d_Aligner_trace_128 : decode zm_Aligner_trace.2.2.1 128 = .ok (.iadd, 1) := by decide +kernel
theorem d_Aligner_trace_129 : decode zm_Aligner_trace.2.2.1 129 = .ok (.if_icmp .ne 18, 3) := by decide +kernel
theorem d_Aligner_trace_132 : decode zm_Aligner_trace.2.2.1 132 = .ok (.aload_n 3, 1) := by decide +kernel
theorem d_Aligner_trace_133 : decode zm_Aligner_trace.2.2.1 133 = .ok (.iload 8, 2) := by decide +kernel
theorem d_Aligner_trace_135 : decode zm_Aligner_trace.2.2.1 135 = .ok (.invokevirtual 55, 3) := by decide +kernel
theorem d_Aligner_trace_138 : decode zm_Aligner_trace.2.2.1 138 = .ok (.iinc 4 1, 3) := by decide +kernel
theorem d_Aligner_trace_141 : decode zm_Aligner_trace.2.2.1 141 = .ok (.iinc 5 1, 3) := by decide +kernel
theorem d_Aligner_trace_144 : decode zm_Aligner_trace.2.2.1 144 = .ok (.goto 59, 3) := by decide +kernel
theorem d_Aligner_trace_147 : decode zm_Aligner_trace.2.2.1 147 = .ok (.iload 9, 2) := by decide +kernel
theorem d_Aligner_trace_149 : decode zm_Aligner_trace.2.2.1 149 = .ok (.ifCond .eq 45, 3) := by decide +kernel
theorem d_Aligner_trace_152 : decode zm_Aligner_trace.2.2.1 152 = .ok (.iload 10, 2) := by decide +kernel
theorem d_Aligner_trace_154 : decode zm_Aligner_trace.2.2.1 154 = .ok (.ifCond .eq 29, 3) := by decide +kernel
theorem d_Aligner_trace_157 : decode zm_Aligner_trace.2.2.1 157 = .ok (.aload_n 0, 1) := by decide +kernel
theorem d_Aligner_trace_158 : decode zm_Aligner_trace.2.2.1 158 = .ok (.getfield 11, 3) := by decide +kernel
theorem d_Aligner_trace_161 : decode zm_Aligner_trace.2.2.1 161 = .ok (.iload 7, 2) := by decide +kernel
theorem d_Aligner_trace_163 : decode zm_Aligner_trace.2.2.1 163 = .ok (.iaload, 1) := by decide +kernel
theorem d_Aligner_trace_164 : decode zm_Aligner_trace.2.2.1 164 = .ok (.getstatic 49, 3) := by decide +kernel
theorem d_Aligner_trace_167 : decode zm_Aligner_trace.2.2.1 167 = .ok (.iconst 5, 1) := by decide +kernel
theorem d_Aligner_trace_168 : decode zm_Aligner_trace.2.2.1 168 = .ok (.iaload, 1) := by decide +kernel
theorem d_Aligner_trace_169 : decode zm_Aligner_trace.2.2.1 169 = .ok (.aload_n 0, 1) := by decide +kernel
theorem d_Aligner_trace_170 : decode zm_Aligner_trace.2.2.1 170 = .ok (.getfield 11, 3) := by decide +kernel
theorem d_Aligner_trace_173 : decode zm_Aligner_trace.2.2.1 173 = .ok (.iload 7, 2) := by decide +kernel
theorem d_Aligner_trace_175 : decode zm_Aligner_trace.2.2.1 175 = .ok (.bipush 26, 2) := by decide +kernel
theorem d_Aligner_trace_177 : decode zm_Aligner_trace.2.2.1 177 = .ok (.iadd, 1) := by decide +kernel
theorem d_Aligner_trace_178 : decode zm_Aligner_trace.2.2.1 178 = .ok (.iaload, 1) := by decide +kernel
theorem d_Aligner_trace_179 : decode zm_Aligner_trace.2.2.1 179 = .ok (.iadd, 1) := by decide +kernel
theorem d_Aligner_trace_180 : decode zm_Aligner_trace.2.2.1 180 = .ok (.if_icmp .ne 14, 3) := by decide +kernel
theorem d_Aligner_trace_183 : decode zm_Aligner_trace.2.2.1 183 = .ok (.aload_n 3, 1) := by decide +kernel
theorem d_Aligner_trace_184 : decode zm_Aligner_trace.2.2.1 184 = .ok (.iconst 5, 1) := by decide +kernel
theorem d_Aligner_trace_185 : decode zm_Aligner_trace.2.2.1 185 = .ok (.invokevirtual 55, 3) := by decide +kernel
theorem d_Aligner_trace_188 : decode zm_Aligner_trace.2.2.1 188 = .ok (.iinc 4 1, 3) := by decide +kernel
theorem d_Aligner_trace_191 : decode zm_Aligner_trace.2.2.1 191 = .ok (.goto 12, 3) := by decide +kernel
theorem d_Aligner_trace_194 : decode zm_Aligner_trace.2.2.1 194 = .ok (.aload_n 3, 1) := by decide +kernel
theorem d_Aligner_trace_195 : decode zm_Aligner_trace.2.2.1 195 = .ok (.bipush 6, 2) := by decide +kernel
theorem d_Aligner_trace_197 : decode zm_Aligner_trace.2.2.1 197 = .ok (.invokevirtual 55, 3) := by decide +kernel
theorem d_Aligner_trace_200 : decode zm_Aligner_trace.2.2.1 200 = .ok (.iinc 5 1, 3) := by decide +kernel
theorem d_Aligner_trace_203 : decode zm_Aligner_trace.2.2.1 203 = .ok (.iinc 6 1, 3) := by decide +kernel
theorem d_Aligner_trace_206 : decode zm_Aligner_trace.2.2.1 206 = .ok (.goto (-197), 3) := by decide +kernel
theorem d_Aligner_trace_209 : decode zm_Aligner_trace.2.2.1 209 = .ok (.return_, 1) := by decide +kernel
theorem d_Aligner_kindOfPair_0 : decode zm_Aligner_kindOfPair.2.2.1 0 = .ok (.iload_n 0, 1) := by decide +kernel
theorem d_Aligner_kindOfPair_1 : decode zm_Aligner_kindOfPair.2.2.1 1 = .ok (.iload_n 1, 1) := by decide +kernel
theorem d_Aligner_kindOfPair_2 : decode zm_Aligner_kindOfPair.2.2.1 2 = .ok (.if_icmp .ne 5, 3) := by decide +kernel
theorem d_Aligner_kindOfPair_5 : decode zm_Aligner_kindOfPair.2.2.1 5 = .ok (.iconst 2, 1) := by decide +kernel
theorem d_Aligner_kindOfPair_6 : decode zm_Aligner_kindOfPair.2.2.1 6 = .ok (.ireturn, 1) := by decide +kernel
theorem d_Aligner_kindOfPair_7 : decode zm_Aligner_kindOfPair.2.2.1 7 = .ok (.iload_n 0, 1) := by decide +kernel
theorem d_Aligner_kindOfPair_8 : decode zm_Aligner_kindOfPair.2.2.1 8 = .ok (.bipush 97, 2) := by decide +kernel
theorem d_Aligner_kindOfPair_10 : decode zm_Aligner_kindOfPair.2.2.1 10 = .ok (.isub, 1) := by decide +kernel
theorem d_Aligner_kindOfPair_11 : decode zm_Aligner_kindOfPair.2.2.1 11 = .ok (.istore_n 2, 1) := by decide +kernel
theorem d_Aligner_kindOfPair_12 : decode zm_Aligner_kindOfPair.2.2.1 12 = .ok (.iload_n 1, 1) := by decide +kernel
theorem d_Aligner_kindOfPair_13 : decode zm_Aligner_kindOfPair.2.2.1 13 = .ok (.bipush 97, 2) := by decide +kernel
theorem d_Aligner_kindOfPair_15 : decode zm_Aligner_kindOfPair.2.2.1 15 = .ok (.isub, 1) := by decide +kernel
theorem d_Aligner_kindOfPair_16 : decode zm_Aligner_kindOfPair.2.2.1 16 = .ok (.istore_n 3, 1) := by decide +kernel
theorem d_Aligner_kindOfPair_17 : decode zm_Aligner_kindOfPair.2.2.1 17 = .ok (.iload_n 2, 1) := by decide +kernel
theorem d_Aligner_kindOfPair_18 : decode zm_Aligner_kindOfPair.2.2.1 18 = .ok (.ifCond .lt 23, 3) := by decide +kernel
theorem d_Aligner_kindOfPair_21 : decode zm_Aligner_kindOfPair.2.2.1 21 = .ok (.iload_n 2, 1) := by decide +kernel
theorem d_Aligner_kindOfPair_22 : decode zm_Aligner_kindOfPair.2.2.1 22 = .ok (.getstatic 59, 3) := by decide +kernel
theorem d_Aligner_kindOfPair_25 : decode zm_Aligner_kindOfPair.2.2.1 25 = .ok (.arraylength, 1) := by decide +kernel
theorem d_Aligner_kindOfPair_26 : decode zm_Aligner_kindOfPair.2.2.1 26 = .ok (.if_icmp .ge 15, 3) := by decide +kernel
theorem d_Aligner_kindOfPair_29 : decode zm_Aligner_kindOfPair.2.2.1 29 = .ok (.iload_n 3, 1) := by decide +kernel
theorem d_Aligner_kindOfPair_30 : decode zm_Aligner_kindOfPair.2.2.1 30 = .ok (.ifCond .lt 11, 3) := by decide +kernel
theorem d_Aligner_kindOfPair_33 : decode zm_Aligner_kindOfPair.2.2.1 33 = .ok (.iload_n 3, 1) := by decide +kernel
theorem d_Aligner_kindOfPair_34 : decode zm_Aligner_kindOfPair.2.2.1 34 = .ok (.getstatic 59, 3) := by decide +kernel
theorem d_Aligner_kindOfPair_37 : decode zm_Aligner_kindOfPair.2.2.1 37 = .ok (.arraylength, 1) := by decide +kernel
theorem d_Aligner_kindOfPair_38 : decode zm_Aligner_kindOfPair.2.2.1 38 = .ok (.if_icmp .lt 5, 3) := by decide +kernel
theorem d_Aligner_kindOfPair_41 : decode zm_Aligner_kindOfPair.2.2.1 41 = .ok (.iconst 4, 1) := by decide +kernel
theorem d_Aligner_kindOfPair_42 : decode zm_Aligner_kindOfPair.2.2.1 42 = .ok (.ireturn, 1) := by decide +kernel
theorem d_Aligner_kindOfPair_43 : decode zm_Aligner_kindOfPair.2.2.1 43 = .ok (.getstatic 59, 3) := by decide +kernel
theorem d_Aligner_kindOfPair_46 : decode zm_Aligner_kindOfPair.2.2.1 46 = .ok (.iload_n 2, 1) := by decide +kernel
theorem d_Aligner_kindOfPair_47 : decode zm_Aligner_kindOfPair.2.2.1 47 = .ok (.iaload, 1) := by decide +kernel
theorem d_Aligner_kindOfPair_48 : decode zm_Aligner_kindOfPair.2.2.1 48 = .ok (.ifCond .eq 20, 3) := by decide +kernel
theorem d_Aligner_kindOfPair_51 : decode zm_Aligner_kindOfPair.2.2.1 51 = .ok (.getstatic 59, 3) := by decide +kernel
theorem d_Aligner_kindOfPair_54 : decode zm_Aligner_kindOfPair.2.2.1 54 = .ok (.iload_n 2, 1) := by decide +kernel
theorem d_Aligner_kindOfPair_55 : decode zm_Aligner_kindOfPair.2.2.1 55 = .ok (.iaload, 1) := by decide +kernel
theorem d_Aligner_kindOfPair_56 : decode zm_Aligner_kindOfPair.2.2.1 56 = .ok (.getstatic 59, 3) := by decide +kernel
theorem d_Aligner_kindOfPair_59 : decode zm_Aligner_kindOfPair.2.2.1 59 = .ok (.iload_n 3, 1) := by decide +kernel
theorem d_Aligner_kindOfPair_60 : decode zm_Aligner_kindOfPair.2.2.1 60 = .ok (.iaload, 1) := by decide +kernel
theorem d_Aligner_kindOfPair_61 : decode zm_Aligner_kindOfPair.2.2.1 61 = .ok (.if_icmp .ne 7, 3) := by decide +kernel
theorem d_Aligner_kindOfPair_64 : decode zm_Aligner_kindOfPair.2.2.1 64 = .ok (.iconst 1, 1) := by decide +kernel
theorem d_Aligner_kindOfPair_65 : decode zm_Aligner_kindOfPair.2.2.1 65 = .ok (.goto 4, 3) := by decide +kernel
theorem d_Aligner_kindOfPair_68 : decode zm_Aligner_kindOfPair.2.2.1 68 = .ok (.iconst 0, 1) := by decide +kernel
theorem d_Aligner_kindOfPair_69 : decode zm_Aligner_kindOfPair.2.2.1 69 = .ok (.istore 4, 2) := by decide +kernel
theorem d_Aligner_kindOfPair_71 : decode zm_Aligner_kindOfPair.2.2.1 71 = .ok (.iload 4, 2) := by decide +kernel
theorem d_Aligner_kindOfPair_73 : decode zm_Aligner_kindOfPair.2.2.1 73 = .ok (.ifCond .eq 7, 3) := by decide +kernel
theorem d_Aligner_kindOfPair_76 : decode zm_Aligner_kindOfPair.2.2.1 76 = .ok (.iconst 3, 1) := by decide +kernel
theorem d_Aligner_kindOfPair_77 : decode zm_Aligner_kindOfPair.2.2.1 77 = .ok (.goto 4, 3) := by decide +kernel
theorem d_Aligner_kindOfPair_80 : decode zm_Aligner_kindOfPair.2.2.1 80 = .ok (.iconst 4, 1) := by decide +kernel
theorem d_Aligner_kindOfPair_81 : decode zm_Aligner_kindOfPair.2.2.1 81 = .ok (.ireturn, 1) := by decide +kernel
theorem d_Coll_size_0 : decode zm_Coll_size.2.2.1 0 = .ok (.aload_n 0, 1) := by decide +kernel
theorem d_Coll_size_1 : decode zm_Coll_size.2.2.1 1 = .ok (.getfield 30, 3) := by decide +kernel
theorem d_Coll_size_4 : decode zm_Coll_size.2.2.1 4 = .ok (.ireturn, 1) := by decide +kernel
theorem d_Coll_reach_0 : decode zm_Coll_reach.2.2.1 0 = .ok (.aload_n 0, 1) := by decide +kernel
theorem d_Coll_reach_1 : decode zm_Coll_reach.2.2.1 1 = .ok (.getfield 34, 3) := by decide +kernel
theorem d_Coll_reach_4 : decode zm_Coll_reach.2.2.1 4 = .ok (.ireturn, 1) := by decide +kernel
theorem d_Coll_changes_0 : decode zm_Coll_changes.2.2.1 0 = .ok (.aload_n 0, 1) := by decide +kernel
theorem d_Coll_changes_1 : decode zm_Coll_changes.2.2.1 1 = .ok (.getfield 37, 3) := by decide +kernel
theorem d_Coll_changes_4 : decode zm_Coll_changes.2.2.1 4 = .ok (.ireturn, 1) := by decide +kernel
theorem d_Coll_has_0 : decode zm_Coll_has.2.2.1 0 = .ok (.iload_n 1, 1) := by decide +kernel
theorem d_Coll_has_1 : decode zm_Coll_has.2.2.1 1 = .ok (.ifCond .lt 15, 3) := by decide +kernel
theorem d_Coll_has_4 : decode zm_Coll_has.2.2.1 4 = .ok (.iload_n 1, 1) := by decide +kernel
theorem d_Coll_has_5 : decode zm_Coll_has.2.2.1 5 = .ok (.aload_n 0, 1) := by decide +kernel
theorem d_Coll_has_6 : decode zm_Coll_has.2.2.1 6 = .ok (.getfield 30, 3) := by decide +kernel
theorem d_Coll_has_9 : decode zm_Coll_has.2.2.1 9 = .ok (.if_icmp .ge 7, 3) := by decide +kernel
theorem d_Coll_has_12 : decode zm_Coll_has.2.2.1 12 = .ok (.iconst 1, 1) := by decide +kernel
theorem d_Coll_has_13 : decode zm_Coll_has.2.2.1 13 = .ok (.goto 4, 3) := by decide +kernel
theorem d_Coll_has_16 : decode zm_Coll_has.2.2.1 16 = .ok (.iconst 0, 1) := by decide +kernel
theorem d_Coll_has_17 : decode zm_Coll_has.2.2.1 17 = .ok (.ireturn, 1) := by decide +kernel
theorem d_Coll_text_0 : decode zm_Coll_text.2.2.1 0 = .ok (.aload_n 0, 1) := by decide +kernel
theorem d_Coll_text_1 : decode zm_Coll_text.2.2.1 1 = .ok (.getfield 11, 3) := by decide +kernel
theorem d_Coll_text_4 : decode zm_Coll_text.2.2.1 4 = .ok (.aload_n 0, 1) := by decide +kernel
theorem d_Coll_text_5 : decode zm_Coll_text.2.2.1 5 = .ok (.iload_n 1, 1) := by decide +kernel
theorem d_Coll_text_6 : decode zm_Coll_text.2.2.1 6 = .ok (.invokevirtual 42, 3) := by decide +kernel
theorem d_Coll_text_9 : decode zm_Coll_text.2.2.1 9 = .ok (.ifCond .eq 7, 3) := by decide +kernel
theorem d_Coll_text_12 : decode zm_Coll_text.2.2.1 12 = .ok (.iload_n 1, 1) := by decide +kernel
theorem d_Coll_text_13 : decode zm_Coll_text.2.2.1 13 = .ok (.goto 4, 3) := by decide +kernel
theorem d_Coll_text_16 : decode zm_Coll_text.2.2.1 16 = .ok (.iconst 0, 1) := by decide +kernel
theorem d_Coll_text_17 : decode zm_Coll_text.2.2.1 17 = .ok (.aaload, 1) := by decide +kernel
theorem d_Coll_text_18 : decode zm_Coll_text.2.2.1 18 = .ok (.areturn, 1) := by decide +kernel
theorem d_Coll_put_0 : decode zm_Coll_put.2.2.1 0 = .ok (.iload_n 1, 1) := by decide +kernel
theorem d_Coll_put_1 : decode zm_Coll_put.2.2.1 1 = .ok (.ifCond .lt 17, 3) := by decide +kernel
theorem d_Coll_put_4 : decode zm_Coll_put.2.2.1 4 = .ok (.iload_n 1, 1) := by decide +kernel
theorem d_Coll_put_5 : decode zm_Coll_put.2.2.1 5 = .ok (.aload_n 0, 1) := by decide +kernel
theorem d_Coll_put_6 : decode zm_Coll_put.2.2.1 6 = .ok (.getfield 30, 3) := by decide +kernel
theorem d_Coll_put_9 : decode zm_Coll_put.2.2.1 9 = .ok (.if_icmp .gt 9, 3) := by decide +kernel
theorem d_Coll_put_12 : decode zm_Coll_put.2.2.1 12 = .ok (.iload_n 1, 1) := by decide +kernel
theorem d_Coll_put_13 : decode zm_Coll_put.2.2.1 13 = .ok (.bipush 6, 2) := by decide +kernel
theorem d_Coll_put_15 : decode zm_Coll_put.2.2.1 15 = .ok (.if_icmp .lt 4, 3) := by decide +kernel
theorem d_Coll_put_18 : decode zm_Coll_put.2.2.1 18 = .ok (.return_, 1) := by decide +kernel
theorem d_Coll_put_19 : decode zm_Coll_put.2.2.1 19 = .ok (.aload_n 0, 1) := by decide +kernel
theorem d_Coll_put_20 : decode zm_Coll_put.2.2.1 20 = .ok (.aload_n 0, 1) := by decide +kernel
theorem d_Coll_put_21 : decode zm_Coll_put.2.2.1 21 = .ok (.getfield 30, 3) := by decide +kernel
theorem d_Coll_put_24 : decode zm_Coll_put.2.2.1 24 = .ok (.iload_n 1, 1) := by decide +kernel
theorem d_Coll_put_25 : decode zm_Coll_put.2.2.1 25 = .ok (.iconst 1, 1) := by decide +kernel
theorem d_Coll_put_26 : decode zm_Coll_put.2.2.1 26 = .ok (.iadd, 1) := by decide +kernel
theorem d_Coll_put_27 : decode zm_Coll_put.2.2.1 27 = .ok (.invokestatic 46, 3) := by decide +kernel
theorem d_Coll_put_30 : decode zm_Coll_put.2.2.1 30 = .ok (.putfield 30, 3) := by decide +kernel
theorem d_Coll_put_33 : decode zm_Coll_put.2.2.1 33 = .ok (.aload_n 0, 1) := by decide +kernel
theorem d_Coll_put_34 : decode zm_Coll_put.2.2.1 34 = .ok (.getfield 11, 3) := by decide +kernel
theorem d_Coll_put_37 : decode zm_Coll_put.2.2.1 37 = .ok (.iload_n 1, 1) := by decide +kernel
theorem d_Coll_put_38 : decode zm_Coll_put.2.2.1 38 = .ok (.aaload, 1) := by decide +kernel
theorem d_Coll_put_39 : decode zm_Coll_put.2.2.1 39 = .ok (.aload_n 2, 1) := by decide +kernel
theorem d_Coll_put_40 : decode zm_Coll_put.2.2.1 40 = .ok (.invokevirtual 52, 3) := by decide +kernel
theorem d_Coll_put_43 : decode zm_Coll_put.2.2.1 43 = .ok (.iconst 0, 1) := by decide +kernel
theorem d_Coll_put_44 : decode zm_Coll_put.2.2.1 44 = .ok (.istore_n 3, 1) := by decide +kernel
theorem d_Coll_put_45 : decode zm_Coll_put.2.2.1 45 = .ok (.iload_n 3, 1) := by decide +kernel
theorem d_Coll_put_46 : decode zm_Coll_put.2.2.1 46 = .ok (.bipush 6, 2) := by decide +kernel
theorem d_Coll_put_48 : decode zm_Coll_put.2.2.1 48 = .ok (.if_icmp .ge 37, 3) := by decide +kernel
theorem d_Coll_put_51 : decode zm_Coll_put.2.2.1 51 = .ok (.aload_n 0, 1) := by decide +kernel
theorem d_Coll_put_52 : decode zm_Coll_put.2.2.1 52 = .ok (.getfield 19, 3) := by decide +kernel
theorem d_Coll_put_55 : decode zm_Coll_put.2.2.1 55 = .ok (.iload_n 1, 1) := by decide +kernel
theorem d_Coll_put_56 : decode zm_Coll_put.2.2.1 56 = .ok (.bipush 6, 2) := by decide +kernel
theorem d_Coll_put_58 : decode zm_Coll_put.2.2.1 58 = .ok (.imul, 1) := by decide +kernel
theorem d_Coll_put_59 : decode zm_Coll_put.2.2.1 59 = .ok (.iload_n 3, 1) := by decide +kernel
theorem d_Coll_put_60 : decode zm_Coll_put.2.2.1 60 = .ok (.iadd, 1) := by decide +kernel
theorem d_Coll_put_61 : decode zm_Coll_put.2.2.1 61 = .ok (.aaload, 1) := by decide +kernel
theorem d_Coll_put_62 : decode zm_Coll_put.2.2.1 62 = .ok (.invokevirtual 56, 3) := by decide +kernel
theorem d_Coll_put_65 : decode zm_Coll_put.2.2.1 65 = .ok (.aload_n 0, 1) := by decide +kernel
theorem d_Coll_put_66 : decode zm_Coll_put.2.2.1 66 = .ok (.getfield 19, 3) := by decide +kernel
theorem d_Coll_put_69 : decode zm_Coll_put.2.2.1 69 = .ok (.iload_n 3, 1) := by decide +kernel
theorem d_Coll_put_70 : decode zm_Coll_put.2.2.1 70 = .ok (.bipush 6, 2) := by decide +kernel
theorem d_Coll_put_72 : decode zm_Coll_put.2.2.1 72 = .ok (.imul, 1) := by decide +kernel
theorem d_Coll_put_73 : decode zm_Coll_put.2.2.1 73 = .ok (.iload_n 1, 1) := by decide +kernel
theorem d_Coll_put_74 : decode zm_Coll_put.2.2.1 74 = .ok (.iadd, 1) := by decide +kernel
theorem d_Coll_put_75 : decode zm_Coll_put.2.2.1 75 = .ok (.aaload, 1) := by decide +kernel
theorem d_Coll_put_76 : decode zm_Coll_put.2.2.1 76 = .ok (.invokevirtual 56, 3) := by decide +kernel
theorem d_Coll_put_79 : decode zm_Coll_put.2.2.1 79 = .ok (.iinc 3 1, 3) := by decide +kernel
theorem d_Coll_put_82 : decode zm_Coll_put.2.2.1 82 = .ok (.goto (-37), 3) := by decide +kernel
theorem d_Coll_put_85 : decode zm_Coll_put.2.2.1 85 = .ok (.aload_n 0, 1) := by decide +kernel
theorem d_Coll_put_86 : decode zm_Coll_put.2.2.1 86 = .ok (.dup, 1) := by decide +kernel
theorem d_Coll_put_87 : decode zm_Coll_put.2.2.1 87 = .ok (.getfield 37, 3) := by decide +kernel
theorem d_Coll_put_90 : decode zm_Coll_put.2.2.1 90 = .ok (.iconst 1, 1) := by decide +kernel
theorem d_Coll_put_91 : decode zm_Coll_put.2.2.1 91 = .ok (.iadd, 1) := by decide +kernel
theorem d_Coll_put_92 : decode zm_Coll_put.2.2.1 92 = .ok (.putfield 37, 3) := by decide +kernel
theorem d_Coll_put_95 : decode zm_Coll_put.2.2.1 95 = .ok (.return_, 1) := by decide +kernel
theorem d_Coll_removeLast_0 : decode zm_Coll_removeLast.2.2.1 0 = .ok (.aload_n 0, 1) := by decide +kernel
theorem d_Coll_removeLast_1 : decode zm_Coll_removeLast.2.2.1 1 = .ok (.getfield 30, 3) := by decide +kernel
theorem d_Coll_removeLast_4 : decode zm_Coll_removeLast.2.2.1 4 = .ok (.ifCond .le 35, 3) := by decide +kernel
theorem d_Coll_removeLast_7 : decode zm_Coll_removeLast.2.2.1 7 = .ok (.aload_n 0, 1) := by decide +kernel
theorem d_Coll_removeLast_8 : decode zm_Coll_removeLast.2.2.1 8 = .ok (.dup, 1) := by decide +kernel
theorem d_Coll_removeLast_9 : decode zm_Coll_removeLast.2.2.1 9 = .ok (.getfield 30, 3) := by decide +kernel
theorem d_Coll_removeLast_12 : decode zm_Coll_removeLast.2.2.1 12 = .ok (.iconst 1, 1) := by decide +kernel
theorem d_Coll_removeLast_13 : decode zm_Coll_removeLast.2.2.1 13 = .ok (.isub, 1) := by decide +kernel
theorem d_Coll_removeLast_14 : decode zm_Coll_removeLast.2.2.1 14 = .ok (.putfield 30, 3) := by decide +kernel
theorem d_Coll_removeLast_17 : decode zm_Coll_removeLast.2.2.1 17 = .ok (.aload_n 0, 1) := by decide +kernel
theorem d_Coll_removeLast_18 : decode zm_Coll_removeLast.2.2.1 18 = .ok (.getfield 11, 3) := by decide +kernel
theorem d_Coll_removeLast_21 : decode zm_Coll_removeLast.2.2.1 21 = .ok (.aload_n 0, 1) := by decide +kernel
theorem d_Coll_removeLast_22 : decode zm_Coll_removeLast.2.2.1 22 = .ok (.getfield 30, 3) := by decide +kernel
theorem d_Coll_removeLast_25 : decode zm_Coll_removeLast.2.2.1 25 = .ok (.aaload, 1) := by decide +kernel
theorem d_Coll_removeLast_26 : decode zm_Coll_removeLast.2.2.1 26 = .ok (.invokevirtual 59, 3) := by decide +kernel
theorem d_Coll_removeLast_29 : decode zm_Coll_removeLast.2.2.1 29 = .ok (.aload_n 0, 1) := by decide +kernel
theorem d_Coll_removeLast_30 : decode zm_Coll_removeLast.2.2.1 30 = .ok (.dup, 1) := by decide +kernel
theorem d_Coll_removeLast_31 : decode zm_Coll_removeLast.2.2.1 31 = .ok (.getfield 37, 3) := by decide +kernel
theorem d_Coll_removeLast_34 : decode zm_Coll_removeLast.2.2.1 34 = .ok (.iconst 1, 1) := by decide +kernel
theorem d_Coll_removeLast_35 : decode zm_Coll_removeLast.2.2.1 35 = .ok (.iadd, 1) := by decide +kernel
theorem d_Coll_removeLast_36 : decode zm_Coll_removeLast.2.2.1 36 = .ok (.putfield 37, 3) := by decide +kernel
theorem d_Coll_removeLast_39 : decode zm_Coll_removeLast.2.2.1 39 = .ok (.return_, 1) := by decide +kernel
theorem d_Coll_setReach_0 : decode zm_Coll_setReach.2.2.1 0 = .ok (.iload_n 1, 1) := by decide +kernel
theorem d_Coll_setReach_1 : decode zm_Coll_setReach.2.2.1 1 = .ok (.aload_n 0, 1) := by decide +kernel
theorem d_Coll_setReach_2 : decode zm_Coll_setReach.2.2.1 2 = .ok (.getfield 34, 3) := by decide +kernel
theorem d_Coll_setReach_5 : decode zm_Coll_setReach.2.2.1 5 = .ok (.if_icmp .ne 4, 3) := by decide +kernel
theorem d_Coll_setReach_8 : decode zm_Coll_setReach.2.2.1 8 = .ok (.return_, 1) := by decide +kernel
theorem d_Coll_setReach_9 : decode zm_Coll_setReach.2.2.1 9 = .ok (.aload_n 0, 1) := by decide +kernel
theorem d_Coll_setReach_10 : decode zm_Coll_setReach.2.2.1 10 = .ok (.iload_n 1, 1) := by decide +kernel
theorem d_Coll_setReach_11 : decode zm_Coll_setReach.2.2.1 11 = .ok (.putfield 34, 3) := by decide +kernel
theorem d_Coll_setReach_14 : decode zm_Coll_setReach.2.2.1 14 = .ok (.iconst 0, 1) := by decide +kernel
theorem d_Coll_setReach_15 : decode zm_Coll_setReach.2.2.1 15 = .ok (.istore_n 2, 1) := by decide +kernel
theorem d_Coll_setReach_16 : decode zm_Coll_setReach.2.2.1 16 = .ok (.iload_n 2, 1) := by decide +kernel
theorem d_Coll_setReach_17 : decode zm_Coll_setReach.2.2.1 17 = .ok (.aload_n 0, 1) := by decide +kernel
theorem d_Coll_setReach_18 : decode zm_Coll_setReach.2.2.1 18 = .ok (.getfield 19, 3) := by decide +kernel
theorem d_Coll_setReach_21 : decode zm_Coll_setReach.2.2.1 21 = .ok (.arraylength, 1) := by decide +kernel
theorem d_Coll_setReach_22 : decode zm_Coll_setReach.2.2.1 22 = .ok (.if_icmp .ge 18, 3) := by decide +kernel
theorem d_Coll_setReach_25 : decode zm_Coll_setReach.2.2.1 25 = .ok (.aload_n 0, 1) := by decide +kernel
theorem d_Coll_setReach_26 : decode zm_Coll_setReach.2.2.1 26 = .ok (.getfield 19, 3) := by decide +kernel
theorem d_Coll_setReach_29 : decode zm_Coll_setReach.2.2.1 29 = .ok (.iload_n 2, 1) := by decide +kernel
theorem d_Coll_setReach_30 : decode zm_Coll_setReach.2.2.1 30 = .ok (.aaload, 1) := by decide +kernel
theorem d_Coll_setReach_31 : decode zm_Coll_setReach.2.2.1 31 = .ok (.invokevirtual 56, 3) := by decide +kernel
theorem d_Coll_setReach_34 : decode zm_Coll_setReach.2.2.1 34 = .ok (.iinc 2 1, 3) := by decide +kernel
theorem d_Coll_setReach_37 : decode zm_Coll_setReach.2.2.1 37 = .ok (.goto (-21), 3) := by decide +kernel
theorem d_Coll_setReach_40 : decode zm_Coll_setReach.2.2.1 40 = .ok (.aload_n 0, 1) := by decide +kernel
theorem d_Coll_setReach_41 : decode zm_Coll_setReach.2.2.1 41 = .ok (.dup, 1) := by decide +kernel
theorem d_Coll_setReach_42 : decode zm_Coll_setReach.2.2.1 42 = .ok (.getfield 37, 3) := by decide +kernel
theorem d_Coll_setReach_45 : decode zm_Coll_setReach.2.2.1 45 = .ok (.iconst 1, 1) := by decide +kernel
theorem d_Coll_setReach_46 : decode zm_Coll_setReach.2.2.1 46 = .ok (.iadd, 1) := by decide +kernel
theorem d_Coll_setReach_47 : decode zm_Coll_setReach.2.2.1 47 = .ok (.putfield 37, 3) := by decide +kernel
theorem d_Coll_setReach_50 : decode zm_Coll_setReach.2.2.1 50 = .ok (.return_, 1) := by decide +kernel
theorem d_Coll_best_0 : decode zm_Coll_best.2.2.1 0 = .ok (.aload_n 0, 1) := by decide +kernel
theorem d_Coll_best_1 : decode zm_Coll_best.2.2.1 1 = .ok (.iload_n 1, 1) := by decide +kernel
theorem d_Coll_best_2 : decode zm_Coll_best.2.2.1 2 = .ok (.invokevirtual 42, 3) := by decide +kernel
theorem d_Coll_best_5 : decode zm_Coll_best.2.2.1 5 = .ok (.ifCond .eq 20, 3) := by decide +kernel
theorem d_Coll_best_8 : decode zm_Coll_best.2.2.1 8 = .ok (.aload_n 0, 1) := by decide +kernel
theorem d_Coll_best_9 : decode zm_Coll_best.2.2.1 9 = .ok (.iload_n 2, 1) := by decide +kernel
theorem d_Coll_best_10 : decode zm_Coll_best.2.2.1 10 = .ok (.invokevirtual 42, 3) := by decide +kernel
theorem d_Coll_best_13 : decode zm_Coll_best.2.2.1 13 = .ok (.ifCond .eq 12, 3) := by decide +kernel
theorem d_Coll_best_16 : decode zm_Coll_best.2.2.1 16 = .ok (.iload_n 1, 1) := by decide +kernel
theorem d_Coll_best_17 : decode zm_Coll_best.2.2.1 17 = .ok (.bipush 6, 2) := by decide +kernel
theorem d_Coll_best_19 : decode zm_Coll_best.2.2.1 19 = .ok (.imul, 1) := by decide +kernel
theorem d_Coll_best_20 : decode zm_Coll_best.2.2.1 20 = .ok (.iload_n 2, 1) := by decide +kernel
theorem d_Coll_best_21 : decode zm_Coll_best.2.2.1 21 = .ok (.iadd, 1) := by decide +kernel
theorem d_Coll_best_22 : decode zm_Coll_best.2.2.1 22 = .ok (.goto 4, 3) := by decide +kernel
theorem d_Coll_best_25 : decode zm_Coll_best.2.2.1 25 = .ok (.iconst 0, 1) := by decide +kernel
theorem d_Coll_best_26 : decode zm_Coll_best.2.2.1 26 = .ok (.istore_n 3, 1) := by decide +kernel
theorem d_Coll_best_27 : decode zm_Coll_best.2.2.1 27 = .ok (.aload_n 0, 1) := by decide +kernel
theorem d_Coll_best_28 : decode zm_Coll_best.2.2.1 28 = .ok (.getfield 19, 3) := by decide +kernel
theorem d_Coll_best_31 : decode zm_Coll_best.2.2.1 31 = .ok (.iload_n 3, 1) := by decide +kernel
theorem d_Coll_best_32 : decode zm_Coll_best.2.2.1 32 = .ok (.aaload, 1) := by decide +kernel
theorem d_Coll_best_33 : decode zm_Coll_best.2.2.1 33 = .ok (.astore 4, 2) := by decide +kernel
theorem d_Coll_best_35 : decode zm_Coll_best.2.2.1 35 = .ok (.aload 4, 2) := by decide +kernel
theorem d_Coll_best_37 : decode zm_Coll_best.2.2.1 37 = .ok (.invokevirtual 62, 3) := by decide +kernel
theorem d_Coll_best_40 : decode zm_Coll_best.2.2.1 40 = .ok (.ifCond .ne 26, 3) := by decide +kernel
theorem d_Coll_best_43 : decode zm_Coll_best.2.2.1 43 = .ok (.aload_n 0, 1) := by decide +kernel
theorem d_Coll_best_44 : decode zm_Coll_best.2.2.1 44 = .ok (.getfield 26, 3) := by decide +kernel
theorem d_Coll_best_47 : decode zm_Coll_best.2.2.1 47 = .ok (.aload_n 0, 1) := by decide +kernel
theorem d_Coll_best_48 : decode zm_Coll_best.2.2.1 48 = .ok (.iload_n 1, 1) := by decide +kernel
theorem d_Coll_best_49 : decode zm_Coll_best.2.2.1 49 = .ok (.invokevirtual 66, 3) := by decide +kernel
theorem d_Coll_best_52 : decode zm_Coll_best.2.2.1 52 = .ok (.aload_n 0, 1) := by decide +kernel
theorem d_Coll_best_53 : decode zm_Coll_best.2.2.1 53 = .ok (.iload_n 2, 1) := by decide +kernel
theorem d_Coll_best_54 : decode zm_Coll_best.2.2.1 54 = .ok (.invokevirtual 66, 3) := by decide +kernel
theorem d_Coll_best_57 : decode zm_Coll_best.2.2.1 57 = .ok (.aload_n 0, 1) := by decide +kernel
theorem d_Coll_best_58 : decode zm_Coll_best.2.2.1 58 = .ok (.getfield 34, 3) := by decide +kernel
theorem d_Coll_best_61 : decode zm_Coll_best.2.2.1 61 = .ok (.aload 4, 2) := by decide +kernel
theorem d_Coll_best_63 : decode zm_Coll_best.2.2.1 63 = .ok (.invokevirtual 70, 3) := by decide +kernel
theorem d_Coll_best_66 : decode zm_Coll_best.2.2.1 66 = .ok (.aload 4, 2) := by decide +kernel
theorem d_Coll_best_68 : decode zm_Coll_best.2.2.1 68 = .ok (.areturn, 1) := by decide +kernel
theorem d_Stemma_build_0 : decode zm_Stemma_build.2.2.1 0 = .ok (.aload_n 0, 1) := by decide +kernel
theorem d_Stemma_build_1 : decode zm_Stemma_build.2.2.1 1 = .ok (.getfield 48, 3) := by decide +kernel
theorem d_Stemma_build_4 : decode zm_Stemma_build.2.2.1 4 = .ok (.aload_n 1, 1) := by decide +kernel
theorem d_Stemma_build_5 : decode zm_Stemma_build.2.2.1 5 = .ok (.invokevirtual 51, 3) := by decide +kernel
theorem d_Stemma_build_8 : decode zm_Stemma_build.2.2.1 8 = .ok (.if_icmp .ne 4, 3) := by decide +kernel
theorem d_Stemma_build_11 : decode zm_Stemma_build.2.2.1 11 = .ok (.return_, 1) := by decide +kernel
theorem d_Stemma_build_12 : decode zm_Stemma_build.2.2.1 12 = .ok (.aload_n 0, 1) := by decide +kernel
theorem d_Stemma_build_13 : decode zm_Stemma_build.2.2.1 13 = .ok (.aload_n 1, 1) := by decide +kernel
theorem d_Stemma_build_14 : decode zm_Stemma_build.2.2.1 14 = .ok (.invokevirtual 51, 3) := by decide +kernel
theorem d_Stemma_build_17 : decode zm_Stemma_build.2.2.1 17 = .ok (.putfield 48, 3) := by decide +kernel
theorem d_Stemma_build_20 : decode zm_Stemma_build.2.2.1 20 = .ok (.aload_n 0, 1) := by decide +kernel
theorem d_Stemma_build_21 : decode zm_Stemma_build.2.2.1 21 = .ok (.aload_n 1, 1) := by decide +kernel
theorem d_Stemma_build_22 : decode zm_Stemma_build.2.2.1 22 = .ok (.invokevirtual 57, 3) := by decide +kernel
theorem d_Stemma_build_25 : decode zm_Stemma_build.2.2.1 25 = .ok (.ifCond .le 14, 3) := by decide +kernel
theorem d_Stemma_build_28 : decode zm_Stemma_build.2.2.1 28 = .ok (.aload_n 1, 1) := by decide +kernel
theorem d_Stemma_build_29 : decode zm_Stemma_build.2.2.1 29 = .ok (.iconst 0, 1) := by decide +kernel
theorem d_Stemma_build_30 : decode zm_Stemma_build.2.2.1 30 = .ok (.invokevirtual 59, 3) := by decide +kernel
theorem d_Stemma_build_33 : decode zm_Stemma_build.2.2.1 33 = .ok (.invokevirtual 63, 3) := by decide +kernel
theorem d_Stemma_build_36 : decode zm_Stemma_build.2.2.1 36 = .ok (.goto 4, 3) := by decide +kernel
theorem d_Stemma_build_39 : decode zm_Stemma_build.2.2.1 39 = .ok (.iconst 0, 1) := by decide +kernel
theorem d_Stemma_build_40 : decode zm_Stemma_build.2.2.1 40 = .ok (.putfield 42, 3) := by decide +kernel
theorem d_Stemma_build_43 : decode zm_Stemma_build.2.2.1 43 = .ok (.aload_n 0, 1) := by decide +kernel
theorem d_Stemma_build_44 : decode zm_Stemma_build.2.2.1 44 = .ok (.iconst 0, 1) := by decide +kernel
theorem d_Stemma_build_45 : decode zm_Stemma_build.2.2.1 45 = .ok (.putfield 38, 3) := by decide +kernel
theorem d_Stemma_build_48 : decode zm_Stemma_build.2.2.1 48 = .ok (.aload_n 0, 1) := by decide +kernel
theorem d_Stemma_build_49 : decode zm_Stemma_build.2.2.1 49 = .ok (.iconst 0, 1) := by decide +kernel
theorem d_Stemma_build_50 : decode zm_Stemma_build.2.2.1 50 = .ok (.putfield 45, 3) := by decide +kernel
theorem d_Stemma_build_53 : decode zm_Stemma_build.2.2.1 53 = .ok (.iconst 0, 1) := by decide +kernel
theorem d_Stemma_build_54 : decode zm_Stemma_build.2.2.1 54 = .ok (.istore_n 2, 1) := by decide +kernel
theorem d_Stemma_build_55 : decode zm_Stemma_build.2.2.1 55 = .ok (.iload_n 2, 1) := by decide +kernel
theorem d_Stemma_build_56 : decode zm_Stemma_build.2.2.1 56 = .ok (.aload_n 1, 1) := by decide +kernel
theorem d_Stemma_build_57 : decode zm_Stemma_build.2.2.1 57 = .ok (.invokevirtual 57, 3) := by decide +kernel
theorem d_Stemma_build_60 : decode zm_Stemma_build.2.2.1 60 = .ok (.if_icmp .ge 59, 3) := by decide +kernel
theorem d_Stemma_build_63 : decode zm_Stemma_build.2.2.1 63 = .ok (.aload_n 1, 1) := by decide +kernel
theorem d_Stemma_build_64 : decode zm_Stemma_build.2.2.1 64 = .ok (.iconst 0, 1) := by decide +kernel
theorem d_Stemma_build_65 : decode zm_Stemma_build.2.2.1 65 = .ok (.iload_n 2, 1) := by decide +kernel
theorem d_Stemma_build_66 : decode zm_Stemma_build.2.2.1 66 = .ok (.invokevirtual 66, 3) := by decide +kernel
theorem d_Stemma_build_69 : decode zm_Stemma_build.2.2.1 69 = .ok (.astore_n 3, 1) := by decide +kernel
theorem d_Stemma_build_70 : decode zm_Stemma_build.2.2.1 70 = .ok (.aload_n 3, 1) := by decide +kernel
theorem d_Stemma_build_71 : decode zm_Stemma_build.2.2.1 71 = .ok (.invokevirtual 70, 3) := by decide +kernel
theorem d_Stemma_build_74 : decode zm_Stemma_build.2.2.1 74 = .ok (.ifCond .eq 22, 3) := by decide +kernel
theorem d_Stemma_build_77 : decode zm_Stemma_build.2.2.1 77 = .ok (.aload_n 0, 1) := by decide +kernel
theorem d_Stemma_build_78 : decode zm_Stemma_build.2.2.1 78 = .ok (.iload_n 2, 1) := by decide +kernel
theorem d_Stemma_build_79 : decode zm_Stemma_build.2.2.1 79 = .ok (.aload_n 1, 1) := by decide +kernel
theorem d_Stemma_build_80 : decode zm_Stemma_build.2.2.1 80 = .ok (.iload_n 2, 1) := by decide +kernel
theorem d_Stemma_build_81 : decode zm_Stemma_build.2.2.1 81 = .ok (.invokevirtual 59, 3) := by decide +kernel
theorem d_Stemma_build_84 : decode zm_Stemma_build.2.2.1 84 = .ok (.aload_n 3, 1) := by decide +kernel
theorem d_Stemma_build_85 : decode zm_Stemma_build.2.2.1 85 = .ok (.invokevirtual 76, 3) := by decide +kernel
theorem d_Stemma_build_88 : decode zm_Stemma_build.2.2.1 88 = .ok (.aload_n 0, 1) := by decide +kernel
theorem d_Stemma_build_89 : decode zm_Stemma_build.2.2.1 89 = .ok (.iload_n 2, 1) := by decide +kernel
theorem d_Stemma_build_90 : decode zm_Stemma_build.2.2.1 90 = .ok (.invokevirtual 80, 3) := by decide +kernel
theorem d_Stemma_build_93 : decode zm_Stemma_build.2.2.1 93 = .ok (.goto 20, 3) := by decide +kernel
theorem d_Stemma_build_96 : decode zm_Stemma_build.2.2.1 96 = .ok (.aload_n 0, 1) := by decide +kernel
theorem d_Stemma_build_97 : decode zm_Stemma_build.2.2.1 97 = .ok (.getfield 16, 3) := by decide +kernel
theorem d_Stemma_build_100 : decode zm_Stemma_build.2.2.1 100 = .ok (.iload_n 2, 1) := by decide +kernel
theorem d_Stemma_build_101 : decode zm_Stemma_build.2.2.1 101 = .ok (.iconst (-1), 1) := by decide +kernel
theorem d_Stemma_build_102 : decode zm_Stemma_build.2.2.1 102 = .ok (.iastore, 1) := by decide +kernel
theorem d_Stemma_build_103 : decode zm_Stemma_build.2.2.1 103 = .ok (.aload_n 0, 1) := by decide +kernel
theorem d_Stemma_build_104 : decode zm_Stemma_build.2.2.1 104 = .ok (.dup, 1) := by decide +kernel
theorem d_Stemma_build_105 : decode zm_Stemma_build.2.2.1 105 = .ok (.getfield 45, 3) := by decide +kernel
theorem d_Stemma_build_108 : decode zm_Stemma_build.2.2.1 108 = .ok (.iconst 1, 1) := by decide +kernel
theorem d_Stemma_build_109 : decode zm_Stemma_build.2.2.1 109 = .ok (.iadd, 1) := by decide +kernel
theorem d_Stemma_build_110 : decode zm_Stemma_build.2.2.1 110 = .ok (.putfield 45, 3) := by decide +kernel
theorem d_Stemma_build_113 : decode zm_Stemma_build.2.2.1 113 = .ok (.iinc 2 1, 3) := by decide +kernel
theorem d_Stemma_build_116 : decode zm_Stemma_build.2.2.1 116 = .ok (.goto (-61), 3) := by decide +kernel
theorem d_Stemma_build_119 : decode zm_Stemma_build.2.2.1 119 = .ok (.aload_n 0, 1) := by decide +kernel
theorem d_Stemma_build_120 : decode zm_Stemma_build.2.2.1 120 = .ok (.invokevirtual 84, 3) := by decide +kernel
theorem d_Stemma_build_123 : decode zm_Stemma_build.2.2.1 123 = .ok (.aload_n 0, 1) := by decide +kernel
theorem d_Stemma_build_124 : decode zm_Stemma_build.2.2.1 124 = .ok (.invokevirtual 87, 3) := by decide +kernel
theorem d_Stemma_build_127 : decode zm_Stemma_build.2.2.1 127 = .ok (.return_, 1) := by decide +kernel
theorem d_Stemma_read_0 : decode zm_Stemma_read.2.2.1 0 = .ok (.iconst 0, 1) := by decide +kernel
theorem d_Stemma_read_1 : decode zm_Stemma_read.2.2.1 1 = .ok (.istore 4, 2) := by decide +kernel
theorem d_Stemma_read_3 : decode zm_Stemma_read.2.2.1 3 = .ok (.iconst 0, 1) := by decide +kernel
theorem d_Stemma_read_4 : decode zm_Stemma_read.2.2.1 4 = .ok (.istore 5, 2) := by decide +kernel
theorem d_Stemma_read_6 : decode zm_Stemma_read.2.2.1 6 = .ok (.iconst 0, 1) := by decide +kernel
theorem d_Stemma_read_7 : decode zm_Stemma_read.2.2.1 7 = .ok (.istore 6, 2) := by decide +kernel
theorem d_Stemma_read_9 : decode zm_Stemma_read.2.2.1 9 = .ok (.iload 6, 2) := by decide +kernel
theorem d_Stemma_read_11 : decode zm_Stemma_read.2.2.1 11 = .ok (.aload_n 3, 1) := by decide +kernel
theorem d_Stemma_read_12 : decode zm_Stemma_read.2.2.1 12 = .ok (.invokevirtual 90, 3) := by decide +kernel
theorem d_Stemma_read_15 : decode zm_Stemma_read.2.2.1 15 = .ok (.if_icmp .ge 68, 3) := by decide +kernel
theorem d_Stemma_read_18 : decode zm_Stemma_read.2.2.1 18 = .ok (.aload_n 3, 1) := by decide +kernel
theorem d_Stemma_read_19 : decode zm_Stemma_read.2.2.1 19 = .ok (.iload 6, 2) := by decide +kernel
theorem d_Stemma_read_21 : decode zm_Stemma_read.2.2.1 21 = .ok (.invokevirtual 93, 3) := by decide +kernel
theorem d_Stemma_read_24 : decode zm_Stemma_read.2.2.1 24 = .ok (.istore 7, 2) := by decide +kernel
theorem d_Stemma_read_26 : decode zm_Stemma_read.2.2.1 26 = .ok (.iload 7, 2) := by decide +kernel
theorem d_Stemma_read_28 : decode zm_Stemma_read.2.2.1 28 = .ok (.iconst 2, 1) := by decide +kernel
theorem d_Stemma_read_29 : decode zm_Stemma_read.2.2.1 29 = .ok (.if_icmp .eq 39, 3) := by decide +kernel
theorem d_Stemma_read_32 : decode zm_Stemma_read.2.2.1 32 = .ok (.iload 4, 2) := by decide +kernel
theorem d_Stemma_read_34 : decode zm_Stemma_read.2.2.1 34 = .ok (.aload_n 0, 1) := by decide +kernel
theorem d_Stemma_read_35 : decode zm_Stemma_read.2.2.1 35 = .ok (.getfield 42, 3) := by decide +kernel
theorem d_Stemma_read_38 : decode zm_Stemma_read.2.2.1 38 = .ok (.if_icmp .ge 30, 3) := by decide +kernel
theorem d_Stemma_read_41 : decode zm_Stemma_read.2.2.1 41 = .ok (.aload_n 0, 1) := by decide +kernel
theorem d_Stemma_read_42 : decode zm_Stemma_read.2.2.1 42 = .ok (.getfield 11, 3) := by decide +kernel
theorem d_Stemma_read_45 : decode zm_Stemma_read.2.2.1 45 = .ok (.iload_n 1, 1) := by decide +kernel
theorem d_Stemma_read_46 : decode zm_Stemma_read.2.2.1 46 = .ok (.aaload, 1) := by decide +kernel
theorem d_Stemma_read_47 : decode zm_Stemma_read.2.2.1 47 = .ok (.iload 4, 2) := by decide +kernel
theorem d_Stemma_read_49 : decode zm_Stemma_read.2.2.1 49 = .ok (.iload 7, 2) := by decide +kernel
theorem d_Stemma_read_51 : decode zm_Stemma_read.2.2.1 51 = .ok (.ifCond .ne 12, 3) := by decide +kernel
theorem d_Stemma_read_54 : decode zm_Stemma_read.2.2.1 54 = .ok (.aload_n 2, 1) := by decide +kernel
theorem d_Stemma_read_55 : decode zm_Stemma_read.2.2.1 55 = .ok (.iload 5, 2) := by decide +kernel
theorem d_Stemma_read_57 : decode zm_Stemma_read.2.2.1 57 = .ok (.invokevirtual 97, 3) := by decide +kernel
theorem d_Stemma_read_60 : decode zm_Stemma_read.2.2.1 60 = .ok (.goto 4, 3) := by decide +kernel
theorem d_Stemma_read_63 : decode zm_Stemma_read.2.2.1 63 = .ok (.iconst (-1), 1) := by decide +kernel
theorem d_Stemma_read_64 : decode zm_Stemma_read.2.2.1 64 = .ok (.iastore, 1) := by decide +kernel
theorem d_Stemma_read_65 : decode zm_Stemma_read.2.2.1 65 = .ok (.iinc 4 1, 3) := by decide +kernel
theorem d_Stemma_read_68 : decode zm_Stemma_read.2.2.1 68 = .ok (.iload 7, 2) := by decide +kernel
theorem d_Stemma_read_70 : decode zm_Stemma_read.2.2.1 70 = .ok (.iconst 1, 1) := by decide +kernel
theorem d_Stemma_read_71 : decode zm_Stemma_read.2.2.1 71 = .ok (.if_icmp .eq 6, 3) := by decide +kernel
theorem d_Stemma_read_74 : decode zm_Stemma_read.2.2.1 74 = .ok (.iinc 5 1, 3) := by decide +kernel
theorem d_Stemma_read_77 : decode zm_Stemma_read.2.2.1 77 = .ok (.iinc 6 1, 3) := by decide +kernel
theorem d_Stemma_read_80 : decode zm_Stemma_read.2.2.1 80 = .ok (.goto (-71), 3) := by decide +kernel
theorem d_Stemma_read_83 : decode zm_Stemma_read.2.2.1 83 = .ok (.return_, 1) := by decide +kernel
theorem d_Stemma_group_0 : decode zm_Stemma_group.2.2.1 0 = .ok (.iconst 0, 1) := by decide +kernel
theorem d_Stemma_group_1 : decode zm_Stemma_group.2.2.1 1 = .ok (.istore_n 2, 1) := by decide +kernel
theorem d_Stemma_group_2 : decode zm_Stemma_group.2.2.1 2 = .ok (.iload_n 2, 1) := by decide +kernel
theorem d_Stemma_group_3 : decode zm_Stemma_group.2.2.1 3 = .ok (.aload_n 0, 1) := by decide +kernel
theorem d_Stemma_group_4 : decode zm_Stemma_group.2.2.1 4 = .ok (.getfield 38, 3) := by decide +kernel
theorem d_Stemma_group_7 : decode zm_Stemma_group.2.2.1 7 = .ok (.if_icmp .ge 41, 3) := by decide +kernel
theorem d_Stemma_group_10 : decode zm_Stemma_group.2.2.1 10 = .ok (.aload_n 0, 1) := by decide +kernel
theorem d_Stemma_group_11 : decode zm_Stemma_group.2.2.1 11 = .ok (.aload_n 0, 1) := by decide +kernel
theorem d_Stemma_group_12 : decode zm_Stemma_group.2.2.1 12 = .ok (.getfield 20, 3) := by decide +kernel
theorem d_Stemma_group_15 : decode zm_Stemma_group.2.2.1 15 = .ok (.iload_n 2, 1) := by decide +kernel
theorem d_Stemma_group_16 : decode zm_Stemma_group.2.2.1 16 = .ok (.iaload, 1) := by decide +kernel
theorem d_Stemma_group_17 : decode zm_Stemma_group.2.2.1 17 = .ok (.iload_n 1, 1) := by decide +kernel
theorem d_Stemma_group_18 : decode zm_Stemma_group.2.2.1 18 = .ok (.invokevirtual 100, 3) := by decide +kernel
theorem d_Stemma_group_21 : decode zm_Stemma_group.2.2.1 21 = .ok (.ifCond .ne 21, 3) := by decide +kernel
theorem d_Stemma_group_24 : decode zm_Stemma_group.2.2.1 24 = .ok (.aload_n 0, 1) := by decide +kernel
theorem d_Stemma_group_25 : decode zm_Stemma_group.2.2.1 25 = .ok (.getfield 16, 3) := by decide +kernel
theorem d_Stemma_group_28 : decode zm_Stemma_group.2.2.1 28 = .ok (.iload_n 1, 1) := by decide +kernel
theorem d_Stemma_group_29 : decode zm_Stemma_group.2.2.1 29 = .ok (.iload_n 2, 1) := by decide +kernel
theorem d_Stemma_group_30 : decode zm_Stemma_group.2.2.1 30 = .ok (.iastore, 1) := by decide +kernel
theorem d_Stemma_group_31 : decode zm_Stemma_group.2.2.1 31 = .ok (.aload_n 0, 1) := by decide +kernel
theorem d_Stemma_group_32 : decode zm_Stemma_group.2.2.1 32 = .ok (.getfield 23, 3) := by decide +kernel
theorem d_Stemma_group_35 : decode zm_Stemma_group.2.2.1 35 = .ok (.iload_n 2, 1) := by decide +kernel
theorem d_Stemma_group_36 : decode zm_Stemma_group.2.2.1 36 = .ok (.dup2, 1) := by decide +kernel
theorem d_Stemma_group_37 : decode zm_Stemma_group.2.2.1 37 = .ok (.iaload, 1) := by decide +kernel
theorem d_Stemma_group_38 : decode zm_Stemma_group.2.2.1 38 = .ok (.iconst 1, 1) := by decide +kernel
theorem d_Stemma_group_39 : decode zm_Stemma_group.2.2.1 39 = .ok (.iadd, 1) := by decide +kernel
theorem d_Stemma_group_40 : decode zm_Stemma_group.2.2.1 40 = .ok (.iastore, 1) := by decide +kernel
theorem d_Stemma_group_41 : decode zm_Stemma_group.2.2.1 41 = .ok (.return_, 1) := by decide +kernel
theorem d_Stemma_group_42 : decode zm_Stemma_group.2.2.1 42 = .ok (.iinc 2 1, 3) := by decide +kernel
theorem d_Stemma_group_45 : decode zm_Stemma_group.2.2.1 45 = .ok (.goto (-43), 3) := by decide +kernel
theorem d_Stemma_group_48 : decode zm_Stemma_group.2.2.1 48 = .ok (.aload_n 0, 1) := by decide +kernel
theorem d_Stemma_group_49 : decode zm_Stemma_group.2.2.1 49 = .ok (.getfield 38, 3) := by decide +kernel
theorem d_Stemma_group_52 : decode zm_Stemma_group.2.2.1 52 = .ok (.bipush 6, 2) := by decide +kernel
theorem d_Stemma_group_54 : decode zm_Stemma_group.2.2.1 54 = .ok (.if_icmp .ge 43, 3) := by decide +kernel
theorem d_Stemma_group_57 : decode zm_Stemma_group.2.2.1 57 = .ok (.aload_n 0, 1) := by decide +kernel
theorem d_Stemma_group_58 : decode zm_Stemma_group.2.2.1 58 = .ok (.getfield 16, 3) := by decide +kernel
theorem d_Stemma_group_61 : decode zm_Stemma_group.2.2.1 61 = .ok (.iload_n 1, 1) := by decide +kernel
theorem d_Stemma_group_62 : decode zm_Stemma_group.2.2.1 62 = .ok (.aload_n 0, 1) := by decide +kernel
theorem d_Stemma_group_63 : decode zm_Stemma_group.2.2.1 63 = .ok (.getfield 38, 3) := by decide +kernel
theorem d_Stemma_group_66 : decode zm_Stemma_group.2.2.1 66 = .ok (.iastore, 1) := by decide +kernel
theorem d_Stemma_group_67 : decode zm_Stemma_group.2.2.1 67 = .ok (.aload_n 0, 1) := by decide +kernel
theorem d_Stemma_group_68 : decode zm_Stemma_group.2.2.1 68 = .ok (.getfield 20, 3) := by decide +kernel
theorem d_Stemma_group_71 : decode zm_Stemma_group.2.2.1 71 = .ok (.aload_n 0, 1) := by decide +kernel
theorem d_Stemma_group_72 : decode zm_Stemma_group.2.2.1 72 = .ok (.getfield 38, 3) := by decide +kernel
theorem d_Stemma_group_75 : decode zm_Stemma_group.2.2.1 75 = .ok (.iload_n 1, 1) := by decide +kernel
theorem d_Stemma_group_76 : decode zm_Stemma_group.2.2.1 76 = .ok (.iastore, 1) := by decide +kernel
theorem d_Stemma_group_77 : decode zm_Stemma_group.2.2.1 77 = .ok (.aload_n 0, 1) := by decide +kernel
theorem d_Stemma_group_78 : decode zm_Stemma_group.2.2.1 78 = .ok (.getfield 23, 3) := by decide +kernel
theorem d_Stemma_group_81 : decode zm_Stemma_group.2.2.1 81 = .ok (.aload_n 0, 1) := by decide +kernel
theorem d_Stemma_group_82 : decode zm_Stemma_group.2.2.1 82 = .ok (.getfield 38, 3) := by decide +kernel
theorem d_Stemma_group_85 : decode zm_Stemma_group.2.2.1 85 = .ok (.iconst 1, 1) := by decide +kernel
theorem d_Stemma_group_86 : decode zm_Stemma_group.2.2.1 86 = .ok (.iastore, 1) := by decide +kernel
theorem d_Stemma_group_87 : decode zm_Stemma_group.2.2.1 87 = .ok (.aload_n 0, 1) := by decide +kernel
theorem d_Stemma_group_88 : decode zm_Stemma_group.2.2.1 88 = .ok (.dup, 1) := by decide +kernel
theorem d_Stemma_group_89 : decode zm_Stemma_group.2.2.1 89 = .ok (.getfield 38, 3) := by decide +kernel
theorem d_Stemma_group_92 : decode zm_Stemma_group.2.2.1 92 = .ok (.iconst 1, 1) := by decide +kernel
theorem d_Stemma_group_93 : decode zm_Stemma_group.2.2.1 93 = .ok (.iadd, 1) := by decide +kernel
theorem d_Stemma_group_94 : decode zm_Stemma_group.2.2.1 94 = .ok (.putfield 38, 3) := by decide +kernel
theorem d_Stemma_group_97 : decode zm_Stemma_group.2.2.1 97 = .ok (.return_, 1) := by decide +kernel
theorem d_Stemma_connect_0 : decode zm_Stemma_connect.2.2.1 0 = .ok (.iconst 0, 1) := by decide +kernel
theorem d_Stemma_connect_1 : decode zm_Stemma_connect.2.2.1 1 = .ok (.istore_n 1, 1) := by decide +kernel
theorem d_Stemma_connect_2 : decode zm_Stemma_connect.2.2.1 2 = .ok (.iload_n 1, 1) := by decide +kernel
theorem d_Stemma_connect_3 : decode zm_Stemma_connect.2.2.1 3 = .ok (.aload_n 0, 1) := by decide +kernel
theorem d_Stemma_connect_4 : decode zm_Stemma_connect.2.2.1 4 = .ok (.getfield 38, 3) := by decide +kernel
theorem d_Stemma_connect_7 : decode zm_Stemma_connect.2.2.1 7 = .ok (.if_icmp .ge 38, 3) := by decide +kernel
theorem d_Stemma_connect_10 : decode zm_Stemma_connect.2.2.1 10 = .ok (.aload_n 0, 1) := by decide +kernel
theorem d_Stemma_connect_11 : decode zm_Stemma_connect.2.2.1 11 = .ok (.getfield 26, 3) := by decide +kernel
theorem d_Stemma_connect_14 : decode zm_Stemma_connect.2.2.1 14 = .ok (.iload_n 1, 1) := by decide +kernel
theorem d_Stemma_connect_15 : decode zm_Stemma_connect.2.2.1 15 = .ok (.iconst (-1), 1) := by decide +kernel
theorem d_Stemma_connect_16 : decode zm_Stemma_connect.2.2.1 16 = .ok (.iastore, 1) := by decide +kernel
theorem d_Stemma_connect_17 : decode zm_Stemma_connect.2.2.1 17 = .ok (.aload_n 0, 1) := by decide +kernel
theorem d_Stemma_connect_18 : decode zm_Stemma_connect.2.2.1 18 = .ok (.getfield 29, 3) := by decide +kernel
theorem d_Stemma_connect_21 : decode zm_Stemma_connect.2.2.1 21 = .ok (.iload_n 1, 1) := by decide +kernel
theorem d_Stemma_connect_22 : decode zm_Stemma_connect.2.2.1 22 = .ok (.iconst 0, 1) := by decide +kernel
theorem d_Stemma_connect_23 : decode zm_Stemma_connect.2.2.1 23 = .ok (.iastore, 1) := by decide +kernel
theorem d_Stemma_connect_24 : decode zm_Stemma_connect.2.2.1 24 = .ok (.aload_n 0, 1) := by decide +kernel
theorem d_Stemma_connect_25 : decode zm_Stemma_connect.2.2.1 25 = .ok (.getfield 32, 3) := by decide +kernel
theorem d_Stemma_connect_28 : decode zm_Stemma_connect.2.2.1 28 = .ok (.iload_n 1, 1) := by decide +kernel
theorem d_Stemma_connect_29 : decode zm_Stemma_connect.2.2.1 29 = .ok (.iload_n 1, 1) := by decide +kernel
theorem d_Stemma_connect_30 : decode zm_Stemma_connect.2.2.1 30 = .ok (.ifCond .ne 7, 3) := by decide +kernel
theorem d_Stemma_connect_33 : decode zm_Stemma_connect.2.2.1 33 = .ok (.iconst 0, 1) := by decide +kernel
theorem d_Stemma_connect_34 : decode zm_Stemma_connect.2.2.1 34 = .ok (.goto 4, 3) := by decide +kernel
theorem d_Stemma_connect_37 : decode zm_Stemma_connect.2.2.1 37 = .ok (.iconst (-1), 1) := by decide +kernel
theorem d_Stemma_connect_38 : decode zm_Stemma_connect.2.2.1 38 = .ok (.iastore, 1) := by decide +kernel
theorem d_Stemma_connect_39 : decode zm_Stemma_connect.2.2.1 39 = .ok (.iinc 1 1, 3) := by decide +kernel
theorem d_Stemma_connect_42 : decode zm_Stemma_connect.2.2.1 42 = .ok (.goto (-40), 3) := by decide +kernel
theorem d_Stemma_connect_45 : decode zm_Stemma_connect.2.2.1 45 = .ok (.iconst 1, 1) := by decide +kernel
theorem d_Stemma_connect_46 : decode zm_Stemma_connect.2.2.1 46 = .ok (.istore_n 1, 1) := by decide +kernel
theorem d_Stemma_connect_47 : decode zm_Stemma_connect.2.2.1 47 = .ok (.iload_n 1, 1) := by decide +kernel
theorem d_Stemma_connect_48 : decode zm_Stemma_connect.2.2.1 48 = .ok (.aload_n 0, 1) := by decide +kernel
theorem d_Stemma_connect_49 : decode zm_Stemma_connect.2.2.1 49 = .ok (.getfield 38, 3) := by decide +kernel
theorem d_Stemma_connect_52 : decode zm_Stemma_connect.2.2.1 52 = .ok (.if_icmp .ge 14, 3) := by decide +kernel
theorem d_Stemma_connect_55 : decode zm_Stemma_connect.2.2.1 55 = .ok (.aload_n 0, 1) := by decide +kernel
theorem d_Stemma_connect_56 : decode zm_Stemma_connect.2.2.1 56 = .ok (.iload_n 1, 1) := by decide +kernel
theorem d_Stemma_connect_57 : decode zm_Stemma_connect.2.2.1 57 = .ok (.invokevirtual 104, 3) := by decide +kernel
theorem d_Stemma_connect_60 : decode zm_Stemma_connect.2.2.1 60 = .ok (.iinc 1 1, 3) := by decide +kernel
theorem d_Stemma_connect_63 : decode zm_Stemma_connect.2.2.1 63 = .ok (.goto (-16), 3) := by decide +kernel
theorem d_Stemma_connect_66 : decode zm_Stemma_connect.2.2.1 66 = .ok (.return_, 1) := by decide +kernel
