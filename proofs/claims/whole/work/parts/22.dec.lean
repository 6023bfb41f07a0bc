theorem d_Chrono_findFirst_0 : decode zm_Chrono_findFirst.2.2.1 0 = .ok (.aload_n 0, 1) := by decide +kernel
theorem d_Chrono_findFirst_1 : decode zm_Chrono_findFirst.2.2.1 1 = .ok (.getfield 27, 3) := by decide +kernel
theorem d_Chrono_findFirst_4 : decode zm_Chrono_findFirst.2.2.1 4 = .ok (.istore_n 1, 1) := by decide +kernel
theorem d_Chrono_findFirst_5 : decode zm_Chrono_findFirst.2.2.1 5 = .ok (.iconst 0, 1) := by decide +kernel
theorem d_Chrono_findFirst_6 : decode zm_Chrono_findFirst.2.2.1 6 = .ok (.istore_n 2, 1) := by decide +kernel
theorem d_Chrono_findFirst_7 : decode zm_Chrono_findFirst.2.2.1 7 = .ok (.iload_n 2, 1) := by decide +kernel
theorem d_Chrono_findFirst_8 : decode zm_Chrono_findFirst.2.2.1 8 = .ok (.bipush 6, 2) := by decide +kernel
theorem d_Chrono_findFirst_10 : decode zm_Chrono_findFirst.2.2.1 10 = .ok (.if_icmp .ge 35, 3) := by decide +kernel
theorem d_Chrono_findFirst_13 : decode zm_Chrono_findFirst.2.2.1 13 = .ok (.aload_n 0, 1) := by decide +kernel
theorem d_Chrono_findFirst_14 : decode zm_Chrono_findFirst.2.2.1 14 = .ok (.iload_n 1, 1) := by decide +kernel
theorem d_Chrono_findFirst_15 : decode zm_Chrono_findFirst.2.2.1 15 = .ok (.invokevirtual 68, 3) := by decide +kernel
theorem d_Chrono_findFirst_18 : decode zm_Chrono_findFirst.2.2.1 18 = .ok (.istore_n 3, 1) := by decide +kernel
theorem d_Chrono_findFirst_19 : decode zm_Chrono_findFirst.2.2.1 19 = .ok (.aload_n 0, 1) := by decide +kernel
theorem d_Chrono_findFirst_20 : decode zm_Chrono_findFirst.2.2.1 20 = .ok (.getfield 24, 3) := by decide +kernel
theorem d_Chrono_findFirst_23 : decode zm_Chrono_findFirst.2.2.1 23 = .ok (.iload_n 2, 1) := by decide +kernel
theorem d_Chrono_findFirst_24 : decode zm_Chrono_findFirst.2.2.1 24 = .ok (.iload_n 3, 1) := by decide +kernel
theorem d_Chrono_findFirst_25 : decode zm_Chrono_findFirst.2.2.1 25 = .ok (.iastore, 1) := by decide +kernel
theorem d_Chrono_findFirst_26 : decode zm_Chrono_findFirst.2.2.1 26 = .ok (.iload_n 3, 1) := by decide +kernel
theorem d_Chrono_findFirst_27 : decode zm_Chrono_findFirst.2.2.1 27 = .ok (.iconst (-1), 1) := by decide +kernel
theorem d_Chrono_findFirst_28 : decode zm_Chrono_findFirst.2.2.1 28 = .ok (.if_icmp .eq 11, 3) := by decide +kernel
theorem d_Chrono_findFirst_31 : decode zm_Chrono_findFirst.2.2.1 31 = .ok (.iload_n 1, 1) := by decide +kernel
theorem d_Chrono_findFirst_32 : decode zm_Chrono_findFirst.2.2.1 32 = .ok (.iconst 1, 1) := by decide +kernel
theorem d_Chrono_findFirst_33 : decode zm_Chrono_findFirst.2.2.1 33 = .ok (.iload_n 3, 1) := by decide +kernel
theorem d_Chrono_findFirst_34 : decode zm_Chrono_findFirst.2.2.1 34 = .ok (.ishl, 1) := by decide +kernel
theorem d_Chrono_findFirst_35 : decode zm_Chrono_findFirst.2.2.1 35 = .ok (.iconst (-1), 1) := by decide +kernel
theorem d_Chrono_findFirst_36 : decode zm_Chrono_findFirst.2.2.1 36 = .ok (.ixor, 1) := by decide +kernel
theorem d_Chrono_findFirst_37 : decode zm_Chrono_findFirst.2.2.1 37 = .ok (.iand, 1) := by decide +kernel
theorem d_Chrono_findFirst_38 : decode zm_Chrono_findFirst.2.2.1 38 = .ok (.istore_n 1, 1) := by decide +kernel
theorem d_Chrono_findFirst_39 : decode zm_Chrono_findFirst.2.2.1 39 = .ok (.iinc 2 1, 3) := by decide +kernel
theorem d_Chrono_findFirst_42 : decode zm_Chrono_findFirst.2.2.1 42 = .ok (.goto (-35), 3) := by decide +kernel
theorem d_Chrono_findFirst_45 : decode zm_Chrono_findFirst.2.2.1 45 = .ok (.return_, 1) := by decide +kernel
theorem d_Chrono_firstFree_0 : decode zm_Chrono_firstFree.2.2.1 0 = .ok (.iconst 0, 1) := by decide +kernel
theorem d_Chrono_firstFree_1 : decode zm_Chrono_firstFree.2.2.1 1 = .ok (.istore_n 2, 1) := by decide +kernel
theorem d_Chrono_firstFree_2 : decode zm_Chrono_firstFree.2.2.1 2 = .ok (.iconst 0, 1) := by decide +kernel
theorem d_Chrono_firstFree_3 : decode zm_Chrono_firstFree.2.2.1 3 = .ok (.istore_n 3, 1) := by decide +kernel
theorem d_Chrono_firstFree_4 : decode zm_Chrono_firstFree.2.2.1 4 = .ok (.iload_n 3, 1) := by decide +kernel
theorem d_Chrono_firstFree_5 : decode zm_Chrono_firstFree.2.2.1 5 = .ok (.bipush 6, 2) := by decide +kernel
theorem d_Chrono_firstFree_7 : decode zm_Chrono_firstFree.2.2.1 7 = .ok (.if_icmp .ge 26, 3) := by decide +kernel
theorem d_Chrono_firstFree_10 : decode zm_Chrono_firstFree.2.2.1 10 = .ok (.iload_n 1, 1) := by decide +kernel
theorem d_Chrono_firstFree_11 : decode zm_Chrono_firstFree.2.2.1 11 = .ok (.iload_n 3, 1) := by decide +kernel
theorem d_Chrono_firstFree_12 : decode zm_Chrono_firstFree.2.2.1 12 = .ok (.ishr, 1) := by decide +kernel
theorem d_Chrono_firstFree_13 : decode zm_Chrono_firstFree.2.2.1 13 = .ok (.iconst 1, 1) := by decide +kernel
theorem d_Chrono_firstFree_14 : decode zm_Chrono_firstFree.2.2.1 14 = .ok (.iand, 1) := by decide +kernel
theorem d_Chrono_firstFree_15 : decode zm_Chrono_firstFree.2.2.1 15 = .ok (.ifCond .eq 12, 3) := by decide +kernel
theorem d_Chrono_firstFree_18 : decode zm_Chrono_firstFree.2.2.1 18 = .ok (.iload_n 2, 1) := by decide +kernel
theorem d_Chrono_firstFree_19 : decode zm_Chrono_firstFree.2.2.1 19 = .ok (.aload_n 0, 1) := by decide +kernel
theorem d_Chrono_firstFree_20 : decode zm_Chrono_firstFree.2.2.1 20 = .ok (.getfield 18, 3) := by decide +kernel
theorem d_Chrono_firstFree_23 : decode zm_Chrono_firstFree.2.2.1 23 = .ok (.iload_n 3, 1) := by decide +kernel
theorem d_Chrono_firstFree_24 : decode zm_Chrono_firstFree.2.2.1 24 = .ok (.iaload, 1) := by decide +kernel
theorem d_Chrono_firstFree_25 : decode zm_Chrono_firstFree.2.2.1 25 = .ok (.ior, 1) := by decide +kernel
theorem d_Chrono_firstFree_26 : decode zm_Chrono_firstFree.2.2.1 26 = .ok (.istore_n 2, 1) := by decide +kernel
theorem d_Chrono_firstFree_27 : decode zm_Chrono_firstFree.2.2.1 27 = .ok (.iinc 3 1, 3) := by decide +kernel
theorem d_Chrono_firstFree_30 : decode zm_Chrono_firstFree.2.2.1 30 = .ok (.goto (-26), 3) := by decide +kernel
theorem d_Chrono_firstFree_33 : decode zm_Chrono_firstFree.2.2.1 33 = .ok (.iload_n 1, 1) := by decide +kernel
theorem d_Chrono_firstFree_34 : decode zm_Chrono_firstFree.2.2.1 34 = .ok (.iload_n 2, 1) := by decide +kernel
theorem d_Chrono_firstFree_35 : decode zm_Chrono_firstFree.2.2.1 35 = .ok (.iconst (-1), 1) := by decide +kernel
theorem d_Chrono_firstFree_36 : decode zm_Chrono_firstFree.2.2.1 36 = .ok (.ixor, 1) := by decide +kernel
theorem d_Chrono_firstFree_37 : decode zm_Chrono_firstFree.2.2.1 37 = .ok (.iand, 1) := by decide +kernel
theorem d_Chrono_firstFree_38 : decode zm_Chrono_firstFree.2.2.1 38 = .ok (.istore_n 3, 1) := by decide +kernel
theorem d_Chrono_firstFree_39 : decode zm_Chrono_firstFree.2.2.1 39 = .ok (.iload_n 3, 1) := by decide +kernel
theorem d_Chrono_firstFree_40 : decode zm_Chrono_firstFree.2.2.1 40 = .ok (.ifCond .ne 7, 3) := by decide +kernel
theorem d_Chrono_firstFree_43 : decode zm_Chrono_firstFree.2.2.1 43 = .ok (.iconst (-1), 1) := by decide +kernel
theorem d_Chrono_firstFree_44 : decode zm_Chrono_firstFree.2.2.1 44 = .ok (.goto 7, 3) := by decide +kernel
theorem d_Chrono_firstFree_47 : decode zm_Chrono_firstFree.2.2.1 47 = .ok (.iload_n 3, 1) := by decide +kernel
theorem d_Chrono_firstFree_48 : decode zm_Chrono_firstFree.2.2.1 48 = .ok (.invokestatic 71, 3) := by decide +kernel
theorem d_Chrono_firstFree_51 : decode zm_Chrono_firstFree.2.2.1 51 = .ok (.ireturn, 1) := by decide +kernel
theorem d_Chrono_builtFor_0 : decode zm_Chrono_builtFor.2.2.1 0 = .ok (.aload_n 0, 1) := by decide +kernel
theorem d_Chrono_builtFor_1 : decode zm_Chrono_builtFor.2.2.1 1 = .ok (.getfield 34, 3) := by decide +kernel
theorem d_Chrono_builtFor_4 : decode zm_Chrono_builtFor.2.2.1 4 = .ok (.ireturn, 1) := by decide +kernel
theorem d_Chrono_seenSet_0 : decode zm_Chrono_seenSet.2.2.1 0 = .ok (.aload_n 0, 1) := by decide +kernel
theorem d_Chrono_seenSet_1 : decode zm_Chrono_seenSet.2.2.1 1 = .ok (.getfield 27, 3) := by decide +kernel
theorem d_Chrono_seenSet_4 : decode zm_Chrono_seenSet.2.2.1 4 = .ok (.ireturn, 1) := by decide +kernel
theorem d_Chrono_orders_0 : decode zm_Chrono_orders.2.2.1 0 = .ok (.aload_n 0, 1) := by decide +kernel
theorem d_Chrono_orders_1 : decode zm_Chrono_orders.2.2.1 1 = .ok (.getfield 31, 3) := by decide +kernel
theorem d_Chrono_orders_4 : decode zm_Chrono_orders.2.2.1 4 = .ok (.ireturn, 1) := by decide +kernel
theorem d_Chrono_typesOn_0 : decode zm_Chrono_typesOn.2.2.1 0 = .ok (.iload_n 1, 1) := by decide +kernel
theorem d_Chrono_typesOn_1 : decode zm_Chrono_typesOn.2.2.1 1 = .ok (.ifCond .lt 18, 3) := by decide +kernel
theorem d_Chrono_typesOn_4 : decode zm_Chrono_typesOn.2.2.1 4 = .ok (.iload_n 1, 1) := by decide +kernel
theorem d_Chrono_typesOn_5 : decode zm_Chrono_typesOn.2.2.1 5 = .ok (.bipush 6, 2) := by decide +kernel
theorem d_Chrono_typesOn_7 : decode zm_Chrono_typesOn.2.2.1 7 = .ok (.if_icmp .ge 12, 3) := by decide +kernel
theorem d_Chrono_typesOn_10 : decode zm_Chrono_typesOn.2.2.1 10 = .ok (.aload_n 0, 1) := by decide +kernel
theorem d_Chrono_typesOn_11 : decode zm_Chrono_typesOn.2.2.1 11 = .ok (.getfield 9, 3) := by decide +kernel
theorem d_Chrono_typesOn_14 : decode zm_Chrono_typesOn.2.2.1 14 = .ok (.iload_n 1, 1) := by decide +kernel
theorem d_Chrono_typesOn_15 : decode zm_Chrono_typesOn.2.2.1 15 = .ok (.iaload, 1) := by decide +kernel
theorem d_Chrono_typesOn_16 : decode zm_Chrono_typesOn.2.2.1 16 = .ok (.goto 4, 3) := by decide +kernel
theorem d_Chrono_typesOn_19 : decode zm_Chrono_typesOn.2.2.1 19 = .ok (.iconst 0, 1) := by decide +kernel
theorem d_Chrono_typesOn_20 : decode zm_Chrono_typesOn.2.2.1 20 = .ok (.ireturn, 1) := by decide +kernel
theorem d_Chrono_aheadOf_0 : decode zm_Chrono_aheadOf.2.2.1 0 = .ok (.iload_n 1, 1) := by decide +kernel
theorem d_Chrono_aheadOf_1 : decode zm_Chrono_aheadOf.2.2.1 1 = .ok (.ifCond .lt 18, 3) := by decide +kernel
theorem d_Chrono_aheadOf_4 : decode zm_Chrono_aheadOf.2.2.1 4 = .ok (.iload_n 1, 1) := by decide +kernel
theorem d_Chrono_aheadOf_5 : decode zm_Chrono_aheadOf.2.2.1 5 = .ok (.bipush 6, 2) := by decide +kernel
theorem d_Chrono_aheadOf_7 : decode zm_Chrono_aheadOf.2.2.1 7 = .ok (.if_icmp .ge 12, 3) := by decide +kernel
theorem d_Chrono_aheadOf_10 : decode zm_Chrono_aheadOf.2.2.1 10 = .ok (.aload_n 0, 1) := by decide +kernel
theorem d_Chrono_aheadOf_11 : decode zm_Chrono_aheadOf.2.2.1 11 = .ok (.getfield 18, 3) := by decide +kernel
theorem d_Chrono_aheadOf_14 : decode zm_Chrono_aheadOf.2.2.1 14 = .ok (.iload_n 1, 1) := by decide +kernel
theorem d_Chrono_aheadOf_15 : decode zm_Chrono_aheadOf.2.2.1 15 = .ok (.iaload, 1) := by decide +kernel
theorem d_Chrono_aheadOf_16 : decode zm_Chrono_aheadOf.2.2.1 16 = .ok (.goto 4, 3) := by decide +kernel
theorem d_Chrono_aheadOf_19 : decode zm_Chrono_aheadOf.2.2.1 19 = .ok (.iconst 0, 1) := by decide +kernel
theorem d_Chrono_aheadOf_20 : decode zm_Chrono_aheadOf.2.2.1 20 = .ok (.ireturn, 1) := by decide +kernel
theorem d_Chrono_typeSet_0 : decode zm_Chrono_typeSet.2.2.1 0 = .ok (.iconst 0, 1) := by decide +kernel
theorem d_Chrono_typeSet_1 : decode zm_Chrono_typeSet.2.2.1 1 = .ok (.istore_n 1, 1) := by decide +kernel
theorem d_Chrono_typeSet_2 : decode zm_Chrono_typeSet.2.2.1 2 = .ok (.iconst 0, 1) := by decide +kernel
theorem d_Chrono_typeSet_3 : decode zm_Chrono_typeSet.2.2.1 3 = .ok (.istore_n 2, 1) := by decide +kernel
theorem d_Chrono_typeSet_4 : decode zm_Chrono_typeSet.2.2.1 4 = .ok (.iload_n 2, 1) := by decide +kernel
theorem d_Chrono_typeSet_5 : decode zm_Chrono_typeSet.2.2.1 5 = .ok (.bipush 6, 2) := by decide +kernel
theorem d_Chrono_typeSet_7 : decode zm_Chrono_typeSet.2.2.1 7 = .ok (.if_icmp .ge 18, 3) := by decide +kernel
theorem d_Chrono_typeSet_10 : decode zm_Chrono_typeSet.2.2.1 10 = .ok (.iload_n 1, 1) := by decide +kernel
theorem d_Chrono_typeSet_11 : decode zm_Chrono_typeSet.2.2.1 11 = .ok (.aload_n 0, 1) := by decide +kernel
theorem d_Chrono_typeSet_12 : decode zm_Chrono_typeSet.2.2.1 12 = .ok (.getfield 9, 3) := by decide +kernel
theorem d_Chrono_typeSet_15 : decode zm_Chrono_typeSet.2.2.1 15 = .ok (.iload_n 2, 1) := by decide +kernel
theorem d_Chrono_typeSet_16 : decode zm_Chrono_typeSet.2.2.1 16 = .ok (.iaload, 1) := by decide +kernel
theorem d_Chrono_typeSet_17 : decode zm_Chrono_typeSet.2.2.1 17 = .ok (.ior, 1) := by decide +kernel
theorem d_Chrono_typeSet_18 : decode zm_Chrono_typeSet.2.2.1 18 = .ok (.istore_n 1, 1) := by decide +kernel
theorem d_Chrono_typeSet_19 : decode zm_Chrono_typeSet.2.2.1 19 = .ok (.iinc 2 1, 3) := by decide +kernel
theorem d_Chrono_typeSet_22 : decode zm_Chrono_typeSet.2.2.1 22 = .ok (.goto (-18), 3) := by decide +kernel
theorem d_Chrono_typeSet_25 : decode zm_Chrono_typeSet.2.2.1 25 = .ok (.iload_n 1, 1) := by decide +kernel
theorem d_Chrono_typeSet_26 : decode zm_Chrono_typeSet.2.2.1 26 = .ok (.ireturn, 1) := by decide +kernel
theorem d_Chrono_companionsOf_0 : decode zm_Chrono_companionsOf.2.2.1 0 = .ok (.iload_n 1, 1) := by decide +kernel
theorem d_Chrono_companionsOf_1 : decode zm_Chrono_companionsOf.2.2.1 1 = .ok (.ifCond .lt 18, 3) := by decide +kernel
theorem d_Chrono_companionsOf_4 : decode zm_Chrono_companionsOf.2.2.1 4 = .ok (.iload_n 1, 1) := by decide +kernel
theorem d_Chrono_companionsOf_5 : decode zm_Chrono_companionsOf.2.2.1 5 = .ok (.bipush 6, 2) := by decide +kernel
theorem d_Chrono_companionsOf_7 : decode zm_Chrono_companionsOf.2.2.1 7 = .ok (.if_icmp .ge 12, 3) := by decide +kernel
theorem d_Chrono_companionsOf_10 : decode zm_Chrono_companionsOf.2.2.1 10 = .ok (.aload_n 0, 1) := by decide +kernel
theorem d_Chrono_companionsOf_11 : decode zm_Chrono_companionsOf.2.2.1 11 = .ok (.getfield 15, 3) := by decide +kernel
theorem d_Chrono_companionsOf_14 : decode zm_Chrono_companionsOf.2.2.1 14 = .ok (.iload_n 1, 1) := by decide +kernel
theorem d_Chrono_companionsOf_15 : decode zm_Chrono_companionsOf.2.2.1 15 = .ok (.iaload, 1) := by decide +kernel
theorem d_Chrono_companionsOf_16 : decode zm_Chrono_companionsOf.2.2.1 16 = .ok (.goto 4, 3) := by decide +kernel
theorem d_Chrono_companionsOf_19 : decode zm_Chrono_companionsOf.2.2.1 19 = .ok (.iconst 0, 1) := by decide +kernel
theorem d_Chrono_companionsOf_20 : decode zm_Chrono_companionsOf.2.2.1 20 = .ok (.ireturn, 1) := by decide +kernel
theorem d_Chrono_orderLength_0 : decode zm_Chrono_orderLength.2.2.1 0 = .ok (.aload_n 0, 1) := by decide +kernel
theorem d_Chrono_orderLength_1 : decode zm_Chrono_orderLength.2.2.1 1 = .ok (.getfield 31, 3) := by decide +kernel
theorem d_Chrono_orderLength_4 : decode zm_Chrono_orderLength.2.2.1 4 = .ok (.ifCond .le 13, 3) := by decide +kernel
theorem d_Chrono_orderLength_7 : decode zm_Chrono_orderLength.2.2.1 7 = .ok (.aload_n 0, 1) := by decide +kernel
theorem d_Chrono_orderLength_8 : decode zm_Chrono_orderLength.2.2.1 8 = .ok (.getfield 27, 3) := by decide +kernel
theorem d_Chrono_orderLength_11 : decode zm_Chrono_orderLength.2.2.1 11 = .ok (.invokestatic 76, 3) := by decide +kernel
theorem d_Chrono_orderLength_14 : decode zm_Chrono_orderLength.2.2.1 14 = .ok (.goto 4, 3) := by decide +kernel
theorem d_Chrono_orderLength_17 : decode zm_Chrono_orderLength.2.2.1 17 = .ok (.iconst 0, 1) := by decide +kernel
theorem d_Chrono_orderLength_18 : decode zm_Chrono_orderLength.2.2.1 18 = .ok (.ireturn, 1) := by decide +kernel
theorem d_Chrono_hasPlace_0 : decode zm_Chrono_hasPlace.2.2.1 0 = .ok (.iload_n 1, 1) := by decide +kernel
theorem d_Chrono_hasPlace_1 : decode zm_Chrono_hasPlace.2.2.1 1 = .ok (.ifCond .lt 15, 3) := by decide +kernel
theorem d_Chrono_hasPlace_4 : decode zm_Chrono_hasPlace.2.2.1 4 = .ok (.iload_n 1, 1) := by decide +kernel
theorem d_Chrono_hasPlace_5 : decode zm_Chrono_hasPlace.2.2.1 5 = .ok (.aload_n 0, 1) := by decide +kernel
theorem d_Chrono_hasPlace_6 : decode zm_Chrono_hasPlace.2.2.1 6 = .ok (.invokevirtual 79, 3) := by decide +kernel
theorem d_Chrono_hasPlace_9 : decode zm_Chrono_hasPlace.2.2.1 9 = .ok (.if_icmp .ge 7, 3) := by decide +kernel
theorem d_Chrono_hasPlace_12 : decode zm_Chrono_hasPlace.2.2.1 12 = .ok (.iconst 1, 1) := by decide +kernel
theorem d_Chrono_hasPlace_13 : decode zm_Chrono_hasPlace.2.2.1 13 = .ok (.goto 4, 3) := by decide +kernel
theorem d_Chrono_hasPlace_16 : decode zm_Chrono_hasPlace.2.2.1 16 = .ok (.iconst 0, 1) := by decide +kernel
theorem d_Chrono_hasPlace_17 : decode zm_Chrono_hasPlace.2.2.1 17 = .ok (.ireturn, 1) := by decide +kernel
theorem d_Chrono_formeAt_0 : decode zm_Chrono_formeAt.2.2.1 0 = .ok (.aload_n 0, 1) := by decide +kernel
theorem d_Chrono_formeAt_1 : decode zm_Chrono_formeAt.2.2.1 1 = .ok (.iload_n 1, 1) := by decide +kernel
theorem d_Chrono_formeAt_2 : decode zm_Chrono_formeAt.2.2.1 2 = .ok (.invokevirtual 82, 3) := by decide +kernel
theorem d_Chrono_formeAt_5 : decode zm_Chrono_formeAt.2.2.1 5 = .ok (.ifCond .eq 18, 3) := by decide +kernel
theorem d_Chrono_formeAt_8 : decode zm_Chrono_formeAt.2.2.1 8 = .ok (.iload_n 1, 1) := by decide +kernel
theorem d_Chrono_formeAt_9 : decode zm_Chrono_formeAt.2.2.1 9 = .ok (.bipush 6, 2) := by decide +kernel
theorem d_Chrono_formeAt_11 : decode zm_Chrono_formeAt.2.2.1 11 = .ok (.if_icmp .ge 12, 3) := by decide +kernel
theorem d_Chrono_formeAt_14 : decode zm_Chrono_formeAt.2.2.1 14 = .ok (.aload_n 0, 1) := by decide +kernel
theorem d_Chrono_formeAt_15 : decode zm_Chrono_formeAt.2.2.1 15 = .ok (.getfield 24, 3) := by decide +kernel
theorem d_Chrono_formeAt_18 : decode zm_Chrono_formeAt.2.2.1 18 = .ok (.iload_n 1, 1) := by decide +kernel
theorem d_Chrono_formeAt_19 : decode zm_Chrono_formeAt.2.2.1 19 = .ok (.iaload, 1) := by decide +kernel
theorem d_Chrono_formeAt_20 : decode zm_Chrono_formeAt.2.2.1 20 = .ok (.goto 4, 3) := by decide +kernel
theorem d_Chrono_formeAt_23 : decode zm_Chrono_formeAt.2.2.1 23 = .ok (.iconst (-1), 1) := by decide +kernel
theorem d_Chrono_formeAt_24 : decode zm_Chrono_formeAt.2.2.1 24 = .ok (.ireturn, 1) := by decide +kernel
theorem d_Chrono_placeOf_0 : decode zm_Chrono_placeOf.2.2.1 0 = .ok (.aload_n 0, 1) := by decide +kernel
theorem d_Chrono_placeOf_1 : decode zm_Chrono_placeOf.2.2.1 1 = .ok (.invokevirtual 79, 3) := by decide +kernel
theorem d_Chrono_placeOf_4 : decode zm_Chrono_placeOf.2.2.1 4 = .ok (.istore_n 2, 1) := by decide +kernel
theorem d_Chrono_placeOf_5 : decode zm_Chrono_placeOf.2.2.1 5 = .ok (.iconst 0, 1) := by decide +kernel
theorem d_Chrono_placeOf_6 : decode zm_Chrono_placeOf.2.2.1 6 = .ok (.istore_n 3, 1) := by decide +kernel
theorem d_Chrono_placeOf_7 : decode zm_Chrono_placeOf.2.2.1 7 = .ok (.iload_n 3, 1) := by decide +kernel
theorem d_Chrono_placeOf_8 : decode zm_Chrono_placeOf.2.2.1 8 = .ok (.iload_n 2, 1) := by decide +kernel
theorem d_Chrono_placeOf_9 : decode zm_Chrono_placeOf.2.2.1 9 = .ok (.if_icmp .ge 27, 3) := by decide +kernel
theorem d_Chrono_placeOf_12 : decode zm_Chrono_placeOf.2.2.1 12 = .ok (.iload_n 3, 1) := by decide +kernel
theorem d_Chrono_placeOf_13 : decode zm_Chrono_placeOf.2.2.1 13 = .ok (.bipush 6, 2) := by decide +kernel
theorem d_Chrono_placeOf_15 : decode zm_Chrono_placeOf.2.2.1 15 = .ok (.if_icmp .ge 21, 3) := by decide +kernel
theorem d_Chrono_placeOf_18 : decode zm_Chrono_placeOf.2.2.1 18 = .ok (.aload_n 0, 1) := by decide +kernel
theorem d_Chrono_placeOf_19 : decode zm_Chrono_placeOf.2.2.1 19 = .ok (.getfield 24, 3) := by decide +kernel
theorem d_Chrono_placeOf_22 : decode zm_Chrono_placeOf.2.2.1 22 = .ok (.iload_n 3, 1) := by decide +kernel
theorem d_Chrono_placeOf_23 : decode zm_Chrono_placeOf.2.2.1 23 = .ok (.iaload, 1) := by decide +kernel
theorem d_Chrono_placeOf_24 : decode zm_Chrono_placeOf.2.2.1 24 = .ok (.iload_n 1, 1) := by decide +kernel
theorem d_Chrono_placeOf_25 : decode zm_Chrono_placeOf.2.2.1 25 = .ok (.if_icmp .ne 5, 3) := by decide +kernel
theorem d_Chrono_placeOf_28 : decode zm_Chrono_placeOf.2.2.1 28 = .ok (.iload_n 3, 1) := by decide +kernel
theorem d_Chrono_placeOf_29 : decode zm_Chrono_placeOf.2.2.1 29 = .ok (.ireturn, 1) := by decide +kernel
theorem d_Chrono_placeOf_30 : decode zm_Chrono_placeOf.2.2.1 30 = .ok (.iinc 3 1, 3) := by decide +kernel
theorem d_Chrono_placeOf_33 : decode zm_Chrono_placeOf.2.2.1 33 = .ok (.goto (-26), 3) := by decide +kernel
theorem d_Chrono_placeOf_36 : decode zm_Chrono_placeOf.2.2.1 36 = .ok (.iconst (-1), 1) := by decide +kernel
theorem d_Chrono_placeOf_37 : decode zm_Chrono_placeOf.2.2.1 37 = .ok (.ireturn, 1) := by decide +kernel
theorem d_Fault_set_0 : decode zm_Fault_set.2.2.1 0 = .ok (.aload_n 0, 1) := by decide +kernel
theorem d_Fault_set_1 : decode zm_Fault_set.2.2.1 1 = .ok (.getfield 28, 3) := by decide +kernel
theorem d_Fault_set_4 : decode zm_Fault_set.2.2.1 4 = .ok (.ireturn, 1) := by decide +kernel
theorem d_Fault_build_0 : decode zm_Fault_build.2.2.1 0 = .ok (.aload_n 0, 1) := by decide +kernel
theorem d_Fault_build_1 : decode zm_Fault_build.2.2.1 1 = .ok (.getfield 31, 3) := by decide +kernel
theorem d_Fault_build_4 : decode zm_Fault_build.2.2.1 4 = .ok (.aload_n 1, 1) := by decide +kernel
theorem d_Fault_build_5 : decode zm_Fault_build.2.2.1 5 = .ok (.invokevirtual 34, 3) := by decide +kernel
theorem d_Fault_build_8 : decode zm_Fault_build.2.2.1 8 = .ok (.if_icmp .ne 4, 3) := by decide +kernel
theorem d_Fault_build_11 : decode zm_Fault_build.2.2.1 11 = .ok (.return_, 1) := by decide +kernel
theorem d_Fault_build_12 : decode zm_Fault_build.2.2.1 12 = .ok (.aload_n 0, 1) := by decide +kernel
theorem d_Fault_build_13 : decode zm_Fault_build.2.2.1 13 = .ok (.aload_n 1, 1) := by decide +kernel
theorem d_Fault_build_14 : decode zm_Fault_build.2.2.1 14 = .ok (.invokevirtual 34, 3) := by decide +kernel
theorem d_Fault_build_17 : decode zm_Fault_build.2.2.1 17 = .ok (.putfield 31, 3) := by decide +kernel
theorem d_Fault_build_20 : decode zm_Fault_build.2.2.1 20 = .ok (.aload_n 0, 1) := by decide +kernel
theorem d_Fault_build_21 : decode zm_Fault_build.2.2.1 21 = .ok (.aload_n 1, 1) := by decide +kernel
theorem d_Fault_build_22 : decode zm_Fault_build.2.2.1 22 = .ok (.invokevirtual 40, 3) := by decide +kernel
theorem d_Fault_build_25 : decode zm_Fault_build.2.2.1 25 = .ok (.aload_n 0, 1) := by decide +kernel
theorem d_Fault_build_26 : decode zm_Fault_build.2.2.1 26 = .ok (.aload_n 1, 1) := by decide +kernel
theorem d_Fault_build_27 : decode zm_Fault_build.2.2.1 27 = .ok (.invokevirtual 44, 3) := by decide +kernel
theorem d_Fault_build_30 : decode zm_Fault_build.2.2.1 30 = .ok (.invokevirtual 47, 3) := by decide +kernel
theorem d_Fault_build_33 : decode zm_Fault_build.2.2.1 33 = .ok (.return_, 1) := by decide +kernel
theorem d_Fault_findPairs_0 : decode zm_Fault_findPairs.2.2.1 0 = .ok (.aload_n 0, 1) := by decide +kernel
theorem d_Fault_findPairs_1 : decode zm_Fault_findPairs.2.2.1 1 = .ok (.iconst 0, 1) := by decide +kernel
theorem d_Fault_findPairs_2 : decode zm_Fault_findPairs.2.2.1 2 = .ok (.putfield 24, 3) := by decide +kernel
theorem d_Fault_findPairs_5 : decode zm_Fault_findPairs.2.2.1 5 = .ok (.iconst 0, 1) := by decide +kernel
theorem d_Fault_findPairs_6 : decode zm_Fault_findPairs.2.2.1 6 = .ok (.istore_n 2, 1) := by decide +kernel
theorem d_Fault_findPairs_7 : decode zm_Fault_findPairs.2.2.1 7 = .ok (.iload_n 2, 1) := by decide +kernel
theorem d_Fault_findPairs_8 : decode zm_Fault_findPairs.2.2.1 8 = .ok (.aload_n 1, 1) := by decide +kernel
theorem d_Fault_findPairs_9 : decode zm_Fault_findPairs.2.2.1 9 = .ok (.invokevirtual 44, 3) := by decide +kernel
theorem d_Fault_findPairs_12 : decode zm_Fault_findPairs.2.2.1 12 = .ok (.if_icmp .ge 99, 3) := by decide +kernel
theorem d_Fault_findPairs_15 : decode zm_Fault_findPairs.2.2.1 15 = .ok (.iconst 0, 1) := by decide +kernel
theorem d_Fault_findPairs_16 : decode zm_Fault_findPairs.2.2.1 16 = .ok (.istore_n 3, 1) := by decide +kernel
theorem d_Fault_findPairs_17 : decode zm_Fault_findPairs.2.2.1 17 = .ok (.iload_n 3, 1) := by decide +kernel
theorem d_Fault_findPairs_18 : decode zm_Fault_findPairs.2.2.1 18 = .ok (.aload_n 1, 1) := by decide +kernel
theorem d_Fault_findPairs_19 : decode zm_Fault_findPairs.2.2.1 19 = .ok (.invokevirtual 44, 3) := by decide +kernel
theorem d_Fault_findPairs_22 : decode zm_Fault_findPairs.2.2.1 22 = .ok (.if_icmp .ge 83, 3) := by decide +kernel
theorem d_Fault_findPairs_25 : decode zm_Fault_findPairs.2.2.1 25 = .ok (.aload_n 0, 1) := by decide +kernel
theorem d_Fault_findPairs_26 : decode zm_Fault_findPairs.2.2.1 26 = .ok (.getfield 24, 3) := by decide +kernel
theorem d_Fault_findPairs_29 : decode zm_Fault_findPairs.2.2.1 29 = .ok (.bipush 66, 2) := by decide +kernel
theorem d_Fault_findPairs_31 : decode zm_Fault_findPairs.2.2.1 31 = .ok (.if_icmp .ge 68, 3) := by decide +kernel
theorem d_Fault_findPairs_34 : decode zm_Fault_findPairs.2.2.1 34 = .ok (.aload_n 1, 1) := by decide +kernel
theorem d_Fault_findPairs_35 : decode zm_Fault_findPairs.2.2.1 35 = .ok (.iload_n 2, 1) := by decide +kernel
theorem d_Fault_findPairs_36 : decode zm_Fault_findPairs.2.2.1 36 = .ok (.iload_n 3, 1) := by decide +kernel
theorem d_Fault_findPairs_37 : decode zm_Fault_findPairs.2.2.1 37 = .ok (.invokevirtual 51, 3) := by decide +kernel
theorem d_Fault_findPairs_40 : decode zm_Fault_findPairs.2.2.1 40 = .ok (.ifCond .eq 59, 3) := by decide +kernel
theorem d_Fault_findPairs_43 : decode zm_Fault_findPairs.2.2.1 43 = .ok (.aload_n 0, 1) := by decide +kernel
theorem d_Fault_findPairs_44 : decode zm_Fault_findPairs.2.2.1 44 = .ok (.getfield 11, 3) := by decide +kernel
theorem d_Fault_findPairs_47 : decode zm_Fault_findPairs.2.2.1 47 = .ok (.aload_n 0, 1) := by decide +kernel
theorem d_Fault_findPairs_48 : decode zm_Fault_findPairs.2.2.1 48 = .ok (.getfield 24, 3) := by decide +kernel
theorem d_Fault_findPairs_51 : decode zm_Fault_findPairs.2.2.1 51 = .ok (.iconst 1, 1) := by decide +kernel
theorem d_Fault_findPairs_52 : decode zm_Fault_findPairs.2.2.1 52 = .ok (.iload_n 2, 1) := by decide +kernel
theorem d_Fault_findPairs_53 : decode zm_Fault_findPairs.2.2.1 53 = .ok (.ishl, 1) := by decide +kernel
theorem d_Fault_findPairs_54 : decode zm_Fault_findPairs.2.2.1 54 = .ok (.iconst 1, 1) := by decide +kernel
theorem d_Fault_findPairs_55 : decode zm_Fault_findPairs.2.2.1 55 = .ok (.iload_n 3, 1) := by decide +kernel
theorem d_Fault_findPairs_56 : decode zm_Fault_findPairs.2.2.1 56 = .ok (.ishl, 1) := by decide +kernel
theorem d_Fault_findPairs_57 : decode zm_Fault_findPairs.2.2.1 57 = .ok (.ior, 1) := by decide +kernel
theorem d_Fault_findPairs_58 : decode zm_Fault_findPairs.2.2.1 58 = .ok (.iastore, 1) := by decide +kernel
theorem d_Fault_findPairs_59 : decode zm_Fault_findPairs.2.2.1 59 = .ok (.aload_n 0, 1) := by decide +kernel
theorem d_Fault_findPairs_60 : decode zm_Fault_findPairs.2.2.1 60 = .ok (.getfield 15, 3) := by decide +kernel
theorem d_Fault_findPairs_63 : decode zm_Fault_findPairs.2.2.1 63 = .ok (.aload_n 0, 1) := by decide +kernel
theorem d_Fault_findPairs_64 : decode zm_Fault_findPairs.2.2.1 64 = .ok (.getfield 24, 3) := by decide +kernel
theorem d_Fault_findPairs_67 : decode zm_Fault_findPairs.2.2.1 67 = .ok (.aload_n 1, 1) := by decide +kernel
theorem d_Fault_findPairs_68 : decode zm_Fault_findPairs.2.2.1 68 = .ok (.iload_n 2, 1) := by decide +kernel
theorem d_Fault_findPairs_69 : decode zm_Fault_findPairs.2.2.1 69 = .ok (.iconst 1, 1) := by decide +kernel
theorem d_Fault_findPairs_70 : decode zm_Fault_findPairs.2.2.1 70 = .ok (.invokevirtual 55, 3) := by decide +kernel
theorem d_Fault_findPairs_73 : decode zm_Fault_findPairs.2.2.1 73 = .ok (.iastore, 1) := by decide +kernel
theorem d_Fault_findPairs_74 : decode zm_Fault_findPairs.2.2.1 74 = .ok (.aload_n 0, 1) := by decide +kernel
theorem d_Fault_findPairs_75 : decode zm_Fault_findPairs.2.2.1 75 = .ok (.getfield 18, 3) := by decide +kernel
theorem d_Fault_findPairs_78 : decode zm_Fault_findPairs.2.2.1 78 = .ok (.aload_n 0, 1) := by decide +kernel
theorem d_Fault_findPairs_79 : decode zm_Fault_findPairs.2.2.1 79 = .ok (.getfield 24, 3) := by decide +kernel
theorem d_Fault_findPairs_82 : decode zm_Fault_findPairs.2.2.1 82 = .ok (.aload_n 1, 1) := by decide +kernel
theorem d_Fault_findPairs_83 : decode zm_Fault_findPairs.2.2.1 83 = .ok (.iload_n 3, 1) := by decide +kernel
theorem d_Fault_findPairs_84 : decode zm_Fault_findPairs.2.2.1 84 = .ok (.iconst 1, 1) := by decide +kernel
theorem d_Fault_findPairs_85 : decode zm_Fault_findPairs.2.2.1 85 = .ok (.invokevirtual 55, 3) := by decide +kernel
theorem d_Fault_findPairs_88 : decode zm_Fault_findPairs.2.2.1 88 = .ok (.iastore, 1) := by decide +kernel
theorem d_Fault_findPairs_89 : decode zm_Fault_findPairs.2.2.1 89 = .ok (.aload_n 0, 1) := by decide +kernel
theorem d_Fault_findPairs_90 : decode zm_Fault_findPairs.2.2.1 90 = .ok (.dup, 1) := by decide +kernel
theorem d_Fault_findPairs_91 : decode zm_Fault_findPairs.2.2.1 91 = .ok (.getfield 24, 3) := by decide +kernel
theorem d_Fault_findPairs_94 : decode zm_Fault_findPairs.2.2.1 94 = .ok (.iconst 1, 1) := by decide +kernel
theorem d_Fault_findPairs_95 : decode zm_Fault_findPairs.2.2.1 95 = .ok (.iadd, 1) := by decide +kernel
theorem d_Fault_findPairs_96 : decode zm_Fault_findPairs.2.2.1 96 = .ok (.putfield 24, 3) := by decide +kernel
theorem d_Fault_findPairs_99 : decode zm_Fault_findPairs.2.2.1 99 = .ok (.iinc 3 1, 3) := by decide +kernel
theorem d_Fault_findPairs_102 : decode zm_Fault_findPairs.2.2.1 102 = .ok (.goto (-85), 3) := by decide +kernel
theorem d_Fault_findPairs_105 : decode zm_Fault_findPairs.2.2.1 105 = .ok (.iinc 2 1, 3) := by decide +kernel
theorem d_Fault_findPairs_108 : decode zm_Fault_findPairs.2.2.1 108 = .ok (.goto (-101), 3) := by decide +kernel
theorem d_Fault_findPairs_111 : decode zm_Fault_findPairs.2.2.1 111 = .ok (.return_, 1) := by decide +kernel
theorem d_Fault_search_0 : decode zm_Fault_search.2.2.1 0 = .ok (.iload_n 1, 1) := by decide +kernel
theorem d_Fault_search_1 : decode zm_Fault_search.2.2.1 1 = .ok (.iconst 1, 1) := by decide +kernel
theorem d_Fault_search_2 : decode zm_Fault_search.2.2.1 2 = .ok (.iadd, 1) := by decide +kernel
theorem d_Fault_search_3 : decode zm_Fault_search.2.2.1 3 = .ok (.istore_n 2, 1) := by decide +kernel
theorem d_Fault_search_4 : decode zm_Fault_search.2.2.1 4 = .ok (.iconst 0, 1) := by decide +kernel
theorem d_Fault_search_5 : decode zm_Fault_search.2.2.1 5 = .ok (.istore_n 3, 1) := by decide +kernel
theorem d_Fault_search_6 : decode zm_Fault_search.2.2.1 6 = .ok (.iload_n 3, 1) := by decide +kernel
theorem d_Fault_search_7 : decode zm_Fault_search.2.2.1 7 = .ok (.iconst 1, 1) := by decide +kernel
theorem d_Fault_search_8 : decode zm_Fault_search.2.2.1 8 = .ok (.iload_n 1, 1) := by decide +kernel
theorem d_Fault_search_9 : decode zm_Fault_search.2.2.1 9 = .ok (.ishl, 1) := by decide +kernel
theorem d_Fault_search_10 : decode zm_Fault_search.2.2.1 10 = .ok (.if_icmp .ge 39, 3) := by decide +kernel
theorem d_Fault_search_13 : decode zm_Fault_search.2.2.1 13 = .ok (.iload_n 2, 1) := by decide +kernel
theorem d_Fault_search_14 : decode zm_Fault_search.2.2.1 14 = .ok (.ifCond .le 35, 3) := by decide +kernel
theorem d_Fault_search_17 : decode zm_Fault_search.2.2.1 17 = .ok (.iload_n 3, 1) := by decide +kernel
theorem d_Fault_search_18 : decode zm_Fault_search.2.2.1 18 = .ok (.invokestatic 59, 3) := by decide +kernel
theorem d_Fault_search_21 : decode zm_Fault_search.2.2.1 21 = .ok (.iload_n 2, 1) := by decide +kernel
theorem d_Fault_search_22 : decode zm_Fault_search.2.2.1 22 = .ok (.if_icmp .ge 21, 3) := by decide +kernel
theorem d_Fault_search_25 : decode zm_Fault_search.2.2.1 25 = .ok (.aload_n 0, 1) := by decide +kernel
theorem d_Fault_search_26 : decode zm_Fault_search.2.2.1 26 = .ok (.iload_n 3, 1) := by decide +kernel
theorem d_Fault_search_27 : decode zm_Fault_search.2.2.1 27 = .ok (.invokevirtual 65, 3) := by decide +kernel
theorem d_Fault_search_30 : decode zm_Fault_search.2.2.1 30 = .ok (.ifCond .eq 13, 3) := by decide +kernel
theorem d_Fault_search_33 : decode zm_Fault_search.2.2.1 33 = .ok (.iload_n 3, 1) := by decide +kernel
theorem d_Fault_search_34 : decode zm_Fault_search.2.2.1 34 = .ok (.invokestatic 59, 3) := by decide +kernel
theorem d_Fault_search_37 : decode zm_Fault_search.2.2.1 37 = .ok (.istore_n 2, 1) := by decide +kernel
theorem d_Fault_search_38 : decode zm_Fault_search.2.2.1 38 = .ok (.aload_n 0, 1) := by decide +kernel
theorem d_Fault_search_39 : decode zm_Fault_search.2.2.1 39 = .ok (.iload_n 3, 1) := by decide +kernel
theorem d_Fault_search_40 : decode zm_Fault_search.2.2.1 40 = .ok (.putfield 28, 3) := by decide +kernel
theorem d_Fault_search_43 : decode zm_Fault_search.2.2.1 43 = .ok (.iinc 3 1, 3) := by decide +kernel
theorem d_Fault_search_46 : decode zm_Fault_search.2.2.1 46 = .ok (.goto (-40), 3) := by decide +kernel
theorem d_Fault_search_49 : decode zm_Fault_search.2.2.1 49 = .ok (.return_, 1) := by decide +kernel
theorem d_Fault_hasOrderWithout_0 : decode zm_Fault_hasOrderWithout.2.2.1 0 = .ok (.iconst 0, 1) := by decide +kernel
theorem d_Fault_hasOrderWithout_1 : decode zm_Fault_hasOrderWithout.2.2.1 1 = .ok (.istore_n 2, 1) := by decide +kernel
theorem d_Fault_hasOrderWithout_2 : decode zm_Fault_hasOrderWithout.2.2.1 2 = .ok (.iload_n 2, 1) := by decide +kernel
theorem d_Fault_hasOrderWithout_3 : decode zm_Fault_hasOrderWithout.2.2.1 3 = .ok (.bipush 6, 2) := by decide +kernel
theorem d_Fault_hasOrderWithout_5 : decode zm_Fault_hasOrderWithout.2.2.1 5 = .ok (.if_icmp .ge 16, 3) := by decide +kernel
theorem d_Fault_hasOrderWithout_8 : decode zm_Fault_hasOrderWithout.2.2.1 8 = .ok (.aload_n 0, 1) := by decide +kernel
theorem d_Fault_hasOrderWithout_9 : decode zm_Fault_hasOrderWithout.2.2.1 9 = .ok (.getfield 21, 3) := by decide +kernel
theorem d_Fault_hasOrderWithout_12 : decode zm_Fault_hasOrderWithout.2.2.1 12 = .ok (.iload_n 2, 1) := by decide +kernel
theorem d_Fault_hasOrderWithout_13 : decode zm_Fault_hasOrderWithout.2.2.1 13 = .ok (.iconst 0, 1) := by decide +kernel
theorem d_Fault_hasOrderWithout_14 : decode zm_Fault_hasOrderWithout.2.2.1 14 = .ok (.iastore, 1) := by decide +kernel
theorem d_Fault_hasOrderWithout_15 : decode zm_Fault_hasOrderWithout.2.2.1 15 = .ok (.iinc 2 1, 3) := by decide +kernel
theorem d_Fault_hasOrderWithout_18 : decode zm_Fault_hasOrderWithout.2.2.1 18 = .ok (.goto (-16), 3) := by decide +kernel
theorem d_Fault_hasOrderWithout_21 : decode zm_Fault_hasOrderWithout.2.2.1 21 = .ok (.iconst 0, 1) := by decide +kernel
theorem d_Fault_hasOrderWithout_22 : decode zm_Fault_hasOrderWithout.2.2.1 22 = .ok (.istore_n 2, 1) := by decide +kernel
theorem d_Fault_hasOrderWithout_23 : decode zm_Fault_hasOrderWithout.2.2.1 23 = .ok (.iload_n 2, 1) := by decide +kernel
theorem d_Fault_hasOrderWithout_24 : decode zm_Fault_hasOrderWithout.2.2.1 24 = .ok (.aload_n 0, 1) := by decide +kernel
theorem d_Fault_hasOrderWithout_25 : decode zm_Fault_hasOrderWithout.2.2.1 25 = .ok (.getfield 24, 3) := by decide +kernel
theorem d_Fault_hasOrderWithout_28 : decode zm_Fault_hasOrderWithout.2.2.1 28 = .ok (.if_icmp .ge 54, 3) := by decide +kernel
theorem d_Fault_hasOrderWithout_31 : decode zm_Fault_hasOrderWithout.2.2.1 31 = .ok (.aload_n 0, 1) := by decide +kernel
theorem d_Fault_hasOrderWithout_32 : decode zm_Fault_hasOrderWithout.2.2.1 32 = .ok (.getfield 15, 3) := by decide +kernel
theorem d_Fault_hasOrderWithout_35 : decode zm_Fault_hasOrderWithout.2.2.1 35 = .ok (.iload_n 2, 1) := by decide +kernel
theorem d_Fault_hasOrderWithout_36 : decode zm_Fault_hasOrderWithout.2.2.1 36 = .ok (.iaload, 1) := by decide +kernel
theorem d_Fault_hasOrderWithout_37 : decode zm_Fault_hasOrderWithout.2.2.1 37 = .ok (.istore_n 3, 1) := by decide +kernel
theorem d_Fault_hasOrderWithout_38 : decode zm_Fault_hasOrderWithout.2.2.1 38 = .ok (.aload_n 0, 1) := by decide +kernel
theorem d_Fault_hasOrderWithout_39 : decode zm_Fault_hasOrderWithout.2.2.1 39 = .ok (.getfield 11, 3) := by decide +kernel
theorem d_Fault_hasOrderWithout_42 : decode zm_Fault_hasOrderWithout.2.2.1 42 = .ok (.iload_n 2, 1) := by decide +kernel
theorem d_Fault_hasOrderWithout_43 : decode zm_Fault_hasOrderWithout.2.2.1 43 = .ok (.iaload, 1) := by decide +kernel
theorem d_Fault_hasOrderWithout_44 : decode zm_Fault_hasOrderWithout.2.2.1 44 = .ok (.iload_n 1, 1) := by decide +kernel
theorem d_Fault_hasOrderWithout_45 : decode zm_Fault_hasOrderWithout.2.2.1 45 = .ok (.iand, 1) := by decide +kernel
theorem d_Fault_hasOrderWithout_46 : decode zm_Fault_hasOrderWithout.2.2.1 46 = .ok (.ifCond .ne 30, 3) := by decide +kernel
theorem d_Fault_hasOrderWithout_49 : decode zm_Fault_hasOrderWithout.2.2.1 49 = .ok (.iload_n 3, 1) := by decide +kernel
theorem d_Fault_hasOrderWithout_50 : decode zm_Fault_hasOrderWithout.2.2.1 50 = .ok (.ifCond .lt 26, 3) := by decide +kernel
theorem d_Fault_hasOrderWithout_53 : decode zm_Fault_hasOrderWithout.2.2.1 53 = .ok (.iload_n 3, 1) := by decide +kernel
theorem d_Fault_hasOrderWithout_54 : decode zm_Fault_hasOrderWithout.2.2.1 54 = .ok (.bipush 6, 2) := by decide +kernel
theorem d_Fault_hasOrderWithout_56 : decode zm_Fault_hasOrderWithout.2.2.1 56 = .ok (.if_icmp .ge 20, 3) := by decide +kernel
theorem d_Fault_hasOrderWithout_59 : decode zm_Fault_hasOrderWithout.2.2.1 59 = .ok (.aload_n 0, 1) := by decide +kernel
theorem d_Fault_hasOrderWithout_60 : decode zm_Fault_hasOrderWithout.2.2.1 60 = .ok (.getfield 21, 3) := by decide +kernel
theorem d_Fault_hasOrderWithout_63 : decode zm_Fault_hasOrderWithout.2.2.1 63 = .ok (.iload_n 3, 1) := by decide +kernel
theorem d_Fault_hasOrderWithout_64 : decode zm_Fault_hasOrderWithout.2.2.1 64 = .ok (.dup2, 1) := by decide +kernel
theorem d_Fault_hasOrderWithout_65 : decode zm_Fault_hasOrderWithout.2.2.1 65 = .ok (.iaload, 1) := by decide +kernel
theorem d_Fault_hasOrderWithout_66 : decode zm_Fault_hasOrderWithout.2.2.1 66 = .ok (.iconst 1, 1) := by decide +kernel
theorem d_Fault_hasOrderWithout_67 : decode zm_Fault_hasOrderWithout.2.2.1 67 = .ok (.aload_n 0, 1) := by decide +kernel
theorem d_Fault_hasOrderWithout_68 : decode zm_Fault_hasOrderWithout.2.2.1 68 = .ok (.getfield 18, 3) := by decide +kernel
theorem d_Fault_hasOrderWithout_71 : decode zm_Fault_hasOrderWithout.2.2.1 71 = .ok (.iload_n 2, 1) := by decide +kernel
theorem d_Fault_hasOrderWithout_72 : decode zm_Fault_hasOrderWithout.2.2.1 72 = .ok (.iaload, 1) := by decide +kernel
theorem d_Fault_hasOrderWithout_73 : decode zm_Fault_hasOrderWithout.2.2.1 73 = .ok (.ishl, 1) := by decide +kernel
theorem d_Fault_hasOrderWithout_74 : decode zm_Fault_hasOrderWithout.2.2.1 74 = .ok (.ior, 1) := by decide +kernel
theorem d_Fault_hasOrderWithout_75 : decode zm_Fault_hasOrderWithout.2.2.1 75 = .ok (.iastore, 1) := by decide +kernel
theorem d_Fault_hasOrderWithout_76 : decode zm_Fault_hasOrderWithout.2.2.1 76 = .ok (.iinc 2 1, 3) := by decide +kernel
theorem d_Fault_hasOrderWithout_79 : decode zm_Fault_hasOrderWithout.2.2.1 79 = .ok (.goto (-56), 3) := by decide +kernel
theorem d_Fault_hasOrderWithout_82 : decode zm_Fault_hasOrderWithout.2.2.1 82 = .ok (.aload_n 0, 1) := by decide +kernel
theorem d_Fault_hasOrderWithout_83 : decode zm_Fault_hasOrderWithout.2.2.1 83 = .ok (.invokevirtual 69, 3) := by decide +kernel
theorem d_Fault_hasOrderWithout_86 : decode zm_Fault_hasOrderWithout.2.2.1 86 = .ok (.ireturn, 1) := by decide +kernel
theorem d_Fault_hasNoCycle_0 : decode zm_Fault_hasNoCycle.2.2.1 0 = .ok (.bipush 63, 2) := by decide +kernel
theorem d_Fault_hasNoCycle_2 : decode zm_Fault_hasNoCycle.2.2.1 2 = .ok (.istore_n 1, 1) := by decide +kernel
theorem d_Fault_hasNoCycle_3 : decode zm_Fault_hasNoCycle.2.2.1 3 = .ok (.iconst 0, 1) := by decide +kernel
theorem d_Fault_hasNoCycle_4 : decode zm_Fault_hasNoCycle.2.2.1 4 = .ok (.istore_n 2, 1) := by decide +kernel
theorem d_Fault_hasNoCycle_5 : decode zm_Fault_hasNoCycle.2.2.1 5 = .ok (.iload_n 2, 1) := by decide +kernel
theorem d_Fault_hasNoCycle_6 : decode zm_Fault_hasNoCycle.2.2.1 6 = .ok (.bipush 6, 2) := by decide +kernel
theorem d_Fault_hasNoCycle_8 : decode zm_Fault_hasNoCycle.2.2.1 8 = .ok (.if_icmp .ge 54, 3) := by decide +kernel
theorem d_Fault_hasNoCycle_11 : decode zm_Fault_hasNoCycle.2.2.1 11 = .ok (.iload_n 1, 1) := by decide +kernel
theorem d_Fault_hasNoCycle_12 : decode zm_Fault_hasNoCycle.2.2.1 12 = .ok (.ifCond .eq 50, 3) := by decide +kernel
theorem d_Fault_hasNoCycle_15 : decode zm_Fault_hasNoCycle.2.2.1 15 = .ok (.iconst 0, 1) := by decide +kernel
theorem d_Fault_hasNoCycle_16 : decode zm_Fault_hasNoCycle.2.2.1 16 = .ok (.istore_n 3, 1) := by decide +kernel
theorem d_Fault_hasNoCycle_17 : decode zm_Fault_hasNoCycle.2.2.1 17 = .ok (.iconst 0, 1) := by decide +kernel
theorem d_Fault_hasNoCycle_18 : decode zm_Fault_hasNoCycle.2.2.1 18 = .ok (.istore 4, 2) := by decide +kernel
theorem d_Fault_hasNoCycle_20 : decode zm_Fault_hasNoCycle.2.2.1 20 = .ok (.iload 4, 2) := by decide +kernel
theorem d_Fault_hasNoCycle_22 : decode zm_Fault_hasNoCycle.2.2.1 22 = .ok (.bipush 6, 2) := by decide +kernel
theorem d_Fault_hasNoCycle_24 : decode zm_Fault_hasNoCycle.2.2.1 24 = .ok (.if_icmp .ge 28, 3) := by decide +kernel
theorem d_Fault_hasNoCycle_27 : decode zm_Fault_hasNoCycle.2.2.1 27 = .ok (.iload_n 1, 1) := by decide +kernel
theorem d_Fault_hasNoCycle_28 : decode zm_Fault_hasNoCycle.2.2.1 28 = .ok (.iload 4, 2) := by decide +kernel
theorem d_Fault_hasNoCycle_30 : decode zm_Fault_hasNoCycle.2.2.1 30 = .ok (.ishr, 1) := by decide +kernel
theorem d_Fault_hasNoCycle_31 : decode zm_Fault_hasNoCycle.2.2.1 31 = .ok (.iconst 1, 1) := by decide +kernel
theorem d_Fault_hasNoCycle_32 : decode zm_Fault_hasNoCycle.2.2.1 32 = .ok (.iand, 1) := by decide +kernel
theorem d_Fault_hasNoCycle_33 : decode zm_Fault_hasNoCycle.2.2.1 33 = .ok (.ifCond .eq 13, 3) := by decide +kernel
theorem d_Fault_hasNoCycle_36 : decode zm_Fault_hasNoCycle.2.2.1 36 = .ok (.iload_n 3, 1) := by decide +kernel
theorem d_Fault_hasNoCycle_37 : decode zm_Fault_hasNoCycle.2.2.1 37 = .ok (.aload_n 0, 1) := by decide +kernel
theorem d_Fault_hasNoCycle_38 : decode zm_Fault_hasNoCycle.2.2.1 38 = .ok (.getfield 21, 3) := by decide +kernel
theorem d_Fault_hasNoCycle_41 : decode zm_Fault_hasNoCycle.2.2.1 41 = .ok (.iload 4, 2) := by decide +kernel
theorem d_Fault_hasNoCycle_43 : decode zm_Fault_hasNoCycle.2.2.1 43 = .ok (.iaload, 1) := by decide +kernel
theorem d_Fault_hasNoCycle_44 : decode zm_Fault_hasNoCycle.2.2.1 44 = .ok (.ior, 1) := by decide +kernel
theorem d_Fault_hasNoCycle_45 : decode zm_Fault_hasNoCycle.2.2.1 45 = .ok (.istore_n 3, 1) := by decide +kernel
theorem d_Fault_hasNoCycle_46 : decode zm_Fault_hasNoCycle.2.2.1 46 = .ok (.iinc 4 1, 3) := by decide +kernel
theorem d_Fault_hasNoCycle_49 : decode zm_Fault_hasNoCycle.2.2.1 49 = .ok (.goto (-29), 3) := by decide +kernel
theorem d_Fault_hasNoCycle_52 : decode zm_Fault_hasNoCycle.2.2.1 52 = .ok (.iload_n 1, 1) := by decide +kernel
theorem d_Fault_hasNoCycle_53 : decode zm_Fault_hasNoCycle.2.2.1 53 = .ok (.iload_n 3, 1) := by decide +kernel
theorem d_Fault_hasNoCycle_54 : decode zm_Fault_hasNoCycle.2.2.1 54 = .ok (.iand, 1) := by decide +kernel
theorem d_Fault_hasNoCycle_55 : decode zm_Fault_hasNoCycle.2.2.1 55 = .ok (.istore_n 1, 1) := by decide +kernel
theorem d_Fault_hasNoCycle_56 : decode zm_Fault_hasNoCycle.2.2.1 56 = .ok (.iinc 2 1, 3) := by decide +kernel
theorem d_Fault_hasNoCycle_59 : decode zm_Fault_hasNoCycle.2.2.1 59 = .ok (.goto (-54), 3) := by decide +kernel
theorem d_Fault_hasNoCycle_62 : decode zm_Fault_hasNoCycle.2.2.1 62 = .ok (.iload_n 1, 1) := by decide +kernel
theorem d_Fault_hasNoCycle_63 : decode zm_Fault_hasNoCycle.2.2.1 63 = .ok (.ifCond .ne 7, 3) := by decide +kernel
theorem d_Fault_hasNoCycle_66 : decode zm_Fault_hasNoCycle.2.2.1 66 = .ok (.iconst 1, 1) := by decide +kernel
theorem d_Fault_hasNoCycle_67 : decode zm_Fault_hasNoCycle.2.2.1 67 = .ok (.goto 4, 3) := by decide +kernel
theorem d_Fault_hasNoCycle_70 : decode zm_Fault_hasNoCycle.2.2.1 70 = .ok (.iconst 0, 1) := by decide +kernel
theorem d_Fault_hasNoCycle_71 : decode zm_Fault_hasNoCycle.2.2.1 71 = .ok (.ireturn, 1) := by decide +kernel
theorem d_Presses_number_0 : decode zm_Presses_number.2.2.1 0 = .ok (.aload_n 0, 1) := by decide +kernel
theorem d_Presses_number_1 : decode zm_Presses_number.2.2.1 1 = .ok (.getfield 15, 3) := by decide +kernel
theorem d_Presses_number_4 : decode zm_Presses_number.2.2.1 4 = .ok (.ireturn, 1) := by decide +kernel
theorem d_Presses_pressOf_0 : decode zm_Presses_pressOf.2.2.1 0 = .ok (.iload_n 1, 1) := by decide +kernel
theorem d_Presses_pressOf_1 : decode zm_Presses_pressOf.2.2.1 1 = .ok (.ifCond .lt 18, 3) := by decide +kernel
theorem d_Presses_pressOf_4 : decode zm_Presses_pressOf.2.2.1 4 = .ok (.iload_n 1, 1) := by decide +kernel
theorem d_Presses_pressOf_5 : decode zm_Presses_pressOf.2.2.1 5 = .ok (.bipush 6, 2) := by decide +kernel
theorem d_Presses_pressOf_7 : decode zm_Presses_pressOf.2.2.1 7 = .ok (.if_icmp .ge 12, 3) := by decide +kernel
theorem d_Presses_pressOf_10 : decode zm_Presses_pressOf.2.2.1 10 = .ok (.aload_n 0, 1) := by decide +kernel
theorem d_Presses_pressOf_11 : decode zm_Presses_pressOf.2.2.1 11 = .ok (.getfield 9, 3) := by decide +kernel
theorem d_Presses_pressOf_14 : decode zm_Presses_pressOf.2.2.1 14 = .ok (.iload_n 1, 1) := by decide +kernel
theorem d_Presses_pressOf_15 : decode zm_Presses_pressOf.2.2.1 15 = .ok (.iaload, 1) := by decide +kernel
theorem d_Presses_pressOf_16 : decode zm_Presses_pressOf.2.2.1 16 = .ok (.goto 4, 3) := by decide +kernel
theorem d_Presses_pressOf_19 : decode zm_Presses_pressOf.2.2.1 19 = .ok (.iconst (-1), 1) := by decide +kernel
theorem d_Presses_pressOf_20 : decode zm_Presses_pressOf.2.2.1 20 = .ok (.ireturn, 1) := by decide +kernel
theorem d_Presses_build_0 : decode zm_Presses_build.2.2.1 0 = .ok (.aload_n 0, 1) := by decide +kernel
theorem d_Presses_build_1 : decode zm_Presses_build.2.2.1 1 = .ok (.getfield 19, 3) := by decide +kernel
theorem d_Presses_build_4 : decode zm_Presses_build.2.2.1 4 = .ok (.aload_n 1, 1) := by decide +kernel
theorem d_Presses_build_5 : decode zm_Presses_build.2.2.1 5 = .ok (.invokevirtual 22, 3) := by decide +kernel
theorem d_Presses_build_8 : decode zm_Presses_build.2.2.1 8 = .ok (.if_icmp .ne 4, 3) := by decide +kernel
theorem d_Presses_build_11 : decode zm_Presses_build.2.2.1 11 = .ok (.return_, 1) := by decide +kernel
theorem d_Presses_build_12 : decode zm_Presses_build.2.2.1 12 = .ok (.aload_n 0, 1) := by decide +kernel
theorem d_Presses_build_13 : decode zm_Presses_build.2.2.1 13 = .ok (.aload_n 1, 1) := by decide +kernel
theorem d_Presses_build_14 : decode zm_Presses_build.2.2.1 14 = .ok (.invokevirtual 22, 3) := by decide +kernel
theorem d_Presses_build_17 : decode zm_Presses_build.2.2.1 17 = .ok (.putfield 19, 3) := by decide +kernel
theorem d_Presses_build_20 : decode zm_Presses_build.2.2.1 20 = .ok (.iconst 0, 1) := by decide +kernel
theorem d_Presses_build_21 : decode zm_Presses_build.2.2.1 21 = .ok (.istore_n 2, 1) := by decide +kernel
theorem d_Presses_build_22 : decode zm_Presses_build.2.2.1 22 = .ok (.iconst 0, 1) := by decide +kernel
theorem d_Presses_build_23 : decode zm_Presses_build.2.2.1 23 = .ok (.istore_n 3, 1) := by decide +kernel
theorem d_Presses_build_24 : decode zm_Presses_build.2.2.1 24 = .ok (.iload_n 3, 1) := by decide +kernel
theorem d_Presses_build_25 : decode zm_Presses_build.2.2.1 25 = .ok (.bipush 6, 2) := by decide +kernel
theorem d_Presses_build_27 : decode zm_Presses_build.2.2.1 27 = .ok (.if_icmp .gt 29, 3) := by decide +kernel
theorem d_Presses_build_30 : decode zm_Presses_build.2.2.1 30 = .ok (.iload_n 2, 1) := by decide +kernel
theorem d_Presses_build_31 : decode zm_Presses_build.2.2.1 31 = .ok (.ifCond .ne 25, 3) := by decide +kernel
theorem d_Presses_build_34 : decode zm_Presses_build.2.2.1 34 = .ok (.aload_n 1, 1) := by decide +kernel
theorem d_Presses_build_35 : decode zm_Presses_build.2.2.1 35 = .ok (.aload_n 0, 1) := by decide +kernel
theorem d_Presses_build_36 : decode zm_Presses_build.2.2.1 36 = .ok (.getfield 9, 3) := by decide +kernel
theorem d_Presses_build_39 : decode zm_Presses_build.2.2.1 39 = .ok (.iload_n 3, 1) := by decide +kernel
theorem d_Presses_build_40 : decode zm_Presses_build.2.2.1 40 = .ok (.iconst 0, 1) := by decide +kernel
theorem d_Presses_build_41 : decode zm_Presses_build.2.2.1 41 = .ok (.invokestatic 27, 3) := by decide +kernel
theorem d_Presses_build_44 : decode zm_Presses_build.2.2.1 44 = .ok (.istore_n 2, 1) := by decide +kernel
theorem d_Presses_build_45 : decode zm_Presses_build.2.2.1 45 = .ok (.aload_n 0, 1) := by decide +kernel
theorem d_Presses_build_46 : decode zm_Presses_build.2.2.1 46 = .ok (.iload_n 3, 1) := by decide +kernel
theorem d_Presses_build_47 : decode zm_Presses_build.2.2.1 47 = .ok (.putfield 15, 3) := by decide +kernel
theorem d_Presses_build_50 : decode zm_Presses_build.2.2.1 50 = .ok (.iinc 3 1, 3) := by decide +kernel
theorem d_Presses_build_53 : decode zm_Presses_build.2.2.1 53 = .ok (.goto (-29), 3) := by decide +kernel
theorem d_Presses_build_56 : decode zm_Presses_build.2.2.1 56 = .ok (.return_, 1) := by decide +kernel
theorem d_Presses_assign_0 : decode zm_Presses_assign.2.2.1 0 = .ok (.iload_n 3, 1) := by decide +kernel
theorem d_Presses_assign_1 : decode zm_Presses_assign.2.2.1 1 = .ok (.bipush 6, 2) := by decide +kernel
theorem d_Presses_assign_3 : decode zm_Presses_assign.2.2.1 3 = .ok (.if_icmp .lt 5, 3) := by decide +kernel
theorem d_Presses_assign_6 : decode zm_Presses_assign.2.2.1 6 = .ok (.iconst 1, 1) := by decide +kernel
theorem d_Presses_assign_7 : decode zm_Presses_assign.2.2.1 7 = .ok (.ireturn, 1) := by decide +kernel
theorem d_Presses_assign_8 : decode zm_Presses_assign.2.2.1 8 = .ok (.aload_n 1, 1) := by decide +kernel
theorem d_Presses_assign_9 : decode zm_Presses_assign.2.2.1 9 = .ok (.iload_n 3, 1) := by decide +kernel
theorem d_Presses_assign_10 : decode zm_Presses_assign.2.2.1 10 = .ok (.iconst (-1), 1) := by decide +kernel
theorem d_Presses_assign_11 : decode zm_Presses_assign.2.2.1 11 = .ok (.iastore, 1) := by decide +kernel
theorem d_Presses_assign_12 : decode zm_Presses_assign.2.2.1 12 = .ok (.aload_n 0, 1) := by decide +kernel
theorem d_Presses_assign_13 : decode zm_Presses_assign.2.2.1 13 = .ok (.iload_n 3, 1) := by decide +kernel
theorem d_Presses_assign_14 : decode zm_Presses_assign.2.2.1 14 = .ok (.invokevirtual 31, 3) := by decide +kernel
theorem d_Presses_assign_17 : decode zm_Presses_assign.2.2.1 17 = .ok (.ifCond .ne 13, 3) := by decide +kernel
theorem d_Presses_assign_20 : decode zm_Presses_assign.2.2.1 20 = .ok (.aload_n 0, 1) := by decide +kernel
theorem d_Presses_assign_21 : decode zm_Presses_assign.2.2.1 21 = .ok (.aload_n 1, 1) := by decide +kernel
theorem d_Presses_assign_22 : decode zm_Presses_assign.2.2.1 22 = .ok (.iload_n 2, 1) := by decide +kernel
theorem d_Presses_assign_23 : decode zm_Presses_assign.2.2.1 23 = .ok (.iload_n 3, 1) := by decide +kernel
theorem d_Presses_assign_24 : decode zm_Presses_assign.2.2.1 24 = .ok (.iconst 1, 1) := by decide +kernel
theorem d_Presses_assign_25 : decode zm_Presses_assign.2.2.1 25 = .ok (.iadd, 1) := by decide +kernel
theorem d_Presses_assign_26 : decode zm_Presses_assign.2.2.1 26 = .ok (.invokestatic 27, 3) := by decide +kernel
theorem d_Presses_assign_29 : decode zm_Presses_assign.2.2.1 29 = .ok (.ireturn, 1) := by decide +kernel
theorem d_Presses_assign_30 : decode zm_Presses_assign.2.2.1 30 = .ok (.iconst 0, 1) := by decide +kernel
theorem d_Presses_assign_31 : decode zm_Presses_assign.2.2.1 31 = .ok (.istore 4, 2) := by decide +kernel
theorem d_Presses_assign_33 : decode zm_Presses_assign.2.2.1 33 = .ok (.iload 4, 2) := by decide +kernel
theorem d_Presses_assign_35 : decode zm_Presses_assign.2.2.1 35 = .ok (.iload_n 2, 1) := by decide +kernel
theorem d_Presses_assign_36 : decode zm_Presses_assign.2.2.1 36 = .ok (.if_icmp .ge 37, 3) := by decide +kernel
theorem d_Presses_assign_39 : decode zm_Presses_assign.2.2.1 39 = .ok (.aload_n 1, 1) := by decide +kernel
theorem d_Presses_assign_40 : decode zm_Presses_assign.2.2.1 40 = .ok (.iload_n 3, 1) := by decide +kernel
theorem d_Presses_assign_41 : decode zm_Presses_assign.2.2.1 41 = .ok (.iload 4, 2) := by decide +kernel
theorem d_Presses_assign_43 : decode zm_Presses_assign.2.2.1 43 = .ok (.iastore, 1) := by decide +kernel
theorem d_Presses_assign_44 : decode zm_Presses_assign.2.2.1 44 = .ok (.aload_n 0, 1) := by decide +kernel
theorem d_Presses_assign_45 : decode zm_Presses_assign.2.2.1 45 = .ok (.aload_n 1, 1) := by decide +kernel
theorem d_Presses_assign_46 : decode zm_Presses_assign.2.2.1 46 = .ok (.iload_n 3, 1) := by decide +kernel
theorem d_Presses_assign_47 : decode zm_Presses_assign.2.2.1 47 = .ok (.invokestatic 35, 3) := by decide +kernel
theorem d_Presses_assign_50 : decode zm_Presses_assign.2.2.1 50 = .ok (.ifCond .eq 17, 3) := by decide +kernel
theorem d_Presses_assign_53 : decode zm_Presses_assign.2.2.1 53 = .ok (.aload_n 0, 1) := by decide +kernel
theorem d_Presses_assign_54 : decode zm_Presses_assign.2.2.1 54 = .ok (.aload_n 1, 1) := by decide +kernel
theorem d_Presses_assign_55 : decode zm_Presses_assign.2.2.1 55 = .ok (.iload_n 2, 1) := by decide +kernel
theorem d_Presses_assign_56 : decode zm_Presses_assign.2.2.1 56 = .ok (.iload_n 3, 1) := by decide +kernel
theorem d_Presses_assign_57 : decode zm_Presses_assign.2.2.1 57 = .ok (.iconst 1, 1) := by decide +kernel
theorem d_Presses_assign_58 : decode zm_Presses_assign.2.2.1 58 = .ok (.iadd, 1) := by decide +kernel
theorem d_Presses_assign_59 : decode zm_Presses_assign.2.2.1 59 = .ok (.invokestatic 27, 3) := by decide +kernel
theorem d_Presses_assign_62 : decode zm_Presses_assign.2.2.1 62 = .ok (.ifCond .eq 5, 3) := by decide +kernel
theorem d_Presses_assign_65 : decode zm_Presses_assign.2.2.1 65 = .ok (.iconst 1, 1) := by decide +kernel
theorem d_Presses_assign_66 : decode zm_Presses_assign.2.2.1 66 = .ok (.ireturn, 1) := by decide +kernel
theorem d_Presses_assign_67 : decode zm_Presses_assign.2.2.1 67 = .ok (.iinc 4 1, 3) := by decide +kernel
theorem d_Presses_assign_70 : decode zm_Presses_assign.2.2.1 70 = .ok (.goto (-37), 3) := by decide +kernel
theorem d_Presses_assign_73 : decode zm_Presses_assign.2.2.1 73 = .ok (.iconst 0, 1) := by decide +kernel
theorem d_Presses_assign_74 : decode zm_Presses_assign.2.2.1 74 = .ok (.ireturn, 1) := by decide +kernel
theorem d_Presses_fits_0 : decode zm_Presses_fits.2.2.1 0 = .ok (.aload_n 0, 1) := by decide +kernel
theorem d_Presses_fits_1 : decode zm_Presses_fits.2.2.1 1 = .ok (.iload_n 2, 1) := by decide +kernel
theorem d_Presses_fits_2 : decode zm_Presses_fits.2.2.1 2 = .ok (.invokevirtual 39, 3) := by decide +kernel
theorem d_Presses_fits_5 : decode zm_Presses_fits.2.2.1 5 = .ok (.istore_n 3, 1) := by decide +kernel
theorem d_Presses_fits_6 : decode zm_Presses_fits.2.2.1 6 = .ok (.iconst 0, 1) := by decide +kernel
theorem d_Presses_fits_7 : decode zm_Presses_fits.2.2.1 7 = .ok (.istore 4, 2) := by decide +kernel
theorem d_Presses_fits_9 : decode zm_Presses_fits.2.2.1 9 = .ok (.iload 4, 2) := by decide +kernel
theorem d_Presses_fits_11 : decode zm_Presses_fits.2.2.1 11 = .ok (.iload_n 2, 1) := by decide +kernel
theorem d_Presses_fits_12 : decode zm_Presses_fits.2.2.1 12 = .ok (.if_icmp .ge 30, 3) := by decide +kernel
theorem d_Presses_fits_15 : decode zm_Presses_fits.2.2.1 15 = .ok (.aload_n 1, 1) := by decide +kernel
theorem d_Presses_fits_16 : decode zm_Presses_fits.2.2.1 16 = .ok (.iload 4, 2) := by decide +kernel
theorem d_Presses_fits_18 : decode zm_Presses_fits.2.2.1 18 = .ok (.iaload, 1) := by decide +kernel
theorem d_Presses_fits_19 : decode zm_Presses_fits.2.2.1 19 = .ok (.aload_n 1, 1) := by decide +kernel
theorem d_Presses_fits_20 : decode zm_Presses_fits.2.2.1 20 = .ok (.iload_n 2, 1) := by decide +kernel
theorem d_Presses_fits_21 : decode zm_Presses_fits.2.2.1 21 = .ok (.iaload, 1) := by decide +kernel
theorem d_Presses_fits_22 : decode zm_Presses_fits.2.2.1 22 = .ok (.if_icmp .ne 14, 3) := by decide +kernel
theorem d_Presses_fits_25 : decode zm_Presses_fits.2.2.1 25 = .ok (.iload_n 3, 1) := by decide +kernel
theorem d_Presses_fits_26 : decode zm_Presses_fits.2.2.1 26 = .ok (.iload 4, 2) := by decide +kernel
theorem d_Presses_fits_28 : decode zm_Presses_fits.2.2.1 28 = .ok (.ishr, 1) := by decide +kernel
theorem d_Presses_fits_29 : decode zm_Presses_fits.2.2.1 29 = .ok (.iconst 1, 1) := by decide +kernel
theorem d_Presses_fits_30 : decode zm_Presses_fits.2.2.1 30 = .ok (.iand, 1) := by decide +kernel
theorem d_Presses_fits_31 : decode zm_Presses_fits.2.2.1 31 = .ok (.ifCond .ne 5, 3) := by decide +kernel
theorem d_Presses_fits_34 : decode zm_Presses_fits.2.2.1 34 = .ok (.iconst 0, 1) := by decide +kernel
theorem d_Presses_fits_35 : decode zm_Presses_fits.2.2.1 35 = .ok (.ireturn, 1) := by decide +kernel
theorem d_Presses_fits_36 : decode zm_Presses_fits.2.2.1 36 = .ok (.iinc 4 1, 3) := by decide +kernel
theorem d_Presses_fits_39 : decode zm_Presses_fits.2.2.1 39 = .ok (.goto (-30), 3) := by decide +kernel
theorem d_Presses_fits_42 : decode zm_Presses_fits.2.2.1 42 = .ok (.iconst 1, 1) := by decide +kernel
theorem d_Presses_fits_43 : decode zm_Presses_fits.2.2.1 43 = .ok (.ireturn, 1) := by decide +kernel
theorem d_P_letter_0 : decode zm_P_letter.2.2.1 0 = .ok (.iload_n 1, 1) := by decide +kernel
theorem d_P_letter_1 : decode zm_P_letter.2.2.1 1 = .ok (.bipush 32, 2) := by decide +kernel
theorem d_P_letter_3 : decode zm_P_letter.2.2.1 3 = .ok (.if_icmp .lt 9, 3) := by decide +kernel
theorem d_P_letter_6 : decode zm_P_letter.2.2.1 6 = .ok (.iload_n 1, 1) := by decide +kernel
theorem d_P_letter_7 : decode zm_P_letter.2.2.1 7 = .ok (.bipush 126, 2) := by decide +kernel
theorem d_P_letter_9 : decode zm_P_letter.2.2.1 9 = .ok (.if_icmp .le 6, 3) := by decide +kernel
theorem d_P_letter_12 : decode zm_P_letter.2.2.1 12 = .ok (.bipush (-102), 2) := by decide +kernel
theorem d_P_letter_14 : decode zm_P_letter.2.2.1 14 = .ok (.ireturn, 1) := by decide +kernel
theorem d_P_letter_15 : decode zm_P_letter.2.2.1 15 = .ok (.aload_n 0, 1) := by decide +kernel
theorem d_P_letter_16 : decode zm_P_letter.2.2.1 16 = .ok (.getfield 10, 3) := by decide +kernel
theorem d_P_letter_19 : decode zm_P_letter.2.2.1 19 = .ok (.invokevirtual 65, 3) := by decide +kernel
theorem d_P_letter_22 : decode zm_P_letter.2.2.1 22 = .ok (.bipush 24, 2) := by decide +kernel
theorem d_P_letter_24 : decode zm_P_letter.2.2.1 24 = .ok (.if_icmp .lt 6, 3) := by decide +kernel
theorem d_P_letter_27 : decode zm_P_letter.2.2.1 27 = .ok (.bipush (-104), 2) := by decide +kernel
theorem d_P_letter_29 : decode zm_P_letter.2.2.1 29 = .ok (.ireturn, 1) := by decide +kernel
theorem d_P_letter_30 : decode zm_P_letter.2.2.1 30 = .ok (.aload_n 0, 1) := by decide +kernel
theorem d_P_letter_31 : decode zm_P_letter.2.2.1 31 = .ok (.getfield 10, 3) := by decide +kernel
theorem d_P_letter_34 : decode zm_P_letter.2.2.1 34 = .ok (.iload_n 1, 1) := by decide +kernel
theorem d_P_letter_35 : decode zm_P_letter.2.2.1 35 = .ok (.invokevirtual 69, 3) := by decide +kernel
theorem d_P_letter_38 : decode zm_P_letter.2.2.1 38 = .ok (.aload_n 0, 1) := by decide +kernel
theorem d_P_letter_39 : decode zm_P_letter.2.2.1 39 = .ok (.getfield 10, 3) := by decide +kernel
theorem d_P_letter_42 : decode zm_P_letter.2.2.1 42 = .ok (.invokevirtual 65, 3) := by decide +kernel
theorem d_P_letter_45 : decode zm_P_letter.2.2.1 45 = .ok (.ireturn, 1) := by decide +kernel
theorem d_P_blank_0 : decode zm_P_blank.2.2.1 0 = .ok (.aload_n 0, 1) := by decide +kernel
theorem d_P_blank_1 : decode zm_P_blank.2.2.1 1 = .ok (.getfield 10, 3) := by decide +kernel
theorem d_P_blank_4 : decode zm_P_blank.2.2.1 4 = .ok (.invokevirtual 65, 3) := by decide +kernel
theorem d_P_blank_7 : decode zm_P_blank.2.2.1 7 = .ok (.istore_n 1, 1) := by decide +kernel
theorem d_P_blank_8 : decode zm_P_blank.2.2.1 8 = .ok (.aload_n 0, 1) := by decide +kernel
theorem d_P_blank_9 : decode zm_P_blank.2.2.1 9 = .ok (.getfield 10, 3) := by decide +kernel
theorem d_P_blank_12 : decode zm_P_blank.2.2.1 12 = .ok (.invokevirtual 73, 3) := by decide +kernel
theorem d_P_blank_15 : decode zm_P_blank.2.2.1 15 = .ok (.iload_n 1, 1) := by decide +kernel
theorem d_P_blank_16 : decode zm_P_blank.2.2.1 16 = .ok (.ireturn, 1) := by decide +kernel
theorem d_P_copy_0 : decode zm_P_copy.2.2.1 0 = .ok (.aload_n 0, 1) := by decide +kernel
theorem d_P_copy_1 : decode zm_P_copy.2.2.1 1 = .ok (.getfield 10, 3) := by decide +kernel
theorem d_P_copy_4 : decode zm_P_copy.2.2.1 4 = .ok (.invokevirtual 76, 3) := by decide +kernel
theorem d_P_copy_7 : decode zm_P_copy.2.2.1 7 = .ok (.ifCond .ne 6, 3) := by decide +kernel
theorem d_P_copy_10 : decode zm_P_copy.2.2.1 10 = .ok (.bipush (-103), 2) := by decide +kernel
theorem d_P_copy_12 : decode zm_P_copy.2.2.1 12 = .ok (.ireturn, 1) := by decide +kernel
theorem d_P_copy_13 : decode zm_P_copy.2.2.1 13 = .ok (.aload_n 0, 1) := by decide +kernel
theorem d_P_copy_14 : decode zm_P_copy.2.2.1 14 = .ok (.getfield 19, 3) := by decide +kernel
theorem d_P_copy_17 : decode zm_P_copy.2.2.1 17 = .ok (.invokevirtual 80, 3) := by decide +kernel
theorem d_P_copy_20 : decode zm_P_copy.2.2.1 20 = .ok (.istore_n 1, 1) := by decide +kernel
theorem d_P_copy_21 : decode zm_P_copy.2.2.1 21 = .ok (.iload_n 1, 1) := by decide +kernel
theorem d_P_copy_22 : decode zm_P_copy.2.2.1 22 = .ok (.bipush 6, 2) := by decide +kernel
theorem d_P_copy_24 : decode zm_P_copy.2.2.1 24 = .ok (.if_icmp .lt 6, 3) := by decide +kernel
theorem d_P_copy_27 : decode zm_P_copy.2.2.1 27 = .ok (.bipush (-104), 2) := by decide +kernel
theorem d_P_copy_29 : decode zm_P_copy.2.2.1 29 = .ok (.ireturn, 1) := by decide +kernel
theorem d_P_copy_30 : decode zm_P_copy.2.2.1 30 = .ok (.aload_n 0, 1) := by decide +kernel
theorem d_P_copy_31 : decode zm_P_copy.2.2.1 31 = .ok (.getfield 19, 3) := by decide +kernel
theorem d_P_copy_34 : decode zm_P_copy.2.2.1 34 = .ok (.iload_n 1, 1) := by decide +kernel
theorem d_P_copy_35 : decode zm_P_copy.2.2.1 35 = .ok (.aload_n 0, 1) := by decide +kernel
theorem d_P_copy_36 : decode zm_P_copy.2.2.1 36 = .ok (.getfield 10, 3) := by decide +kernel
theorem d_P_copy_39 : decode zm_P_copy.2.2.1 39 = .ok (.invokevirtual 81, 3) := by decide +kernel
theorem d_P_copy_42 : decode zm_P_copy.2.2.1 42 = .ok (.aload_n 0, 1) := by decide +kernel
theorem d_P_copy_43 : decode zm_P_copy.2.2.1 43 = .ok (.getfield 10, 3) := by decide +kernel
theorem d_P_copy_46 : decode zm_P_copy.2.2.1 46 = .ok (.invokevirtual 73, 3) := by decide +kernel
theorem d_P_copy_49 : decode zm_P_copy.2.2.1 49 = .ok (.aload_n 0, 1) := by decide +kernel
theorem d_P_copy_50 : decode zm_P_copy.2.2.1 50 = .ok (.dup, 1) := by decide +kernel
theorem d_P_copy_51 : decode zm_P_copy.2.2.1 51 = .ok (.getfield 58, 3) := by decide +kernel
theorem d_P_copy_54 : decode zm_P_copy.2.2.1 54 = .ok (.iconst 1, 1) := by decide +kernel
theorem d_P_copy_55 : decode zm_P_copy.2.2.1 55 = .ok (.iadd, 1) := by decide +kernel
theorem d_P_copy_56 : decode zm_P_copy.2.2.1 56 = .ok (.putfield 58, 3) := by decide +kernel
theorem d_P_copy_59 : decode zm_P_copy.2.2.1 59 = .ok (.iload_n 1, 1) := by decide +kernel
theorem d_P_copy_60 : decode zm_P_copy.2.2.1 60 = .ok (.ireturn, 1) := by decide +kernel
theorem d_P_correct_0 : decode zm_P_correct.2.2.1 0 = .ok (.aload_n 0, 1) := by decide +kernel
theorem d_P_correct_1 : decode zm_P_correct.2.2.1 1 = .ok (.getfield 19, 3) := by decide +kernel
theorem d_P_correct_4 : decode zm_P_correct.2.2.1 4 = .ok (.iload_n 1, 1) := by decide +kernel
theorem d_P_correct_5 : decode zm_P_correct.2.2.1 5 = .ok (.invokevirtual 85, 3) := by decide +kernel
theorem d_P_correct_8 : decode zm_P_correct.2.2.1 8 = .ok (.ifCond .ne 6, 3) := by decide +kernel
theorem d_P_correct_11 : decode zm_P_correct.2.2.1 11 = .ok (.bipush (-101), 2) := by decide +kernel
theorem d_P_correct_13 : decode zm_P_correct.2.2.1 13 = .ok (.ireturn, 1) := by decide +kernel
theorem d_P_correct_14 : decode zm_P_correct.2.2.1 14 = .ok (.aload_n 0, 1) := by decide +kernel
theorem d_P_correct_15 : decode zm_P_correct.2.2.1 15 = .ok (.getfield 10, 3) := by decide +kernel
theorem d_P_correct_18 : decode zm_P_correct.2.2.1 18 = .ok (.invokevirtual 76, 3) := by decide +kernel
theorem d_P_correct_21 : decode zm_P_correct.2.2.1 21 = .ok (.ifCond .ne 6, 3) := by decide +kernel
theorem d_P_correct_24 : decode zm_P_correct.2.2.1 24 = .ok (.bipush (-103), 2) := by decide +kernel
theorem d_P_correct_26 : decode zm_P_correct.2.2.1 26 = .ok (.ireturn, 1) := by decide +kernel
theorem d_P_correct_27 : decode zm_P_correct.2.2.1 27 = .ok (.aload_n 0, 1) := by decide +kernel
theorem d_P_correct_28 : decode zm_P_correct.2.2.1 28 = .ok (.getfield 19, 3) := by decide +kernel
theorem d_P_correct_31 : decode zm_P_correct.2.2.1 31 = .ok (.iload_n 1, 1) := by decide +kernel
theorem d_P_correct_32 : decode zm_P_correct.2.2.1 32 = .ok (.invokevirtual 89, 3) := by decide +kernel
theorem d_P_correct_35 : decode zm_P_correct.2.2.1 35 = .ok (.invokevirtual 65, 3) := by decide +kernel
theorem d_P_correct_38 : decode zm_P_correct.2.2.1 38 = .ok (.istore_n 2, 1) := by decide +kernel
theorem d_P_correct_39 : decode zm_P_correct.2.2.1 39 = .ok (.aload_n 0, 1) := by decide +kernel
theorem d_P_correct_40 : decode zm_P_correct.2.2.1 40 = .ok (.getfield 19, 3) := by decide +kernel
theorem d_P_correct_43 : decode zm_P_correct.2.2.1 43 = .ok (.iload_n 1, 1) := by decide +kernel
theorem d_P_correct_44 : decode zm_P_correct.2.2.1 44 = .ok (.aload_n 0, 1) := by decide +kernel
theorem d_P_correct_45 : decode zm_P_correct.2.2.1 45 = .ok (.getfield 10, 3) := by decide +kernel
theorem d_P_correct_48 : decode zm_P_correct.2.2.1 48 = .ok (.invokevirtual 81, 3) := by decide +kernel
theorem d_P_correct_51 : decode zm_P_correct.2.2.1 51 = .ok (.aload_n 0, 1) := by decide +kernel
theorem d_P_correct_52 : decode zm_P_correct.2.2.1 52 = .ok (.getfield 10, 3) := by decide +kernel
theorem d_P_correct_55 : decode zm_P_correct.2.2.1 55 = .ok (.invokevirtual 73, 3) := by decide +kernel
theorem d_P_correct_58 : decode zm_P_correct.2.2.1 58 = .ok (.aload_n 0, 1) := by decide +kernel
theorem d_P_correct_59 : decode zm_P_correct.2.2.1 59 = .ok (.dup, 1) := by decide +kernel
theorem d_P_correct_60 : decode zm_P_correct.2.2.1 60 = .ok (.getfield 58, 3) := by decide +kernel
theorem d_P_correct_63 : decode zm_P_correct.2.2.1 63 = .ok (.iconst 1, 1) := by decide +kernel
theorem d_P_correct_64 : decode zm_P_correct.2.2.1 64 = .ok (.iadd, 1) := by decide +kernel
theorem d_P_correct_65 : decode zm_P_correct.2.2.1 65 = .ok (.putfield 58, 3) := by decide +kernel
theorem d_P_correct_68 : decode zm_P_correct.2.2.1 68 = .ok (.iload_n 2, 1) := by decide +kernel
theorem d_P_correct_69 : decode zm_P_correct.2.2.1 69 = .ok (.ireturn, 1) := by decide +kernel
theorem d_P_drop_0 : decode zm_P_drop.2.2.1 0 = .ok (.aload_n 0, 1) := by decide +kernel
theorem d_P_drop_1 : decode zm_P_drop.2.2.1 1 = .ok (.getfield 19, 3) := by decide +kernel
theorem d_P_drop_4 : decode zm_P_drop.2.2.1 4 = .ok (.invokevirtual 80, 3) := by decide +kernel
theorem d_P_drop_7 : decode zm_P_drop.2.2.1 7 = .ok (.ifCond .gt 6, 3) := by decide +kernel
theorem d_P_drop_10 : decode zm_P_drop.2.2.1 10 = .ok (.bipush (-103), 2) := by decide +kernel
theorem d_P_drop_12 : decode zm_P_drop.2.2.1 12 = .ok (.ireturn, 1) := by decide +kernel
theorem d_P_drop_13 : decode zm_P_drop.2.2.1 13 = .ok (.aload_n 0, 1) := by decide +kernel
theorem d_P_drop_14 : decode zm_P_drop.2.2.1 14 = .ok (.getfield 19, 3) := by decide +kernel
theorem d_P_drop_17 : decode zm_P_drop.2.2.1 17 = .ok (.invokevirtual 93, 3) := by decide +kernel
theorem d_P_drop_20 : decode zm_P_drop.2.2.1 20 = .ok (.aload_n 0, 1) := by decide +kernel
theorem d_P_drop_21 : decode zm_P_drop.2.2.1 21 = .ok (.getfield 19, 3) := by decide +kernel
theorem d_P_drop_24 : decode zm_P_drop.2.2.1 24 = .ok (.invokevirtual 80, 3) := by decide +kernel
theorem d_P_drop_27 : decode zm_P_drop.2.2.1 27 = .ok (.ireturn, 1) := by decide +kernel
theorem d_P_band_0 : decode zm_P_band.2.2.1 0 = .ok (.iload_n 1, 1) := by decide +kernel
theorem d_P_band_1 : decode zm_P_band.2.2.1 1 = .ok (.ifCond .lt 9, 3) := by decide +kernel
theorem d_P_band_4 : decode zm_P_band.2.2.1 4 = .ok (.iload_n 1, 1) := by decide +kernel
theorem d_P_band_5 : decode zm_P_band.2.2.1 5 = .ok (.bipush 9, 2) := by decide +kernel
theorem d_P_band_7 : decode zm_P_band.2.2.1 7 = .ok (.if_icmp .le 6, 3) := by decide +kernel
theorem d_P_band_10 : decode zm_P_band.2.2.1 10 = .ok (.bipush (-102), 2) := by decide +kernel
theorem d_P_band_12 : decode zm_P_band.2.2.1 12 = .ok (.ireturn, 1) := by decide +kernel
theorem d_P_band_13 : decode zm_P_band.2.2.1 13 = .ok (.aload_n 0, 1) := by decide +kernel
theorem d_P_band_14 : decode zm_P_band.2.2.1 14 = .ok (.getfield 19, 3) := by decide +kernel
theorem d_P_band_17 : decode zm_P_band.2.2.1 17 = .ok (.invokevirtual 96, 3) := by decide +kernel
theorem d_P_band_20 : decode zm_P_band.2.2.1 20 = .ok (.istore_n 2, 1) := by decide +kernel
theorem d_P_band_21 : decode zm_P_band.2.2.1 21 = .ok (.aload_n 0, 1) := by decide +kernel
theorem d_P_band_22 : decode zm_P_band.2.2.1 22 = .ok (.getfield 19, 3) := by decide +kernel
theorem d_P_band_25 : decode zm_P_band.2.2.1 25 = .ok (.iload_n 1, 1) := by decide +kernel
theorem d_P_band_26 : decode zm_P_band.2.2.1 26 = .ok (.invokevirtual 99, 3) := by decide +kernel
theorem d_P_band_29 : decode zm_P_band.2.2.1 29 = .ok (.iload_n 2, 1) := by decide +kernel
theorem d_P_band_30 : decode zm_P_band.2.2.1 30 = .ok (.ireturn, 1) := by decide +kernel
theorem d_P_of_0 : decode zm_P_of.2.2.1 0 = .ok (.aload_n 0, 1) := by decide +kernel
theorem d_P_of_1 : decode zm_P_of.2.2.1 1 = .ok (.getfield 19, 3) := by decide +kernel
theorem d_P_of_4 : decode zm_P_of.2.2.1 4 = .ok (.iload_n 1, 1) := by decide +kernel
theorem d_P_of_5 : decode zm_P_of.2.2.1 5 = .ok (.invokevirtual 85, 3) := by decide +kernel
theorem d_P_of_8 : decode zm_P_of.2.2.1 8 = .ok (.ifCond .ne 6, 3) := by decide +kernel
theorem d_P_of_11 : decode zm_P_of.2.2.1 11 = .ok (.bipush (-101), 2) := by decide +kernel
theorem d_P_of_13 : decode zm_P_of.2.2.1 13 = .ok (.ireturn, 1) := by decide +kernel
theorem d_P_of_14 : decode zm_P_of.2.2.1 14 = .ok (.iload_n 2, 1) := by decide +kernel
theorem d_P_of_15 : decode zm_P_of.2.2.1 15 = .ok (.ifCond .lt 8, 3) := by decide +kernel
theorem d_P_of_18 : decode zm_P_of.2.2.1 18 = .ok (.iload_n 2, 1) := by decide +kernel
theorem d_P_of_19 : decode zm_P_of.2.2.1 19 = .ok (.iconst 4, 1) := by decide +kernel
theorem d_P_of_20 : decode zm_P_of.2.2.1 20 = .ok (.if_icmp .le 6, 3) := by decide +kernel
theorem d_P_of_23 : decode zm_P_of.2.2.1 23 = .ok (.bipush (-102), 2) := by decide +kernel
theorem d_P_of_25 : decode zm_P_of.2.2.1 25 = .ok (.ireturn, 1) := by decide +kernel
theorem d_P_of_26 : decode zm_P_of.2.2.1 26 = .ok (.aload_n 0, 1) := by decide +kernel
theorem d_P_of_27 : decode zm_P_of.2.2.1 27 = .ok (.getfield 26, 3) := by decide +kernel
theorem d_P_of_30 : decode zm_P_of.2.2.1 30 = .ok (.aload_n 0, 1) := by decide +kernel
theorem d_P_of_31 : decode zm_P_of.2.2.1 31 = .ok (.getfield 19, 3) := by decide +kernel
theorem d_P_of_34 : decode zm_P_of.2.2.1 34 = .ok (.invokevirtual 102, 3) := by decide +kernel
theorem d_P_of_37 : decode zm_P_of.2.2.1 37 = .ok (.aload_n 0, 1) := by decide +kernel
theorem d_P_of_38 : decode zm_P_of.2.2.1 38 = .ok (.iload_n 1, 1) := by decide +kernel
theorem d_P_of_39 : decode zm_P_of.2.2.1 39 = .ok (.iload_n 2, 1) := by decide +kernel
theorem d_P_of_40 : decode zm_P_of.2.2.1 40 = .ok (.invokevirtual 106, 3) := by decide +kernel
theorem d_P_of_43 : decode zm_P_of.2.2.1 43 = .ok (.ireturn, 1) := by decide +kernel
theorem d_P_sign_0 : decode zm_P_sign.2.2.1 0 = .ok (.aload_n 0, 1) := by decide +kernel
theorem d_P_sign_1 : decode zm_P_sign.2.2.1 1 = .ok (.getfield 19, 3) := by decide +kernel
theorem d_P_sign_4 : decode zm_P_sign.2.2.1 4 = .ok (.iload_n 1, 1) := by decide +kernel
theorem d_P_sign_5 : decode zm_P_sign.2.2.1 5 = .ok (.invokevirtual 85, 3) := by decide +kernel
theorem d_P_sign_8 : decode zm_P_sign.2.2.1 8 = .ok (.ifCond .eq 18, 3) := by decide +kernel
theorem d_P_sign_11 : decode zm_P_sign.2.2.1 11 = .ok (.aload_n 0, 1) := by decide +kernel
theorem d_P_sign_12 : decode zm_P_sign.2.2.1 12 = .ok (.getfield 19, 3) := by decide +kernel
theorem d_P_sign_15 : decode zm_P_sign.2.2.1 15 = .ok (.iload_n 1, 1) := by decide +kernel
theorem d_P_sign_16 : decode zm_P_sign.2.2.1 16 = .ok (.invokevirtual 89, 3) := by decide +kernel
theorem d_P_sign_19 : decode zm_P_sign.2.2.1 19 = .ok (.iload_n 2, 1) := by decide +kernel
theorem d_P_sign_20 : decode zm_P_sign.2.2.1 20 = .ok (.invokevirtual 110, 3) := by decide +kernel
theorem d_P_sign_23 : decode zm_P_sign.2.2.1 23 = .ok (.ifCond .ne 6, 3) := by decide +kernel
theorem d_P_sign_26 : decode zm_P_sign.2.2.1 26 = .ok (.bipush (-101), 2) := by decide +kernel
theorem d_P_sign_28 : decode zm_P_sign.2.2.1 28 = .ok (.ireturn, 1) := by decide +kernel
theorem d_P_sign_29 : decode zm_P_sign.2.2.1 29 = .ok (.aload_n 0, 1) := by decide +kernel
theorem d_P_sign_30 : decode zm_P_sign.2.2.1 30 = .ok (.getfield 19, 3) := by decide +kernel
theorem d_P_sign_33 : decode zm_P_sign.2.2.1 33 = .ok (.iload_n 1, 1) := by decide +kernel
theorem d_P_sign_34 : decode zm_P_sign.2.2.1 34 = .ok (.invokevirtual 89, 3) := by decide +kernel
theorem d_P_sign_37 : decode zm_P_sign.2.2.1 37 = .ok (.iload_n 2, 1) := by decide +kernel
theorem d_P_sign_38 : decode zm_P_sign.2.2.1 38 = .ok (.invokevirtual 111, 3) := by decide +kernel
theorem d_P_sign_41 : decode zm_P_sign.2.2.1 41 = .ok (.ireturn, 1) := by decide +kernel
theorem d_P_collate_0 : decode zm_P_collate.2.2.1 0 = .ok (.aload_n 0, 1) := by decide +kernel
theorem d_P_collate_1 : decode zm_P_collate.2.2.1 1 = .ok (.getfield 19, 3) := by decide +kernel
theorem d_P_collate_4 : decode zm_P_collate.2.2.1 4 = .ok (.iload_n 1, 1) := by decide +kernel
theorem d_P_collate_5 : decode zm_P_collate.2.2.1 5 = .ok (.invokevirtual 85, 3) := by decide +kernel
theorem d_P_collate_8 : decode zm_P_collate.2.2.1 8 = .ok (.ifCond .eq 14, 3) := by decide +kernel
theorem d_P_collate_11 : decode zm_P_collate.2.2.1 11 = .ok (.aload_n 0, 1) := by decide +kernel
theorem d_P_collate_12 : decode zm_P_collate.2.2.1 12 = .ok (.getfield 19, 3) := by decide +kernel
theorem d_P_collate_15 : decode zm_P_collate.2.2.1 15 = .ok (.iload_n 2, 1) := by decide +kernel
theorem d_P_collate_16 : decode zm_P_collate.2.2.1 16 = .ok (.invokevirtual 85, 3) := by decide +kernel
theorem d_P_collate_19 : decode zm_P_collate.2.2.1 19 = .ok (.ifCond .ne 6, 3) := by decide +kernel
theorem d_P_collate_22 : decode zm_P_collate.2.2.1 22 = .ok (.bipush (-101), 2) := by decide +kernel
theorem d_P_collate_24 : decode zm_P_collate.2.2.1 24 = .ok (.ireturn, 1) := by decide +kernel
theorem d_P_collate_25 : decode zm_P_collate.2.2.1 25 = .ok (.iload_n 3, 1) := by decide +kernel
theorem d_P_collate_26 : decode zm_P_collate.2.2.1 26 = .ok (.ifCond .lt 9, 3) := by decide +kernel
theorem d_P_collate_29 : decode zm_P_collate.2.2.1 29 = .ok (.iload_n 3, 1) := by decide +kernel
theorem d_P_collate_30 : decode zm_P_collate.2.2.1 30 = .ok (.bipush 7, 2) := by decide +kernel
theorem d_P_collate_32 : decode zm_P_collate.2.2.1 32 = .ok (.if_icmp .lt 6, 3) := by decide +kernel
theorem d_P_collate_35 : decode zm_P_collate.2.2.1 35 = .ok (.bipush (-102), 2) := by decide +kernel
theorem d_P_collate_37 : decode zm_P_collate.2.2.1 37 = .ok (.ireturn, 1) := by decide +kernel
theorem d_P_collate_38 : decode zm_P_collate.2.2.1 38 = .ok (.aload_n 0, 1) := by decide +kernel
theorem d_P_collate_39 : decode zm_P_collate.2.2.1 39 = .ok (.getfield 19, 3) := by decide +kernel
theorem d_P_collate_42 : decode zm_P_collate.2.2.1 42 = .ok (.iload_n 1, 1) := by decide +kernel
theorem d_P_collate_43 : decode zm_P_collate.2.2.1 43 = .ok (.iload_n 2, 1) := by decide +kernel
theorem d_P_collate_44 : decode zm_P_collate.2.2.1 44 = .ok (.invokevirtual 115, 3) := by decide +kernel
theorem d_P_collate_47 : decode zm_P_collate.2.2.1 47 = .ok (.iload_n 3, 1) := by decide +kernel
theorem d_P_collate_48 : decode zm_P_collate.2.2.1 48 = .ok (.invokevirtual 119, 3) := by decide +kernel
theorem d_P_collate_51 : decode zm_P_collate.2.2.1 51 = .ok (.ireturn, 1) := by decide +kernel
theorem d_P_step_0 : decode zm_P_step.2.2.1 0 = .ok (.aload_n 0, 1) := by decide +kernel
theorem d_P_step_1 : decode zm_P_step.2.2.1 1 = .ok (.getfield 19, 3) := by decide +kernel
theorem d_P_step_4 : decode zm_P_step.2.2.1 4 = .ok (.iload_n 1, 1) := by decide +kernel
theorem d_P_step_5 : decode zm_P_step.2.2.1 5 = .ok (.invokevirtual 85, 3) := by decide +kernel
theorem d_P_step_8 : decode zm_P_step.2.2.1 8 = .ok (.ifCond .eq 14, 3) := by decide +kernel
theorem d_P_step_11 : decode zm_P_step.2.2.1 11 = .ok (.aload_n 0, 1) := by decide +kernel
theorem d_P_step_12 : decode zm_P_step.2.2.1 12 = .ok (.getfield 19, 3) := by decide +kernel
theorem d_P_step_15 : decode zm_P_step.2.2.1 15 = .ok (.iload_n 2, 1) := by decide +kernel
theorem d_P_step_16 : decode zm_P_step.2.2.1 16 = .ok (.invokevirtual 85, 3) := by decide +kernel
theorem d_P_step_19 : decode zm_P_step.2.2.1 19 = .ok (.ifCond .ne 6, 3) := by decide +kernel
theorem d_P_step_22 : decode zm_P_step.2.2.1 22 = .ok (.bipush (-101), 2) := by decide +kernel
theorem d_P_step_24 : decode zm_P_step.2.2.1 24 = .ok (.ireturn, 1) := by decide +kernel
theorem d_P_step_25 : decode zm_P_step.2.2.1 25 = .ok (.aload_n 0, 1) := by decide +kernel
theorem d_P_step_26 : decode zm_P_step.2.2.1 26 = .ok (.getfield 19, 3) := by decide +kernel
theorem d_P_step_29 : decode zm_P_step.2.2.1 29 = .ok (.iload_n 1, 1) := by decide +kernel
theorem d_P_step_30 : decode zm_P_step.2.2.1 30 = .ok (.iload_n 2, 1) := by decide +kernel
theorem d_P_step_31 : decode zm_P_step.2.2.1 31 = .ok (.invokevirtual 115, 3) := by decide +kernel
theorem d_P_step_34 : decode zm_P_step.2.2.1 34 = .ok (.astore 4, 2) := by decide +kernel
theorem d_P_step_36 : decode zm_P_step.2.2.1 36 = .ok (.aload 4, 2) := by decide +kernel
theorem d_P_step_38 : decode zm_P_step.2.2.1 38 = .ok (.iload_n 3, 1) := by decide +kernel
theorem d_P_step_39 : decode zm_P_step.2.2.1 39 = .ok (.invokevirtual 124, 3) := by decide +kernel
theorem d_P_step_42 : decode zm_P_step.2.2.1 42 = .ok (.ifCond .eq 12, 3) := by decide +kernel
theorem d_P_step_45 : decode zm_P_step.2.2.1 45 = .ok (.aload 4, 2) := by decide +kernel
theorem d_P_step_47 : decode zm_P_step.2.2.1 47 = .ok (.iload_n 3, 1) := by decide +kernel
theorem d_P_step_48 : decode zm_P_step.2.2.1 48 = .ok (.invokevirtual 127, 3) := by decide +kernel
theorem d_P_step_51 : decode zm_P_step.2.2.1 51 = .ok (.goto 5, 3) := by decide +kernel
theorem d_P_step_54 : decode zm_P_step.2.2.1 54 = .ok (.bipush (-101), 2) := by decide +kernel
theorem d_P_step_56 : decode zm_P_step.2.2.1 56 = .ok (.ireturn, 1) := by decide +kernel
theorem d_P_reading_0 : decode zm_P_reading.2.2.1 0 = .ok (.aload_n 0, 1) := by decide +kernel
theorem d_P_reading_1 : decode zm_P_reading.2.2.1 1 = .ok (.getfield 19, 3) := by decide +kernel
theorem d_P_reading_4 : decode zm_P_reading.2.2.1 4 = .ok (.iload_n 1, 1) := by decide +kernel
theorem d_P_reading_5 : decode zm_P_reading.2.2.1 5 = .ok (.invokevirtual 85, 3) := by decide +kernel
theorem d_P_reading_8 : decode zm_P_reading.2.2.1 8 = .ok (.ifCond .eq 18, 3) := by decide +kernel
theorem d_P_reading_11 : decode zm_P_reading.2.2.1 11 = .ok (.aload_n 0, 1) := by decide +kernel
theorem d_P_reading_12 : decode zm_P_reading.2.2.1 12 = .ok (.getfield 19, 3) := by decide +kernel
theorem d_P_reading_15 : decode zm_P_reading.2.2.1 15 = .ok (.iconst 0, 1) := by decide +kernel
theorem d_P_reading_16 : decode zm_P_reading.2.2.1 16 = .ok (.invokevirtual 89, 3) := by decide +kernel
theorem d_P_reading_19 : decode zm_P_reading.2.2.1 19 = .ok (.iload_n 2, 1) := by decide +kernel
theorem d_P_reading_20 : decode zm_P_reading.2.2.1 20 = .ok (.invokevirtual 110, 3) := by decide +kernel
theorem d_P_reading_23 : decode zm_P_reading.2.2.1 23 = .ok (.ifCond .ne 6, 3) := by decide +kernel
theorem d_P_reading_26 : decode zm_P_reading.2.2.1 26 = .ok (.bipush (-101), 2) := by decide +kernel
theorem d_P_reading_28 : decode zm_P_reading.2.2.1 28 = .ok (.ireturn, 1) := by decide +kernel
theorem d_P_reading_29 : decode zm_P_reading.2.2.1 29 = .ok (.aload_n 0, 1) := by decide +kernel
theorem d_P_reading_30 : decode zm_P_reading.2.2.1 30 = .ok (.getfield 26, 3) := by decide +kernel
theorem d_P_reading_33 : decode zm_P_reading.2.2.1 33 = .ok (.aload_n 0, 1) := by decide +kernel
theorem d_P_reading_34 : decode zm_P_reading.2.2.1 34 = .ok (.getfield 19, 3) := by decide +kernel
theorem d_P_reading_37 : decode zm_P_reading.2.2.1 37 = .ok (.invokevirtual 102, 3) := by decide +kernel
theorem d_P_reading_40 : decode zm_P_reading.2.2.1 40 = .ok (.aload_n 0, 1) := by decide +kernel
theorem d_P_reading_41 : decode zm_P_reading.2.2.1 41 = .ok (.getfield 26, 3) := by decide +kernel
theorem d_P_reading_44 : decode zm_P_reading.2.2.1 44 = .ok (.iload_n 1, 1) := by decide +kernel
theorem d_P_reading_45 : decode zm_P_reading.2.2.1 45 = .ok (.invokevirtual 130, 3) := by decide +kernel
theorem d_P_reading_48 : decode zm_P_reading.2.2.1 48 = .ok (.ifCond .eq 6, 3) := by decide +kernel
theorem d_P_reading_51 : decode zm_P_reading.2.2.1 51 = .ok (.bipush (-103), 2) := by decide +kernel
theorem d_P_reading_53 : decode zm_P_reading.2.2.1 53 = .ok (.ireturn, 1) := by decide +kernel
theorem d_P_reading_54 : decode zm_P_reading.2.2.1 54 = .ok (.aload_n 0, 1) := by decide +kernel
theorem d_P_reading_55 : decode zm_P_reading.2.2.1 55 = .ok (.getfield 26, 3) := by decide +kernel
theorem d_P_reading_58 : decode zm_P_reading.2.2.1 58 = .ok (.iload_n 1, 1) := by decide +kernel
theorem d_P_reading_59 : decode zm_P_reading.2.2.1 59 = .ok (.iload_n 2, 1) := by decide +kernel
theorem d_P_reading_60 : decode zm_P_reading.2.2.1 60 = .ok (.invokevirtual 133, 3) := by decide +kernel
theorem d_P_reading_63 : decode zm_P_reading.2.2.1 63 = .ok (.ireturn, 1) := by decide +kernel
theorem d_P_states_0 : decode zm_P_states.2.2.1 0 = .ok (.iload_n 1, 1) := by decide +kernel
theorem d_P_states_1 : decode zm_P_states.2.2.1 1 = .ok (.ifCond .lt 8, 3) := by decide +kernel
theorem d_P_states_4 : decode zm_P_states.2.2.1 4 = .ok (.iload_n 1, 1) := by decide +kernel
theorem d_P_states_5 : decode zm_P_states.2.2.1 5 = .ok (.iconst 5, 1) := by decide +kernel
theorem d_P_states_6 : decode zm_P_states.2.2.1 6 = .ok (.if_icmp .le 6, 3) := by decide +kernel
theorem d_P_states_9 : decode zm_P_states.2.2.1 9 = .ok (.bipush (-102), 2) := by decide +kernel
theorem d_P_states_11 : decode zm_P_states.2.2.1 11 = .ok (.ireturn, 1) := by decide +kernel
theorem d_P_states_12 : decode zm_P_states.2.2.1 12 = .ok (.aload_n 0, 1) := by decide +kernel
theorem d_P_states_13 : decode zm_P_states.2.2.1 13 = .ok (.getfield 26, 3) := by decide +kernel
theorem d_P_states_16 : decode zm_P_states.2.2.1 16 = .ok (.aload_n 0, 1) := by decide +kernel
theorem d_P_states_17 : decode zm_P_states.2.2.1 17 = .ok (.getfield 19, 3) := by decide +kernel
theorem d_P_states_20 : decode zm_P_states.2.2.1 20 = .ok (.invokevirtual 102, 3) := by decide +kernel
theorem d_P_states_23 : decode zm_P_states.2.2.1 23 = .ok (.aload_n 0, 1) := by decide +kernel
theorem d_P_states_24 : decode zm_P_states.2.2.1 24 = .ok (.getfield 26, 3) := by decide +kernel
theorem d_P_states_27 : decode zm_P_states.2.2.1 27 = .ok (.iload_n 1, 1) := by decide +kernel
theorem d_P_states_28 : decode zm_P_states.2.2.1 28 = .ok (.invokevirtual 136, 3) := by decide +kernel
theorem d_P_states_31 : decode zm_P_states.2.2.1 31 = .ok (.ireturn, 1) := by decide +kernel
theorem d_P_state_0 : decode zm_P_state.2.2.1 0 = .ok (.aload_n 0, 1) := by decide +kernel
theorem d_P_state_1 : decode zm_P_state.2.2.1 1 = .ok (.getfield 26, 3) := by decide +kernel
theorem d_P_state_4 : decode zm_P_state.2.2.1 4 = .ok (.aload_n 0, 1) := by decide +kernel
theorem d_P_state_5 : decode zm_P_state.2.2.1 5 = .ok (.getfield 19, 3) := by decide +kernel
theorem d_P_state_8 : decode zm_P_state.2.2.1 8 = .ok (.invokevirtual 102, 3) := by decide +kernel
theorem d_P_state_11 : decode zm_P_state.2.2.1 11 = .ok (.aload_n 0, 1) := by decide +kernel
theorem d_P_state_12 : decode zm_P_state.2.2.1 12 = .ok (.getfield 26, 3) := by decide +kernel
theorem d_P_state_15 : decode zm_P_state.2.2.1 15 = .ok (.iload_n 1, 1) := by decide +kernel
theorem d_P_state_16 : decode zm_P_state.2.2.1 16 = .ok (.invokevirtual 139, 3) := by decide +kernel
theorem d_P_state_19 : decode zm_P_state.2.2.1 19 = .ok (.ifCond .ne 6, 3) := by decide +kernel
theorem d_P_state_22 : decode zm_P_state.2.2.1 22 = .ok (.bipush (-101), 2) := by decide +kernel
theorem d_P_state_24 : decode zm_P_state.2.2.1 24 = .ok (.ireturn, 1) := by decide +kernel
theorem d_P_state_25 : decode zm_P_state.2.2.1 25 = .ok (.iload_n 2, 1) := by decide +kernel
theorem d_P_state_26 : decode zm_P_state.2.2.1 26 = .ok (.ifCond .lt 9, 3) := by decide +kernel
theorem d_P_state_29 : decode zm_P_state.2.2.1 29 = .ok (.iload_n 2, 1) := by decide +kernel
theorem d_P_state_30 : decode zm_P_state.2.2.1 30 = .ok (.bipush 6, 2) := by decide +kernel
theorem d_P_state_32 : decode zm_P_state.2.2.1 32 = .ok (.if_icmp .le 6, 3) := by decide +kernel
theorem d_P_state_35 : decode zm_P_state.2.2.1 35 = .ok (.bipush (-102), 2) := by decide +kernel
theorem d_P_state_37 : decode zm_P_state.2.2.1 37 = .ok (.ireturn, 1) := by decide +kernel
theorem d_P_state_38 : decode zm_P_state.2.2.1 38 = .ok (.aload_n 0, 1) := by decide +kernel
theorem d_P_state_39 : decode zm_P_state.2.2.1 39 = .ok (.getfield 26, 3) := by decide +kernel
theorem d_P_state_42 : decode zm_P_state.2.2.1 42 = .ok (.iload_n 1, 1) := by decide +kernel
theorem d_P_state_43 : decode zm_P_state.2.2.1 43 = .ok (.iload_n 2, 1) := by decide +kernel
theorem d_P_state_44 : decode zm_P_state.2.2.1 44 = .ok (.invokevirtual 140, 3) := by decide +kernel
theorem d_P_state_47 : decode zm_P_state.2.2.1 47 = .ok (.ireturn, 1) := by decide +kernel
theorem d_P_far_0 : decode zm_P_far.2.2.1 0 = .ok (.aload_n 0, 1) := by decide +kernel
theorem d_P_far_1 : decode zm_P_far.2.2.1 1 = .ok (.getfield 26, 3) := by decide +kernel
theorem d_P_far_4 : decode zm_P_far.2.2.1 4 = .ok (.aload_n 0, 1) := by decide +kernel
theorem d_P_far_5 : decode zm_P_far.2.2.1 5 = .ok (.getfield 19, 3) := by decide +kernel
theorem d_P_far_8 : decode zm_P_far.2.2.1 8 = .ok (.invokevirtual 102, 3) := by decide +kernel
theorem d_P_far_11 : decode zm_P_far.2.2.1 11 = .ok (.aload_n 0, 1) := by decide +kernel
theorem d_P_far_12 : decode zm_P_far.2.2.1 12 = .ok (.getfield 26, 3) := by decide +kernel
theorem d_P_far_15 : decode zm_P_far.2.2.1 15 = .ok (.iload_n 1, 1) := by decide +kernel
theorem d_P_far_16 : decode zm_P_far.2.2.1 16 = .ok (.invokevirtual 139, 3) := by decide +kernel
theorem d_P_far_19 : decode zm_P_far.2.2.1 19 = .ok (.ifCond .eq 14, 3) := by decide +kernel
theorem d_P_far_22 : decode zm_P_far.2.2.1 22 = .ok (.aload_n 0, 1) := by decide +kernel
theorem d_P_far_23 : decode zm_P_far.2.2.1 23 = .ok (.getfield 26, 3) := by decide +kernel
theorem d_P_far_26 : decode zm_P_far.2.2.1 26 = .ok (.iload_n 2, 1) := by decide +kernel
theorem d_P_far_27 : decode zm_P_far.2.2.1 27 = .ok (.invokevirtual 139, 3) := by decide +kernel
theorem d_P_far_30 : decode zm_P_far.2.2.1 30 = .ok (.ifCond .ne 6, 3) := by decide +kernel
theorem d_P_far_33 : decode zm_P_far.2.2.1 33 = .ok (.bipush (-101), 2) := by decide +kernel
theorem d_P_far_35 : decode zm_P_far.2.2.1 35 = .ok (.ireturn, 1) := by decide +kernel
theorem d_P_far_36 : decode zm_P_far.2.2.1 36 = .ok (.aload_n 0, 1) := by decide +kernel
theorem d_P_far_37 : decode zm_P_far.2.2.1 37 = .ok (.getfield 26, 3) := by decide +kernel
theorem d_P_far_40 : decode zm_P_far.2.2.1 40 = .ok (.iload_n 1, 1) := by decide +kernel
theorem d_P_far_41 : decode zm_P_far.2.2.1 41 = .ok (.iload_n 2, 1) := by decide +kernel
theorem d_P_far_42 : decode zm_P_far.2.2.1 42 = .ok (.invokevirtual 143, 3) := by decide +kernel
theorem d_P_far_45 : decode zm_P_far.2.2.1 45 = .ok (.ireturn, 1) := by decide +kernel
theorem d_P_turned_0 : decode zm_P_turned.2.2.1 0 = .ok (.aload_n 0, 1) := by decide +kernel
theorem d_P_turned_1 : decode zm_P_turned.2.2.1 1 = .ok (.getfield 26, 3) := by decide +kernel
theorem d_P_turned_4 : decode zm_P_turned.2.2.1 4 = .ok (.aload_n 0, 1) := by decide +kernel
theorem d_P_turned_5 : decode zm_P_turned.2.2.1 5 = .ok (.getfield 19, 3) := by decide +kernel
theorem d_P_turned_8 : decode zm_P_turned.2.2.1 8 = .ok (.invokevirtual 102, 3) := by decide +kernel
theorem d_P_turned_11 : decode zm_P_turned.2.2.1 11 = .ok (.aload_n 0, 1) := by decide +kernel
theorem d_P_turned_12 : decode zm_P_turned.2.2.1 12 = .ok (.getfield 26, 3) := by decide +kernel
theorem d_P_turned_15 : decode zm_P_turned.2.2.1 15 = .ok (.iload_n 1, 1) := by decide +kernel
theorem d_P_turned_16 : decode zm_P_turned.2.2.1 16 = .ok (.invokevirtual 139, 3) := by decide +kernel
theorem d_P_turned_19 : decode zm_P_turned.2.2.1 19 = .ok (.ifCond .eq 18, 3) := by decide +kernel
theorem d_P_turned_22 : decode zm_P_turned.2.2.1 22 = .ok (.aload_n 0, 1) := by decide +kernel
theorem d_P_turned_23 : decode zm_P_turned.2.2.1 23 = .ok (.getfield 19, 3) := by decide +kernel
theorem d_P_turned_26 : decode zm_P_turned.2.2.1 26 = .ok (.iconst 0, 1) := by decide +kernel
theorem d_P_turned_27 : decode zm_P_turned.2.2.1 27 = .ok (.invokevirtual 89, 3) := by decide +kernel
theorem d_P_turned_30 : decode zm_P_turned.2.2.1 30 = .ok (.iload_n 2, 1) := by decide +kernel
theorem d_P_turned_31 : decode zm_P_turned.2.2.1 31 = .ok (.invokevirtual 110, 3) := by decide +kernel
theorem d_P_turned_34 : decode zm_P_turned.2.2.1 34 = .ok (.ifCond .ne 6, 3) := by decide +kernel
theorem d_P_turned_37 : decode zm_P_turned.2.2.1 37 = .ok (.bipush (-101), 2) := by decide +kernel
theorem d_P_turned_39 : decode zm_P_turned.2.2.1 39 = .ok (.ireturn, 1) := by decide +kernel
theorem d_P_turned_40 : decode zm_P_turned.2.2.1 40 = .ok (.aload_n 0, 1) := by decide +kernel
theorem d_P_turned_41 : decode zm_P_turned.2.2.1 41 = .ok (.getfield 26, 3) := by decide +kernel
theorem d_P_turned_44 : decode zm_P_turned.2.2.1 44 = .ok (.iload_n 1, 1) := by decide +kernel
theorem d_P_turned_45 : decode zm_P_turned.2.2.1 45 = .ok (.iload_n 2, 1) := by decide +kernel
theorem d_P_turned_46 : decode zm_P_turned.2.2.1 46 = .ok (.invokevirtual 146, 3) := by decide +kernel
theorem d_P_turned_49 : decode zm_P_turned.2.2.1 49 = .ok (.ifCond .eq 7, 3) := by decide +kernel
theorem d_P_turned_52 : decode zm_P_turned.2.2.1 52 = .ok (.iconst 1, 1) := by decide +kernel
theorem d_P_turned_53 : decode zm_P_turned.2.2.1 53 = .ok (.goto 4, 3) := by decide +kernel
theorem d_P_turned_56 : decode zm_P_turned.2.2.1 56 = .ok (.iconst 0, 1) := by decide +kernel
theorem d_P_turned_57 : decode zm_P_turned.2.2.1 57 = .ok (.ireturn, 1) := by decide +kernel
theorem d_P_see_0 : decode zm_P_see.2.2.1 0 = .ok (.iload_n 1, 1) := by decide +kernel
theorem d_P_see_1 : decode zm_P_see.2.2.1 1 = .ok (.ifCond .lt 19, 3) := by decide +kernel
theorem d_P_see_4 : decode zm_P_see.2.2.1 4 = .ok (.iload_n 1, 1) := by decide +kernel
theorem d_P_see_5 : decode zm_P_see.2.2.1 5 = .ok (.bipush 6, 2) := by decide +kernel
theorem d_P_see_7 : decode zm_P_see.2.2.1 7 = .ok (.if_icmp .ge 13, 3) := by decide +kernel
theorem d_P_see_10 : decode zm_P_see.2.2.1 10 = .ok (.iload_n 2, 1) := by decide +kernel
theorem d_P_see_11 : decode zm_P_see.2.2.1 11 = .ok (.ifCond .lt 9, 3) := by decide +kernel
theorem d_P_see_14 : decode zm_P_see.2.2.1 14 = .ok (.iload_n 2, 1) := by decide +kernel
theorem d_P_see_15 : decode zm_P_see.2.2.1 15 = .ok (.bipush 6, 2) := by decide +kernel
theorem d_P_see_17 : decode zm_P_see.2.2.1 17 = .ok (.if_icmp .lt 6, 3) := by decide +kernel
theorem d_P_see_20 : decode zm_P_see.2.2.1 20 = .ok (.bipush (-102), 2) := by decide +kernel
theorem d_P_see_22 : decode zm_P_see.2.2.1 22 = .ok (.ireturn, 1) := by decide +kernel
theorem d_P_see_23 : decode zm_P_see.2.2.1 23 = .ok (.iload_n 3, 1) := by decide +kernel
theorem d_P_see_24 : decode zm_P_see.2.2.1 24 = .ok (.ifCond .lt 22, 3) := by decide +kernel
theorem d_P_see_27 : decode zm_P_see.2.2.1 27 = .ok (.iload_n 3, 1) := by decide +kernel
theorem d_P_see_28 : decode zm_P_see.2.2.1 28 = .ok (.bipush 9, 2) := by decide +kernel
theorem d_P_see_30 : decode zm_P_see.2.2.1 30 = .ok (.if_icmp .gt 16, 3) := by decide +kernel
theorem d_P_see_33 : decode zm_P_see.2.2.1 33 = .ok (.iload 4, 2) := by decide +kernel
theorem d_P_see_35 : decode zm_P_see.2.2.1 35 = .ok (.iconst 1, 1) := by decide +kernel
theorem d_P_see_36 : decode zm_P_see.2.2.1 36 = .ok (.if_icmp .lt 10, 3) := by decide +kernel
theorem d_P_see_39 : decode zm_P_see.2.2.1 39 = .ok (.iload 4, 2) := by decide +kernel
theorem d_P_see_41 : decode zm_P_see.2.2.1 41 = .ok (.bipush 9, 2) := by decide +kernel
theorem d_P_see_43 : decode zm_P_see.2.2.1 43 = .ok (.if_icmp .le 6, 3) := by decide +kernel
theorem d_P_see_46 : decode zm_P_see.2.2.1 46 = .ok (.bipush (-102), 2) := by decide +kernel
theorem d_P_see_48 : decode zm_P_see.2.2.1 48 = .ok (.ireturn, 1) := by decide +kernel
theorem d_P_see_49 : decode zm_P_see.2.2.1 49 = .ok (.aload_n 0, 1) := by decide +kernel
theorem d_P_see_50 : decode zm_P_see.2.2.1 50 = .ok (.getfield 33, 3) := by decide +kernel
theorem d_P_see_53 : decode zm_P_see.2.2.1 53 = .ok (.iload_n 1, 1) := by decide +kernel
theorem d_P_see_54 : decode zm_P_see.2.2.1 54 = .ok (.iload_n 2, 1) := by decide +kernel
theorem d_P_see_55 : decode zm_P_see.2.2.1 55 = .ok (.iload_n 3, 1) := by decide +kernel
theorem d_P_see_56 : decode zm_P_see.2.2.1 56 = .ok (.invokevirtual 150, 3) := by decide +kernel
theorem d_P_see_59 : decode zm_P_see.2.2.1 59 = .ok (.ifCond .eq 6, 3) := by decide +kernel
theorem d_P_see_62 : decode zm_P_see.2.2.1 62 = .ok (.bipush (-103), 2) := by decide +kernel
theorem d_P_see_64 : decode zm_P_see.2.2.1 64 = .ok (.ireturn, 1) := by decide +kernel
theorem d_P_see_65 : decode zm_P_see.2.2.1 65 = .ok (.aload_n 0, 1) := by decide +kernel
theorem d_P_see_66 : decode zm_P_see.2.2.1 66 = .ok (.getfield 33, 3) := by decide +kernel
theorem d_P_see_69 : decode zm_P_see.2.2.1 69 = .ok (.invokevirtual 154, 3) := by decide +kernel
theorem d_P_see_72 : decode zm_P_see.2.2.1 72 = .ok (.istore 5, 2) := by decide +kernel
theorem d_P_see_74 : decode zm_P_see.2.2.1 74 = .ok (.iload 5, 2) := by decide +kernel
theorem d_P_see_76 : decode zm_P_see.2.2.1 76 = .ok (.bipush 12, 2) := by decide +kernel
theorem d_P_see_78 : decode zm_P_see.2.2.1 78 = .ok (.if_icmp .lt 6, 3) := by decide +kernel
theorem d_P_see_81 : decode zm_P_see.2.2.1 81 = .ok (.bipush (-104), 2) := by decide +kernel
theorem d_P_see_83 : decode zm_P_see.2.2.1 83 = .ok (.ireturn, 1) := by decide +kernel
theorem d_P_see_84 : decode zm_P_see.2.2.1 84 = .ok (.aload_n 0, 1) := by decide +kernel
theorem d_P_see_85 : decode zm_P_see.2.2.1 85 = .ok (.getfield 33, 3) := by decide +kernel
theorem d_P_see_88 : decode zm_P_see.2.2.1 88 = .ok (.iload_n 1, 1) := by decide +kernel
theorem d_P_see_89 : decode zm_P_see.2.2.1 89 = .ok (.iload_n 2, 1) := by decide +kernel
theorem d_P_see_90 : decode zm_P_see.2.2.1 90 = .ok (.iload_n 3, 1) := by decide +kernel
theorem d_P_see_91 : decode zm_P_see.2.2.1 91 = .ok (.iload 4, 2) := by decide +kernel
theorem d_P_see_93 : decode zm_P_see.2.2.1 93 = .ok (.invokevirtual 155, 3) := by decide +kernel
theorem d_P_see_96 : decode zm_P_see.2.2.1 96 = .ok (.iload 5, 2) := by decide +kernel
theorem d_P_see_98 : decode zm_P_see.2.2.1 98 = .ok (.ireturn, 1) := by decide +kernel
