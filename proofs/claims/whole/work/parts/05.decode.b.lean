theorem dX7_init_0 : decode cX7_init 0 = .ok (.aload_n 0, 1) := by decide +kernel
theorem dX7_init_1 : decode cX7_init 1 = .ok (.invokespecial 1, 3) := by decide +kernel
theorem dX7_init_4 : decode cX7_init 4 = .ok (.aload_n 0, 1) := by decide +kernel
theorem dX7_init_5 : decode cX7_init 5 = .ok (.bipush 100, 2) := by decide +kernel
theorem dX7_init_7 : decode cX7_init 7 = .ok (.newarray .char, 2) := by decide +kernel
theorem dX7_init_9 : decode cX7_init 9 = .ok (.putfield 7, 3) := by decide +kernel
theorem dX7_init_12 : decode cX7_init 12 = .ok (.aload_n 0, 1) := by decide +kernel
theorem dX7_init_13 : decode cX7_init 13 = .ok (.sipush 1400, 3) := by decide +kernel
theorem dX7_init_16 : decode cX7_init 16 = .ok (.newarray .char, 2) := by decide +kernel
theorem dX7_init_18 : decode cX7_init 18 = .ok (.putfield 13, 3) := by decide +kernel
theorem dX7_init_21 : decode cX7_init 21 = .ok (.aload_n 0, 1) := by decide +kernel
theorem dX7_init_22 : decode cX7_init 22 = .ok (.iconst (-1), 1) := by decide +kernel
theorem dX7_init_23 : decode cX7_init 23 = .ok (.putfield 16, 3) := by decide +kernel
theorem dX7_init_26 : decode cX7_init 26 = .ok (.aload_n 0, 1) := by decide +kernel
theorem dX7_init_27 : decode cX7_init 27 = .ok (.sipush 11500, 3) := by decide +kernel
theorem dX7_init_30 : decode cX7_init 30 = .ok (.newarray .long, 2) := by decide +kernel
theorem dX7_init_32 : decode cX7_init 32 = .ok (.putfield 20, 3) := by decide +kernel
theorem dX7_init_35 : decode cX7_init 35 = .ok (.aload_n 0, 1) := by decide +kernel
theorem dX7_init_36 : decode cX7_init 36 = .ok (.sipush 11500, 3) := by decide +kernel
theorem dX7_init_39 : decode cX7_init 39 = .ok (.newarray .long, 2) := by decide +kernel
theorem dX7_init_41 : decode cX7_init 41 = .ok (.putfield 24, 3) := by decide +kernel
theorem dX7_init_44 : decode cX7_init 44 = .ok (.iconst 0, 1) := by decide +kernel
theorem dX7_init_45 : decode cX7_init 45 = .ok (.istore_n 1, 1) := by decide +kernel
theorem dX7_init_46 : decode cX7_init 46 = .ok (.iload_n 1, 1) := by decide +kernel
theorem dX7_init_47 : decode cX7_init 47 = .ok (.sipush 11500, 3) := by decide +kernel
theorem dX7_init_50 : decode cX7_init 50 = .ok (.if_icmp .ge 16, 3) := by decide +kernel
theorem dX7_init_53 : decode cX7_init 53 = .ok (.aload_n 0, 1) := by decide +kernel
theorem dX7_init_54 : decode cX7_init 54 = .ok (.getfield 24, 3) := by decide +kernel
theorem dX7_init_57 : decode cX7_init 57 = .ok (.iload_n 1, 1) := by decide +kernel
theorem dX7_init_58 : decode cX7_init 58 = .ok (.lconst 1, 1) := by decide +kernel
theorem dX7_init_59 : decode cX7_init 59 = .ok (.lastore, 1) := by decide +kernel
theorem dX7_init_60 : decode cX7_init 60 = .ok (.iinc 1 1, 3) := by decide +kernel
theorem dX7_init_63 : decode cX7_init 63 = .ok (.goto (-17), 3) := by decide +kernel
theorem dX7_init_66 : decode cX7_init 66 = .ok (.return_, 1) := by decide +kernel
theorem dX7_thrown_0 : decode cX7_thrown 0 = .ok (.aload_n 0, 1) := by decide +kernel
theorem dX7_thrown_1 : decode cX7_thrown 1 = .ok (.getfield 27, 3) := by decide +kernel
theorem dX7_thrown_4 : decode cX7_thrown 4 = .ok (.ireturn, 1) := by decide +kernel
theorem dX7_refused_0 : decode cX7_refused 0 = .ok (.aload_n 0, 1) := by decide +kernel
theorem dX7_refused_1 : decode cX7_refused 1 = .ok (.iload_n 1, 1) := by decide +kernel
theorem dX7_refused_2 : decode cX7_refused 2 = .ok (.putfield 27, 3) := by decide +kernel
theorem dX7_refused_5 : decode cX7_refused 5 = .ok (.iload_n 1, 1) := by decide +kernel
theorem dX7_refused_6 : decode cX7_refused 6 = .ok (.ifCond .le 7, 3) := by decide +kernel
theorem dX7_refused_9 : decode cX7_refused 9 = .ok (.iconst 1, 1) := by decide +kernel
theorem dX7_refused_10 : decode cX7_refused 10 = .ok (.goto 4, 3) := by decide +kernel
theorem dX7_refused_13 : decode cX7_refused 13 = .ok (.iconst 0, 1) := by decide +kernel
theorem dX7_refused_14 : decode cX7_refused 14 = .ok (.ireturn, 1) := by decide +kernel
theorem dX7_isSlot_0 : decode cX7_isSlot 0 = .ok (.iload_n 0, 1) := by decide +kernel
theorem dX7_isSlot_1 : decode cX7_isSlot 1 = .ok (.ifCond .lt 13, 3) := by decide +kernel
theorem dX7_isSlot_4 : decode cX7_isSlot 4 = .ok (.iload_n 0, 1) := by decide +kernel
theorem dX7_isSlot_5 : decode cX7_isSlot 5 = .ok (.bipush 8, 2) := by decide +kernel
theorem dX7_isSlot_7 : decode cX7_isSlot 7 = .ok (.if_icmp .ge 7, 3) := by decide +kernel
theorem dX7_isSlot_10 : decode cX7_isSlot 10 = .ok (.iconst 1, 1) := by decide +kernel
theorem dX7_isSlot_11 : decode cX7_isSlot 11 = .ok (.goto 4, 3) := by decide +kernel
theorem dX7_isSlot_14 : decode cX7_isSlot 14 = .ok (.iconst 0, 1) := by decide +kernel
theorem dX7_isSlot_15 : decode cX7_isSlot 15 = .ok (.ireturn, 1) := by decide +kernel
theorem dX7_kindOf_0 : decode cX7_kindOf 0 = .ok (.iload_n 0, 1) := by decide +kernel
theorem dX7_kindOf_1 : decode cX7_kindOf 1 = .ok (.ifCond .ne 7, 3) := by decide +kernel
theorem dX7_kindOf_4 : decode cX7_kindOf 4 = .ok (.iconst 0, 1) := by decide +kernel
theorem dX7_kindOf_5 : decode cX7_kindOf 5 = .ok (.goto 34, 3) := by decide +kernel
theorem dX7_kindOf_8 : decode cX7_kindOf 8 = .ok (.iload_n 0, 1) := by decide +kernel
theorem dX7_kindOf_9 : decode cX7_kindOf 9 = .ok (.bipush 10, 2) := by decide +kernel
theorem dX7_kindOf_11 : decode cX7_kindOf 11 = .ok (.if_icmp .ge 7, 3) := by decide +kernel
theorem dX7_kindOf_14 : decode cX7_kindOf 14 = .ok (.iconst 1, 1) := by decide +kernel
theorem dX7_kindOf_15 : decode cX7_kindOf 15 = .ok (.goto 24, 3) := by decide +kernel
theorem dX7_kindOf_18 : decode cX7_kindOf 18 = .ok (.iload_n 0, 1) := by decide +kernel
theorem dX7_kindOf_19 : decode cX7_kindOf 19 = .ok (.bipush 28, 2) := by decide +kernel
theorem dX7_kindOf_21 : decode cX7_kindOf 21 = .ok (.if_icmp .ge 7, 3) := by decide +kernel
theorem dX7_kindOf_24 : decode cX7_kindOf 24 = .ok (.iconst 2, 1) := by decide +kernel
theorem dX7_kindOf_25 : decode cX7_kindOf 25 = .ok (.goto 14, 3) := by decide +kernel
theorem dX7_kindOf_28 : decode cX7_kindOf 28 = .ok (.iload_n 0, 1) := by decide +kernel
theorem dX7_kindOf_29 : decode cX7_kindOf 29 = .ok (.bipush 37, 2) := by decide +kernel
theorem dX7_kindOf_31 : decode cX7_kindOf 31 = .ok (.if_icmp .ge 7, 3) := by decide +kernel
theorem dX7_kindOf_34 : decode cX7_kindOf 34 = .ok (.iconst 3, 1) := by decide +kernel
theorem dX7_kindOf_35 : decode cX7_kindOf 35 = .ok (.goto 4, 3) := by decide +kernel
theorem dX7_kindOf_38 : decode cX7_kindOf 38 = .ok (.iconst 4, 1) := by decide +kernel
theorem dX7_kindOf_39 : decode cX7_kindOf 39 = .ok (.ireturn, 1) := by decide +kernel
theorem dX7_countOf_0 : decode cX7_countOf 0 = .ok (.iload_n 0, 1) := by decide +kernel
theorem dX7_countOf_1 : decode cX7_countOf 1 = .ok (.bipush 10, 2) := by decide +kernel
theorem dX7_countOf_3 : decode cX7_countOf 3 = .ok (.if_icmp .ge 7, 3) := by decide +kernel
theorem dX7_countOf_6 : decode cX7_countOf 6 = .ok (.iload_n 0, 1) := by decide +kernel
theorem dX7_countOf_7 : decode cX7_countOf 7 = .ok (.goto 46, 3) := by decide +kernel
theorem dX7_countOf_10 : decode cX7_countOf 10 = .ok (.iload_n 0, 1) := by decide +kernel
theorem dX7_countOf_11 : decode cX7_countOf 11 = .ok (.bipush 19, 2) := by decide +kernel
theorem dX7_countOf_13 : decode cX7_countOf 13 = .ok (.if_icmp .ge 10, 3) := by decide +kernel
theorem dX7_countOf_16 : decode cX7_countOf 16 = .ok (.iload_n 0, 1) := by decide +kernel
theorem dX7_countOf_17 : decode cX7_countOf 17 = .ok (.bipush 19, 2) := by decide +kernel
theorem dX7_countOf_19 : decode cX7_countOf 19 = .ok (.isub, 1) := by decide +kernel
theorem dX7_countOf_20 : decode cX7_countOf 20 = .ok (.goto 33, 3) := by decide +kernel
theorem dX7_countOf_23 : decode cX7_countOf 23 = .ok (.iload_n 0, 1) := by decide +kernel
theorem dX7_countOf_24 : decode cX7_countOf 24 = .ok (.bipush 28, 2) := by decide +kernel
theorem dX7_countOf_26 : decode cX7_countOf 26 = .ok (.if_icmp .ge 10, 3) := by decide +kernel
theorem dX7_countOf_29 : decode cX7_countOf 29 = .ok (.iload_n 0, 1) := by decide +kernel
theorem dX7_countOf_30 : decode cX7_countOf 30 = .ok (.bipush 18, 2) := by decide +kernel
theorem dX7_countOf_32 : decode cX7_countOf 32 = .ok (.isub, 1) := by decide +kernel
theorem dX7_countOf_33 : decode cX7_countOf 33 = .ok (.goto 20, 3) := by decide +kernel
theorem dX7_countOf_36 : decode cX7_countOf 36 = .ok (.iload_n 0, 1) := by decide +kernel
theorem dX7_countOf_37 : decode cX7_countOf 37 = .ok (.bipush 37, 2) := by decide +kernel
theorem dX7_countOf_39 : decode cX7_countOf 39 = .ok (.if_icmp .ge 10, 3) := by decide +kernel
theorem dX7_countOf_42 : decode cX7_countOf 42 = .ok (.iload_n 0, 1) := by decide +kernel
theorem dX7_countOf_43 : decode cX7_countOf 43 = .ok (.bipush 27, 2) := by decide +kernel
theorem dX7_countOf_45 : decode cX7_countOf 45 = .ok (.isub, 1) := by decide +kernel
theorem dX7_countOf_46 : decode cX7_countOf 46 = .ok (.goto 7, 3) := by decide +kernel
theorem dX7_countOf_49 : decode cX7_countOf 49 = .ok (.iload_n 0, 1) := by decide +kernel
theorem dX7_countOf_50 : decode cX7_countOf 50 = .ok (.bipush 36, 2) := by decide +kernel
theorem dX7_countOf_52 : decode cX7_countOf 52 = .ok (.isub, 1) := by decide +kernel
theorem dX7_countOf_53 : decode cX7_countOf 53 = .ok (.ireturn, 1) := by decide +kernel
theorem dX7_functionOf_0 : decode cX7_functionOf 0 = .ok (.iload_n 0, 1) := by decide +kernel
theorem dX7_functionOf_1 : decode cX7_functionOf 1 = .ok (.ifCond .ne 7, 3) := by decide +kernel
theorem dX7_functionOf_4 : decode cX7_functionOf 4 = .ok (.iconst 0, 1) := by decide +kernel
theorem dX7_functionOf_5 : decode cX7_functionOf 5 = .ok (.goto 51, 3) := by decide +kernel
theorem dX7_functionOf_8 : decode cX7_functionOf 8 = .ok (.iload_n 0, 1) := by decide +kernel
theorem dX7_functionOf_9 : decode cX7_functionOf 9 = .ok (.iconst 1, 1) := by decide +kernel
theorem dX7_functionOf_10 : decode cX7_functionOf 10 = .ok (.if_icmp .ne 7, 3) := by decide +kernel
theorem dX7_functionOf_13 : decode cX7_functionOf 13 = .ok (.iload_n 1, 1) := by decide +kernel
theorem dX7_functionOf_14 : decode cX7_functionOf 14 = .ok (.goto 42, 3) := by decide +kernel
theorem dX7_functionOf_17 : decode cX7_functionOf 17 = .ok (.iload_n 0, 1) := by decide +kernel
theorem dX7_functionOf_18 : decode cX7_functionOf 18 = .ok (.iconst 2, 1) := by decide +kernel
theorem dX7_functionOf_19 : decode cX7_functionOf 19 = .ok (.if_icmp .ne 21, 3) := by decide +kernel
theorem dX7_functionOf_22 : decode cX7_functionOf 22 = .ok (.iload_n 1, 1) := by decide +kernel
theorem dX7_functionOf_23 : decode cX7_functionOf 23 = .ok (.ifCond .ge 10, 3) := by decide +kernel
theorem dX7_functionOf_26 : decode cX7_functionOf 26 = .ok (.iload_n 1, 1) := by decide +kernel
theorem dX7_functionOf_27 : decode cX7_functionOf 27 = .ok (.bipush 19, 2) := by decide +kernel
theorem dX7_functionOf_29 : decode cX7_functionOf 29 = .ok (.iadd, 1) := by decide +kernel
theorem dX7_functionOf_30 : decode cX7_functionOf 30 = .ok (.goto 26, 3) := by decide +kernel
theorem dX7_functionOf_33 : decode cX7_functionOf 33 = .ok (.iload_n 1, 1) := by decide +kernel
theorem dX7_functionOf_34 : decode cX7_functionOf 34 = .ok (.bipush 18, 2) := by decide +kernel
theorem dX7_functionOf_36 : decode cX7_functionOf 36 = .ok (.iadd, 1) := by decide +kernel
theorem dX7_functionOf_37 : decode cX7_functionOf 37 = .ok (.goto 19, 3) := by decide +kernel
theorem dX7_functionOf_40 : decode cX7_functionOf 40 = .ok (.iload_n 0, 1) := by decide +kernel
theorem dX7_functionOf_41 : decode cX7_functionOf 41 = .ok (.iconst 3, 1) := by decide +kernel
theorem dX7_functionOf_42 : decode cX7_functionOf 42 = .ok (.if_icmp .ne 10, 3) := by decide +kernel
theorem dX7_functionOf_45 : decode cX7_functionOf 45 = .ok (.iload_n 1, 1) := by decide +kernel
theorem dX7_functionOf_46 : decode cX7_functionOf 46 = .ok (.bipush 27, 2) := by decide +kernel
theorem dX7_functionOf_48 : decode cX7_functionOf 48 = .ok (.iadd, 1) := by decide +kernel
theorem dX7_functionOf_49 : decode cX7_functionOf 49 = .ok (.goto 7, 3) := by decide +kernel
theorem dX7_functionOf_52 : decode cX7_functionOf 52 = .ok (.iload_n 1, 1) := by decide +kernel
theorem dX7_functionOf_53 : decode cX7_functionOf 53 = .ok (.bipush 36, 2) := by decide +kernel
theorem dX7_functionOf_55 : decode cX7_functionOf 55 = .ok (.iadd, 1) := by decide +kernel
theorem dX7_functionOf_56 : decode cX7_functionOf 56 = .ok (.ireturn, 1) := by decide +kernel
theorem dX7_gcd_0 : decode cX7_gcd 0 = .ok (.lload_n 0, 1) := by decide +kernel
theorem dX7_gcd_1 : decode cX7_gcd 1 = .ok (.lconst 0, 1) := by decide +kernel
theorem dX7_gcd_2 : decode cX7_gcd 2 = .ok (.lcmp, 1) := by decide +kernel
theorem dX7_gcd_3 : decode cX7_gcd 3 = .ok (.ifCond .ge 8, 3) := by decide +kernel
theorem dX7_gcd_6 : decode cX7_gcd 6 = .ok (.lload_n 0, 1) := by decide +kernel
theorem dX7_gcd_7 : decode cX7_gcd 7 = .ok (.lneg, 1) := by decide +kernel
theorem dX7_gcd_8 : decode cX7_gcd 8 = .ok (.goto 4, 3) := by decide +kernel
theorem dX7_gcd_11 : decode cX7_gcd 11 = .ok (.lload_n 0, 1) := by decide +kernel
theorem dX7_gcd_12 : decode cX7_gcd 12 = .ok (.lstore 4, 2) := by decide +kernel
theorem dX7_gcd_14 : decode cX7_gcd 14 = .ok (.lload_n 2, 1) := by decide +kernel
theorem dX7_gcd_15 : decode cX7_gcd 15 = .ok (.lconst 0, 1) := by decide +kernel
theorem dX7_gcd_16 : decode cX7_gcd 16 = .ok (.lcmp, 1) := by decide +kernel
theorem dX7_gcd_17 : decode cX7_gcd 17 = .ok (.ifCond .ge 8, 3) := by decide +kernel
theorem dX7_gcd_20 : decode cX7_gcd 20 = .ok (.lload_n 2, 1) := by decide +kernel
theorem dX7_gcd_21 : decode cX7_gcd 21 = .ok (.lneg, 1) := by decide +kernel
theorem dX7_gcd_22 : decode cX7_gcd 22 = .ok (.goto 4, 3) := by decide +kernel
theorem dX7_gcd_25 : decode cX7_gcd 25 = .ok (.lload_n 2, 1) := by decide +kernel
theorem dX7_gcd_26 : decode cX7_gcd 26 = .ok (.lstore 6, 2) := by decide +kernel
theorem dX7_gcd_28 : decode cX7_gcd 28 = .ok (.lload 6, 2) := by decide +kernel
theorem dX7_gcd_30 : decode cX7_gcd 30 = .ok (.lconst 0, 1) := by decide +kernel
theorem dX7_gcd_31 : decode cX7_gcd 31 = .ok (.lcmp, 1) := by decide +kernel
theorem dX7_gcd_32 : decode cX7_gcd 32 = .ok (.ifCond .eq 21, 3) := by decide +kernel
theorem dX7_gcd_35 : decode cX7_gcd 35 = .ok (.lload 4, 2) := by decide +kernel
theorem dX7_gcd_37 : decode cX7_gcd 37 = .ok (.lload 6, 2) := by decide +kernel
theorem dX7_gcd_39 : decode cX7_gcd 39 = .ok (.lrem, 1) := by decide +kernel
theorem dX7_gcd_40 : decode cX7_gcd 40 = .ok (.lstore 8, 2) := by decide +kernel
theorem dX7_gcd_42 : decode cX7_gcd 42 = .ok (.lload 6, 2) := by decide +kernel
theorem dX7_gcd_44 : decode cX7_gcd 44 = .ok (.lstore 4, 2) := by decide +kernel
theorem dX7_gcd_46 : decode cX7_gcd 46 = .ok (.lload 8, 2) := by decide +kernel
theorem dX7_gcd_48 : decode cX7_gcd 48 = .ok (.lstore 6, 2) := by decide +kernel
theorem dX7_gcd_50 : decode cX7_gcd 50 = .ok (.goto (-22), 3) := by decide +kernel
theorem dX7_gcd_53 : decode cX7_gcd 53 = .ok (.lload 4, 2) := by decide +kernel
theorem dX7_gcd_55 : decode cX7_gcd 55 = .ok (.lreturn, 1) := by decide +kernel
theorem dX7_empty_0 : decode cX7_empty 0 = .ok (.sipush 1150, 3) := by decide +kernel
theorem dX7_empty_3 : decode cX7_empty 3 = .ok (.iload_n 1, 1) := by decide +kernel
theorem dX7_empty_4 : decode cX7_empty 4 = .ok (.imul, 1) := by decide +kernel
theorem dX7_empty_5 : decode cX7_empty 5 = .ok (.istore_n 2, 1) := by decide +kernel
theorem dX7_empty_6 : decode cX7_empty 6 = .ok (.iload_n 2, 1) := by decide +kernel
theorem dX7_empty_7 : decode cX7_empty 7 = .ok (.sipush 1150, 3) := by decide +kernel
theorem dX7_empty_10 : decode cX7_empty 10 = .ok (.iload_n 1, 1) := by decide +kernel
theorem dX7_empty_11 : decode cX7_empty 11 = .ok (.imul, 1) := by decide +kernel
theorem dX7_empty_12 : decode cX7_empty 12 = .ok (.sipush 1150, 3) := by decide +kernel
theorem dX7_empty_15 : decode cX7_empty 15 = .ok (.iadd, 1) := by decide +kernel
theorem dX7_empty_16 : decode cX7_empty 16 = .ok (.if_icmp .ge 23, 3) := by decide +kernel
theorem dX7_empty_19 : decode cX7_empty 19 = .ok (.aload_n 0, 1) := by decide +kernel
theorem dX7_empty_20 : decode cX7_empty 20 = .ok (.getfield 20, 3) := by decide +kernel
theorem dX7_empty_23 : decode cX7_empty 23 = .ok (.iload_n 2, 1) := by decide +kernel
theorem dX7_empty_24 : decode cX7_empty 24 = .ok (.lconst 0, 1) := by decide +kernel
theorem dX7_empty_25 : decode cX7_empty 25 = .ok (.lastore, 1) := by decide +kernel
theorem dX7_empty_26 : decode cX7_empty 26 = .ok (.aload_n 0, 1) := by decide +kernel
theorem dX7_empty_27 : decode cX7_empty 27 = .ok (.getfield 24, 3) := by decide +kernel
theorem dX7_empty_30 : decode cX7_empty 30 = .ok (.iload_n 2, 1) := by decide +kernel
theorem dX7_empty_31 : decode cX7_empty 31 = .ok (.lconst 1, 1) := by decide +kernel
theorem dX7_empty_32 : decode cX7_empty 32 = .ok (.lastore, 1) := by decide +kernel
theorem dX7_empty_33 : decode cX7_empty 33 = .ok (.iinc 2 1, 3) := by decide +kernel
theorem dX7_empty_36 : decode cX7_empty 36 = .ok (.goto (-30), 3) := by decide +kernel
theorem dX7_empty_39 : decode cX7_empty 39 = .ok (.return_, 1) := by decide +kernel
theorem dX7_addTerm_0 : decode cX7_addTerm 0 = .ok (.lload 5, 2) := by decide +kernel
theorem dX7_addTerm_2 : decode cX7_addTerm 2 = .ok (.lstore 9, 2) := by decide +kernel
theorem dX7_addTerm_4 : decode cX7_addTerm 4 = .ok (.iload_n 2, 1) := by decide +kernel
theorem dX7_addTerm_5 : decode cX7_addTerm 5 = .ok (.istore 11, 2) := by decide +kernel
theorem dX7_addTerm_7 : decode cX7_addTerm 7 = .ok (.iload_n 3, 1) := by decide +kernel
theorem dX7_addTerm_8 : decode cX7_addTerm 8 = .ok (.istore 12, 2) := by decide +kernel
theorem dX7_addTerm_10 : decode cX7_addTerm 10 = .ok (.iload_n 2, 1) := by decide +kernel
theorem dX7_addTerm_11 : decode cX7_addTerm 11 = .ok (.iconst 3, 1) := by decide +kernel
theorem dX7_addTerm_12 : decode cX7_addTerm 12 = .ok (.if_icmp .ne 12, 3) := by decide +kernel
theorem dX7_addTerm_15 : decode cX7_addTerm 15 = .ok (.iload_n 3, 1) := by decide +kernel
theorem dX7_addTerm_16 : decode cX7_addTerm 16 = .ok (.ifCond .ge 8, 3) := by decide +kernel
theorem dX7_addTerm_19 : decode cX7_addTerm 19 = .ok (.lload 9, 2) := by decide +kernel
theorem dX7_addTerm_21 : decode cX7_addTerm 21 = .ok (.lneg, 1) := by decide +kernel
theorem dX7_addTerm_22 : decode cX7_addTerm 22 = .ok (.lstore 9, 2) := by decide +kernel
theorem dX7_addTerm_24 : decode cX7_addTerm 24 = .ok (.iload_n 2, 1) := by decide +kernel
theorem dX7_addTerm_25 : decode cX7_addTerm 25 = .ok (.iconst 2, 1) := by decide +kernel
theorem dX7_addTerm_26 : decode cX7_addTerm 26 = .ok (.if_icmp .le 11, 3) := by decide +kernel
theorem dX7_addTerm_29 : decode cX7_addTerm 29 = .ok (.iload_n 3, 1) := by decide +kernel
theorem dX7_addTerm_30 : decode cX7_addTerm 30 = .ok (.ifCond .ge 7, 3) := by decide +kernel
theorem dX7_addTerm_33 : decode cX7_addTerm 33 = .ok (.iload_n 3, 1) := by decide +kernel
theorem dX7_addTerm_34 : decode cX7_addTerm 34 = .ok (.ineg, 1) := by decide +kernel
theorem dX7_addTerm_35 : decode cX7_addTerm 35 = .ok (.istore 12, 2) := by decide +kernel
theorem dX7_addTerm_37 : decode cX7_addTerm 37 = .ok (.iload_n 2, 1) := by decide +kernel
theorem dX7_addTerm_38 : decode cX7_addTerm 38 = .ok (.ifCond .le 26, 3) := by decide +kernel
theorem dX7_addTerm_41 : decode cX7_addTerm 41 = .ok (.iload_n 3, 1) := by decide +kernel
theorem dX7_addTerm_42 : decode cX7_addTerm 42 = .ok (.ifCond .ne 22, 3) := by decide +kernel
theorem dX7_addTerm_45 : decode cX7_addTerm 45 = .ok (.iload_n 2, 1) := by decide +kernel
theorem dX7_addTerm_46 : decode cX7_addTerm 46 = .ok (.iconst 3, 1) := by decide +kernel
theorem dX7_addTerm_47 : decode cX7_addTerm 47 = .ok (.if_icmp .ne 7, 3) := by decide +kernel
theorem dX7_addTerm_50 : decode cX7_addTerm 50 = .ok (.lconst 0, 1) := by decide +kernel
theorem dX7_addTerm_51 : decode cX7_addTerm 51 = .ok (.goto 5, 3) := by decide +kernel
theorem dX7_addTerm_54 : decode cX7_addTerm 54 = .ok (.lload 9, 2) := by decide +kernel
theorem dX7_addTerm_56 : decode cX7_addTerm 56 = .ok (.lstore 9, 2) := by decide +kernel
theorem dX7_addTerm_58 : decode cX7_addTerm 58 = .ok (.iconst 0, 1) := by decide +kernel
theorem dX7_addTerm_59 : decode cX7_addTerm 59 = .ok (.istore 11, 2) := by decide +kernel
theorem dX7_addTerm_61 : decode cX7_addTerm 61 = .ok (.iconst 0, 1) := by decide +kernel
theorem dX7_addTerm_62 : decode cX7_addTerm 62 = .ok (.istore 12, 2) := by decide +kernel
theorem dX7_addTerm_64 : decode cX7_addTerm 64 = .ok (.lload 9, 2) := by decide +kernel
theorem dX7_addTerm_66 : decode cX7_addTerm 66 = .ok (.lconst 0, 1) := by decide +kernel
theorem dX7_addTerm_67 : decode cX7_addTerm 67 = .ok (.lcmp, 1) := by decide +kernel
theorem dX7_addTerm_68 : decode cX7_addTerm 68 = .ok (.ifCond .ne 4, 3) := by decide +kernel
theorem dX7_addTerm_71 : decode cX7_addTerm 71 = .ok (.return_, 1) := by decide +kernel
theorem dX7_addTerm_72 : decode cX7_addTerm 72 = .ok (.iload 4, 2) := by decide +kernel
theorem dX7_addTerm_74 : decode cX7_addTerm 74 = .ok (.bipush (-12), 2) := by decide +kernel
theorem dX7_addTerm_76 : decode cX7_addTerm 76 = .ok (.if_icmp .lt 43, 3) := by decide +kernel
theorem dX7_addTerm_79 : decode cX7_addTerm 79 = .ok (.iload 4, 2) := by decide +kernel
theorem dX7_addTerm_81 : decode cX7_addTerm 81 = .ok (.bipush 12, 2) := by decide +kernel
theorem dX7_addTerm_83 : decode cX7_addTerm 83 = .ok (.if_icmp .gt 36, 3) := by decide +kernel
theorem dX7_addTerm_86 : decode cX7_addTerm 86 = .ok (.iload 11, 2) := by decide +kernel
theorem dX7_addTerm_88 : decode cX7_addTerm 88 = .ok (.iconst 1, 1) := by decide +kernel
theorem dX7_addTerm_89 : decode cX7_addTerm 89 = .ok (.if_icmp .ne 10, 3) := by decide +kernel
theorem dX7_addTerm_92 : decode cX7_addTerm 92 = .ok (.iload 12, 2) := by decide +kernel
theorem dX7_addTerm_94 : decode cX7_addTerm 94 = .ok (.bipush 9, 2) := by decide +kernel
theorem dX7_addTerm_96 : decode cX7_addTerm 96 = .ok (.if_icmp .gt 23, 3) := by decide +kernel
theorem dX7_addTerm_99 : decode cX7_addTerm 99 = .ok (.iload 11, 2) := by decide +kernel
theorem dX7_addTerm_101 : decode cX7_addTerm 101 = .ok (.iconst 1, 1) := by decide +kernel
theorem dX7_addTerm_102 : decode cX7_addTerm 102 = .ok (.if_icmp .le 23, 3) := by decide +kernel
theorem dX7_addTerm_105 : decode cX7_addTerm 105 = .ok (.iload 12, 2) := by decide +kernel
theorem dX7_addTerm_107 : decode cX7_addTerm 107 = .ok (.bipush 9, 2) := by decide +kernel
theorem dX7_addTerm_109 : decode cX7_addTerm 109 = .ok (.if_icmp .gt 10, 3) := by decide +kernel
theorem dX7_addTerm_112 : decode cX7_addTerm 112 = .ok (.iload 12, 2) := by decide +kernel
theorem dX7_addTerm_114 : decode cX7_addTerm 114 = .ok (.bipush (-9), 2) := by decide +kernel
theorem dX7_addTerm_116 : decode cX7_addTerm 116 = .ok (.if_icmp .ge 9, 3) := by decide +kernel
theorem dX7_addTerm_119 : decode cX7_addTerm 119 = .ok (.aload_n 0, 1) := by decide +kernel
theorem dX7_addTerm_120 : decode cX7_addTerm 120 = .ok (.iconst 1, 1) := by decide +kernel
theorem dX7_addTerm_121 : decode cX7_addTerm 121 = .ok (.putfield 30, 3) := by decide +kernel
theorem dX7_addTerm_124 : decode cX7_addTerm 124 = .ok (.return_, 1) := by decide +kernel
theorem dX7_addTerm_125 : decode cX7_addTerm 125 = .ok (.sipush 1150, 3) := by decide +kernel
theorem dX7_addTerm_128 : decode cX7_addTerm 128 = .ok (.iload_n 1, 1) := by decide +kernel
theorem dX7_addTerm_129 : decode cX7_addTerm 129 = .ok (.imul, 1) := by decide +kernel
theorem dX7_addTerm_130 : decode cX7_addTerm 130 = .ok (.bipush 25, 2) := by decide +kernel
theorem dX7_addTerm_132 : decode cX7_addTerm 132 = .ok (.iload 11, 2) := by decide +kernel
theorem dX7_addTerm_134 : decode cX7_addTerm 134 = .ok (.iload 12, 2) := by decide +kernel
theorem dX7_addTerm_136 : decode cX7_addTerm 136 = .ok (.invokestatic 34, 3) := by decide +kernel
theorem dX7_addTerm_139 : decode cX7_addTerm 139 = .ok (.imul, 1) := by decide +kernel
theorem dX7_addTerm_140 : decode cX7_addTerm 140 = .ok (.iadd, 1) := by decide +kernel
theorem dX7_addTerm_141 : decode cX7_addTerm 141 = .ok (.iload 4, 2) := by decide +kernel
theorem dX7_addTerm_143 : decode cX7_addTerm 143 = .ok (.iadd, 1) := by decide +kernel
theorem dX7_addTerm_144 : decode cX7_addTerm 144 = .ok (.bipush 12, 2) := by decide +kernel
theorem dX7_addTerm_146 : decode cX7_addTerm 146 = .ok (.iadd, 1) := by decide +kernel
theorem dX7_addTerm_147 : decode cX7_addTerm 147 = .ok (.istore 13, 2) := by decide +kernel
theorem dX7_addTerm_149 : decode cX7_addTerm 149 = .ok (.aload_n 0, 1) := by decide +kernel
theorem dX7_addTerm_150 : decode cX7_addTerm 150 = .ok (.getfield 20, 3) := by decide +kernel
theorem dX7_addTerm_153 : decode cX7_addTerm 153 = .ok (.iload 13, 2) := by decide +kernel
theorem dX7_addTerm_155 : decode cX7_addTerm 155 = .ok (.laload, 1) := by decide +kernel
theorem dX7_addTerm_156 : decode cX7_addTerm 156 = .ok (.lload 7, 2) := by decide +kernel
theorem dX7_addTerm_158 : decode cX7_addTerm 158 = .ok (.lmul, 1) := by decide +kernel
theorem dX7_addTerm_159 : decode cX7_addTerm 159 = .ok (.lload 9, 2) := by decide +kernel
theorem dX7_addTerm_161 : decode cX7_addTerm 161 = .ok (.aload_n 0, 1) := by decide +kernel
theorem dX7_addTerm_162 : decode cX7_addTerm 162 = .ok (.getfield 24, 3) := by decide +kernel
theorem dX7_addTerm_165 : decode cX7_addTerm 165 = .ok (.iload 13, 2) := by decide +kernel
theorem dX7_addTerm_167 : decode cX7_addTerm 167 = .ok (.laload, 1) := by decide +kernel
theorem dX7_addTerm_168 : decode cX7_addTerm 168 = .ok (.lmul, 1) := by decide +kernel
theorem dX7_addTerm_169 : decode cX7_addTerm 169 = .ok (.ladd, 1) := by decide +kernel
theorem dX7_addTerm_170 : decode cX7_addTerm 170 = .ok (.lstore 14, 2) := by decide +kernel
theorem dX7_addTerm_172 : decode cX7_addTerm 172 = .ok (.aload_n 0, 1) := by decide +kernel
theorem dX7_addTerm_173 : decode cX7_addTerm 173 = .ok (.getfield 24, 3) := by decide +kernel
theorem dX7_addTerm_176 : decode cX7_addTerm 176 = .ok (.iload 13, 2) := by decide +kernel
theorem dX7_addTerm_178 : decode cX7_addTerm 178 = .ok (.laload, 1) := by decide +kernel
theorem dX7_addTerm_179 : decode cX7_addTerm 179 = .ok (.lload 7, 2) := by decide +kernel
theorem dX7_addTerm_181 : decode cX7_addTerm 181 = .ok (.lmul, 1) := by decide +kernel
theorem dX7_addTerm_182 : decode cX7_addTerm 182 = .ok (.lstore 16, 2) := by decide +kernel
theorem dX7_addTerm_184 : decode cX7_addTerm 184 = .ok (.lload 14, 2) := by decide +kernel
theorem dX7_addTerm_186 : decode cX7_addTerm 186 = .ok (.lload 16, 2) := by decide +kernel
theorem dX7_addTerm_188 : decode cX7_addTerm 188 = .ok (.invokestatic 38, 3) := by decide +kernel
theorem dX7_addTerm_191 : decode cX7_addTerm 191 = .ok (.lstore 18, 2) := by decide +kernel
theorem dX7_addTerm_193 : decode cX7_addTerm 193 = .ok (.aload_n 0, 1) := by decide +kernel
theorem dX7_addTerm_194 : decode cX7_addTerm 194 = .ok (.getfield 20, 3) := by decide +kernel
theorem dX7_addTerm_197 : decode cX7_addTerm 197 = .ok (.iload 13, 2) := by decide +kernel
theorem dX7_addTerm_199 : decode cX7_addTerm 199 = .ok (.lload 14, 2) := by decide +kernel
theorem dX7_addTerm_201 : decode cX7_addTerm 201 = .ok (.lload 18, 2) := by decide +kernel
theorem dX7_addTerm_203 : decode cX7_addTerm 203 = .ok (.ldiv, 1) := by decide +kernel
theorem dX7_addTerm_204 : decode cX7_addTerm 204 = .ok (.lastore, 1) := by decide +kernel
theorem dX7_addTerm_205 : decode cX7_addTerm 205 = .ok (.aload_n 0, 1) := by decide +kernel
theorem dX7_addTerm_206 : decode cX7_addTerm 206 = .ok (.getfield 24, 3) := by decide +kernel
theorem dX7_addTerm_209 : decode cX7_addTerm 209 = .ok (.iload 13, 2) := by decide +kernel
theorem dX7_addTerm_211 : decode cX7_addTerm 211 = .ok (.lload 16, 2) := by decide +kernel
theorem dX7_addTerm_213 : decode cX7_addTerm 213 = .ok (.lload 18, 2) := by decide +kernel
theorem dX7_addTerm_215 : decode cX7_addTerm 215 = .ok (.ldiv, 1) := by decide +kernel
theorem dX7_addTerm_216 : decode cX7_addTerm 216 = .ok (.lastore, 1) := by decide +kernel
theorem dX7_addTerm_217 : decode cX7_addTerm 217 = .ok (.return_, 1) := by decide +kernel
theorem dX7_isOut_0 : decode cX7_isOut 0 = .ok (.aload_n 0, 1) := by decide +kernel
theorem dX7_isOut_1 : decode cX7_isOut 1 = .ok (.getfield 20, 3) := by decide +kernel
theorem dX7_isOut_4 : decode cX7_isOut 4 = .ok (.iload_n 1, 1) := by decide +kernel
theorem dX7_isOut_5 : decode cX7_isOut 5 = .ok (.laload, 1) := by decide +kernel
theorem dX7_isOut_6 : decode cX7_isOut 6 = .ok (.ldc2_w 42, 3) := by decide +kernel
theorem dX7_isOut_9 : decode cX7_isOut 9 = .ok (.lcmp, 1) := by decide +kernel
theorem dX7_isOut_10 : decode cX7_isOut 10 = .ok (.ifCond .gt 29, 3) := by decide +kernel
theorem dX7_isOut_13 : decode cX7_isOut 13 = .ok (.aload_n 0, 1) := by decide +kernel
theorem dX7_isOut_14 : decode cX7_isOut 14 = .ok (.getfield 20, 3) := by decide +kernel
theorem dX7_isOut_17 : decode cX7_isOut 17 = .ok (.iload_n 1, 1) := by decide +kernel
theorem dX7_isOut_18 : decode cX7_isOut 18 = .ok (.laload, 1) := by decide +kernel
theorem dX7_isOut_19 : decode cX7_isOut 19 = .ok (.ldc2_w 44, 3) := by decide +kernel
theorem dX7_isOut_22 : decode cX7_isOut 22 = .ok (.lcmp, 1) := by decide +kernel
theorem dX7_isOut_23 : decode cX7_isOut 23 = .ok (.ifCond .lt 16, 3) := by decide +kernel
theorem dX7_isOut_26 : decode cX7_isOut 26 = .ok (.aload_n 0, 1) := by decide +kernel
theorem dX7_isOut_27 : decode cX7_isOut 27 = .ok (.getfield 24, 3) := by decide +kernel
theorem dX7_isOut_30 : decode cX7_isOut 30 = .ok (.iload_n 1, 1) := by decide +kernel
theorem dX7_isOut_31 : decode cX7_isOut 31 = .ok (.laload, 1) := by decide +kernel
theorem dX7_isOut_32 : decode cX7_isOut 32 = .ok (.ldc2_w 46, 3) := by decide +kernel
theorem dX7_isOut_35 : decode cX7_isOut 35 = .ok (.lcmp, 1) := by decide +kernel
theorem dX7_isOut_36 : decode cX7_isOut 36 = .ok (.ifCond .le 7, 3) := by decide +kernel
theorem dX7_isOut_39 : decode cX7_isOut 39 = .ok (.iconst 1, 1) := by decide +kernel
theorem dX7_isOut_40 : decode cX7_isOut 40 = .ok (.goto 4, 3) := by decide +kernel
theorem dX7_isOut_43 : decode cX7_isOut 43 = .ok (.iconst 0, 1) := by decide +kernel
theorem dX7_isOut_44 : decode cX7_isOut 44 = .ok (.ireturn, 1) := by decide +kernel
theorem dX7_termsOf_0 : decode cX7_termsOf 0 = .ok (.iconst 0, 1) := by decide +kernel
theorem dX7_termsOf_1 : decode cX7_termsOf 1 = .ok (.istore_n 2, 1) := by decide +kernel
theorem dX7_termsOf_2 : decode cX7_termsOf 2 = .ok (.sipush 1150, 3) := by decide +kernel
theorem dX7_termsOf_5 : decode cX7_termsOf 5 = .ok (.iload_n 1, 1) := by decide +kernel
theorem dX7_termsOf_6 : decode cX7_termsOf 6 = .ok (.imul, 1) := by decide +kernel
theorem dX7_termsOf_7 : decode cX7_termsOf 7 = .ok (.istore_n 3, 1) := by decide +kernel
theorem dX7_termsOf_8 : decode cX7_termsOf 8 = .ok (.iload_n 3, 1) := by decide +kernel
theorem dX7_termsOf_9 : decode cX7_termsOf 9 = .ok (.sipush 1150, 3) := by decide +kernel
theorem dX7_termsOf_12 : decode cX7_termsOf 12 = .ok (.iload_n 1, 1) := by decide +kernel
theorem dX7_termsOf_13 : decode cX7_termsOf 13 = .ok (.imul, 1) := by decide +kernel
theorem dX7_termsOf_14 : decode cX7_termsOf 14 = .ok (.sipush 1150, 3) := by decide +kernel
theorem dX7_termsOf_17 : decode cX7_termsOf 17 = .ok (.iadd, 1) := by decide +kernel
theorem dX7_termsOf_18 : decode cX7_termsOf 18 = .ok (.if_icmp .ge 28, 3) := by decide +kernel
theorem dX7_termsOf_21 : decode cX7_termsOf 21 = .ok (.aload_n 0, 1) := by decide +kernel
theorem dX7_termsOf_22 : decode cX7_termsOf 22 = .ok (.getfield 20, 3) := by decide +kernel
theorem dX7_termsOf_25 : decode cX7_termsOf 25 = .ok (.iload_n 3, 1) := by decide +kernel
theorem dX7_termsOf_26 : decode cX7_termsOf 26 = .ok (.laload, 1) := by decide +kernel
theorem dX7_termsOf_27 : decode cX7_termsOf 27 = .ok (.lconst 0, 1) := by decide +kernel
theorem dX7_termsOf_28 : decode cX7_termsOf 28 = .ok (.lcmp, 1) := by decide +kernel
theorem dX7_termsOf_29 : decode cX7_termsOf 29 = .ok (.ifCond .eq 9, 3) := by decide +kernel
theorem dX7_termsOf_32 : decode cX7_termsOf 32 = .ok (.iload_n 2, 1) := by decide +kernel
theorem dX7_termsOf_33 : decode cX7_termsOf 33 = .ok (.iconst 1, 1) := by decide +kernel
theorem dX7_termsOf_34 : decode cX7_termsOf 34 = .ok (.iadd, 1) := by decide +kernel
theorem dX7_termsOf_35 : decode cX7_termsOf 35 = .ok (.goto 4, 3) := by decide +kernel
theorem dX7_termsOf_38 : decode cX7_termsOf 38 = .ok (.iload_n 2, 1) := by decide +kernel
theorem dX7_termsOf_39 : decode cX7_termsOf 39 = .ok (.istore_n 2, 1) := by decide +kernel
theorem dX7_termsOf_40 : decode cX7_termsOf 40 = .ok (.iinc 3 1, 3) := by decide +kernel
theorem dX7_termsOf_43 : decode cX7_termsOf 43 = .ok (.goto (-35), 3) := by decide +kernel
theorem dX7_termsOf_46 : decode cX7_termsOf 46 = .ok (.iload_n 2, 1) := by decide +kernel
theorem dX7_termsOf_47 : decode cX7_termsOf 47 = .ok (.ireturn, 1) := by decide +kernel
theorem dX7_fits_0 : decode cX7_fits 0 = .ok (.aload_n 0, 1) := by decide +kernel
theorem dX7_fits_1 : decode cX7_fits 1 = .ok (.getfield 30, 3) := by decide +kernel
theorem dX7_fits_4 : decode cX7_fits 4 = .ok (.ifCond .ne 17, 3) := by decide +kernel
theorem dX7_fits_7 : decode cX7_fits 7 = .ok (.aload_n 0, 1) := by decide +kernel
theorem dX7_fits_8 : decode cX7_fits 8 = .ok (.iload_n 1, 1) := by decide +kernel
theorem dX7_fits_9 : decode cX7_fits 9 = .ok (.invokevirtual 48, 3) := by decide +kernel
theorem dX7_fits_12 : decode cX7_fits 12 = .ok (.bipush 40, 2) := by decide +kernel
theorem dX7_fits_14 : decode cX7_fits 14 = .ok (.if_icmp .gt 7, 3) := by decide +kernel
theorem dX7_fits_17 : decode cX7_fits 17 = .ok (.iconst 1, 1) := by decide +kernel
theorem dX7_fits_18 : decode cX7_fits 18 = .ok (.goto 4, 3) := by decide +kernel
theorem dX7_fits_21 : decode cX7_fits 21 = .ok (.iconst 0, 1) := by decide +kernel
theorem dX7_fits_22 : decode cX7_fits 22 = .ok (.istore_n 2, 1) := by decide +kernel
theorem dX7_fits_23 : decode cX7_fits 23 = .ok (.sipush 1150, 3) := by decide +kernel
theorem dX7_fits_26 : decode cX7_fits 26 = .ok (.iload_n 1, 1) := by decide +kernel
theorem dX7_fits_27 : decode cX7_fits 27 = .ok (.imul, 1) := by decide +kernel
theorem dX7_fits_28 : decode cX7_fits 28 = .ok (.istore_n 3, 1) := by decide +kernel
theorem dX7_fits_29 : decode cX7_fits 29 = .ok (.iload_n 3, 1) := by decide +kernel
theorem dX7_fits_30 : decode cX7_fits 30 = .ok (.sipush 1150, 3) := by decide +kernel
theorem dX7_fits_33 : decode cX7_fits 33 = .ok (.iload_n 1, 1) := by decide +kernel
theorem dX7_fits_34 : decode cX7_fits 34 = .ok (.imul, 1) := by decide +kernel
theorem dX7_fits_35 : decode cX7_fits 35 = .ok (.sipush 1150, 3) := by decide +kernel
theorem dX7_fits_38 : decode cX7_fits 38 = .ok (.iadd, 1) := by decide +kernel
theorem dX7_fits_39 : decode cX7_fits 39 = .ok (.if_icmp .ge 27, 3) := by decide +kernel
theorem dX7_fits_42 : decode cX7_fits 42 = .ok (.iload_n 2, 1) := by decide +kernel
theorem dX7_fits_43 : decode cX7_fits 43 = .ok (.ifCond .eq 15, 3) := by decide +kernel
theorem dX7_fits_46 : decode cX7_fits 46 = .ok (.aload_n 0, 1) := by decide +kernel
theorem dX7_fits_47 : decode cX7_fits 47 = .ok (.iload_n 3, 1) := by decide +kernel
theorem dX7_fits_48 : decode cX7_fits 48 = .ok (.invokevirtual 52, 3) := by decide +kernel
theorem dX7_fits_51 : decode cX7_fits 51 = .ok (.ifCond .ne 7, 3) := by decide +kernel
theorem dX7_fits_54 : decode cX7_fits 54 = .ok (.iconst 1, 1) := by decide +kernel
theorem dX7_fits_55 : decode cX7_fits 55 = .ok (.goto 4, 3) := by decide +kernel
theorem dX7_fits_58 : decode cX7_fits 58 = .ok (.iconst 0, 1) := by decide +kernel
theorem dX7_fits_59 : decode cX7_fits 59 = .ok (.istore_n 2, 1) := by decide +kernel
theorem dX7_fits_60 : decode cX7_fits 60 = .ok (.iinc 3 1, 3) := by decide +kernel
theorem dX7_fits_63 : decode cX7_fits 63 = .ok (.goto (-34), 3) := by decide +kernel
theorem dX7_fits_66 : decode cX7_fits 66 = .ok (.iload_n 2, 1) := by decide +kernel
theorem dX7_fits_67 : decode cX7_fits 67 = .ok (.ireturn, 1) := by decide +kernel
theorem dX7_copy_0 : decode cX7_copy 0 = .ok (.iconst 0, 1) := by decide +kernel
theorem dX7_copy_1 : decode cX7_copy 1 = .ok (.istore_n 3, 1) := by decide +kernel
theorem dX7_copy_2 : decode cX7_copy 2 = .ok (.iload_n 3, 1) := by decide +kernel
theorem dX7_copy_3 : decode cX7_copy 3 = .ok (.sipush 1150, 3) := by decide +kernel
theorem dX7_copy_6 : decode cX7_copy 6 = .ok (.if_icmp .ge 57, 3) := by decide +kernel
theorem dX7_copy_9 : decode cX7_copy 9 = .ok (.aload_n 0, 1) := by decide +kernel
theorem dX7_copy_10 : decode cX7_copy 10 = .ok (.getfield 20, 3) := by decide +kernel
theorem dX7_copy_13 : decode cX7_copy 13 = .ok (.sipush 1150, 3) := by decide +kernel
theorem dX7_copy_16 : decode cX7_copy 16 = .ok (.iload_n 1, 1) := by decide +kernel
theorem dX7_copy_17 : decode cX7_copy 17 = .ok (.imul, 1) := by decide +kernel
theorem dX7_copy_18 : decode cX7_copy 18 = .ok (.iload_n 3, 1) := by decide +kernel
theorem dX7_copy_19 : decode cX7_copy 19 = .ok (.iadd, 1) := by decide +kernel
theorem dX7_copy_20 : decode cX7_copy 20 = .ok (.aload_n 0, 1) := by decide +kernel
theorem dX7_copy_21 : decode cX7_copy 21 = .ok (.getfield 20, 3) := by decide +kernel
theorem dX7_copy_24 : decode cX7_copy 24 = .ok (.sipush 1150, 3) := by decide +kernel
theorem dX7_copy_27 : decode cX7_copy 27 = .ok (.iload_n 2, 1) := by decide +kernel
theorem dX7_copy_28 : decode cX7_copy 28 = .ok (.imul, 1) := by decide +kernel
theorem dX7_copy_29 : decode cX7_copy 29 = .ok (.iload_n 3, 1) := by decide +kernel
theorem dX7_copy_30 : decode cX7_copy 30 = .ok (.iadd, 1) := by decide +kernel
theorem dX7_copy_31 : decode cX7_copy 31 = .ok (.laload, 1) := by decide +kernel
theorem dX7_copy_32 : decode cX7_copy 32 = .ok (.lastore, 1) := by decide +kernel
theorem dX7_copy_33 : decode cX7_copy 33 = .ok (.aload_n 0, 1) := by decide +kernel
theorem dX7_copy_34 : decode cX7_copy 34 = .ok (.getfield 24, 3) := by decide +kernel
theorem dX7_copy_37 : decode cX7_copy 37 = .ok (.sipush 1150, 3) := by decide +kernel
theorem dX7_copy_40 : decode cX7_copy 40 = .ok (.iload_n 1, 1) := by decide +kernel
theorem dX7_copy_41 : decode cX7_copy 41 = .ok (.imul, 1) := by decide +kernel
theorem dX7_copy_42 : decode cX7_copy 42 = .ok (.iload_n 3, 1) := by decide +kernel
theorem dX7_copy_43 : decode cX7_copy 43 = .ok (.iadd, 1) := by decide +kernel
theorem dX7_copy_44 : decode cX7_copy 44 = .ok (.aload_n 0, 1) := by decide +kernel
theorem dX7_copy_45 : decode cX7_copy 45 = .ok (.getfield 24, 3) := by decide +kernel
theorem dX7_copy_48 : decode cX7_copy 48 = .ok (.sipush 1150, 3) := by decide +kernel
theorem dX7_copy_51 : decode cX7_copy 51 = .ok (.iload_n 2, 1) := by decide +kernel
theorem dX7_copy_52 : decode cX7_copy 52 = .ok (.imul, 1) := by decide +kernel
theorem dX7_copy_53 : decode cX7_copy 53 = .ok (.iload_n 3, 1) := by decide +kernel
theorem dX7_copy_54 : decode cX7_copy 54 = .ok (.iadd, 1) := by decide +kernel
theorem dX7_copy_55 : decode cX7_copy 55 = .ok (.laload, 1) := by decide +kernel
theorem dX7_copy_56 : decode cX7_copy 56 = .ok (.lastore, 1) := by decide +kernel
theorem dX7_copy_57 : decode cX7_copy 57 = .ok (.iinc 3 1, 3) := by decide +kernel
theorem dX7_copy_60 : decode cX7_copy 60 = .ok (.goto (-58), 3) := by decide +kernel
theorem dX7_copy_63 : decode cX7_copy 63 = .ok (.return_, 1) := by decide +kernel
theorem dX7_finish_0 : decode cX7_finish 0 = .ok (.aload_n 0, 1) := by decide +kernel
theorem dX7_finish_1 : decode cX7_finish 1 = .ok (.bipush 8, 2) := by decide +kernel
theorem dX7_finish_3 : decode cX7_finish 3 = .ok (.invokevirtual 56, 3) := by decide +kernel
theorem dX7_finish_6 : decode cX7_finish 6 = .ok (.ifCond .ne 6, 3) := by decide +kernel
theorem dX7_finish_9 : decode cX7_finish 9 = .ok (.bipush (-4), 2) := by decide +kernel
theorem dX7_finish_11 : decode cX7_finish 11 = .ok (.ireturn, 1) := by decide +kernel
theorem dX7_finish_12 : decode cX7_finish 12 = .ok (.aload_n 0, 1) := by decide +kernel
theorem dX7_finish_13 : decode cX7_finish 13 = .ok (.iload_n 1, 1) := by decide +kernel
theorem dX7_finish_14 : decode cX7_finish 14 = .ok (.bipush 8, 2) := by decide +kernel
theorem dX7_finish_16 : decode cX7_finish 16 = .ok (.invokevirtual 59, 3) := by decide +kernel
theorem dX7_finish_19 : decode cX7_finish 19 = .ok (.aload_n 0, 1) := by decide +kernel
theorem dX7_finish_20 : decode cX7_finish 20 = .ok (.iload_n 1, 1) := by decide +kernel
theorem dX7_finish_21 : decode cX7_finish 21 = .ok (.invokevirtual 48, 3) := by decide +kernel
theorem dX7_finish_24 : decode cX7_finish 24 = .ok (.ireturn, 1) := by decide +kernel
theorem dX7_isSmall_0 : decode cX7_isSmall 0 = .ok (.iconst 1, 1) := by decide +kernel
theorem dX7_isSmall_1 : decode cX7_isSmall 1 = .ok (.istore_n 2, 1) := by decide +kernel
theorem dX7_isSmall_2 : decode cX7_isSmall 2 = .ok (.iconst 0, 1) := by decide +kernel
theorem dX7_isSmall_3 : decode cX7_isSmall 3 = .ok (.istore_n 3, 1) := by decide +kernel
theorem dX7_isSmall_4 : decode cX7_isSmall 4 = .ok (.iload_n 3, 1) := by decide +kernel
theorem dX7_isSmall_5 : decode cX7_isSmall 5 = .ok (.bipush 46, 2) := by decide +kernel
theorem dX7_isSmall_7 : decode cX7_isSmall 7 = .ok (.if_icmp .ge 143, 3) := by decide +kernel
theorem dX7_isSmall_10 : decode cX7_isSmall 10 = .ok (.bipush (-12), 2) := by decide +kernel
theorem dX7_isSmall_12 : decode cX7_isSmall 12 = .ok (.istore 4, 2) := by decide +kernel
theorem dX7_isSmall_14 : decode cX7_isSmall 14 = .ok (.iload 4, 2) := by decide +kernel
theorem dX7_isSmall_16 : decode cX7_isSmall 16 = .ok (.bipush 13, 2) := by decide +kernel
theorem dX7_isSmall_18 : decode cX7_isSmall 18 = .ok (.if_icmp .ge 126, 3) := by decide +kernel
theorem dX7_isSmall_21 : decode cX7_isSmall 21 = .ok (.sipush 1150, 3) := by decide +kernel
theorem dX7_isSmall_24 : decode cX7_isSmall 24 = .ok (.iload_n 1, 1) := by decide +kernel
theorem dX7_isSmall_25 : decode cX7_isSmall 25 = .ok (.imul, 1) := by decide +kernel
theorem dX7_isSmall_26 : decode cX7_isSmall 26 = .ok (.bipush 25, 2) := by decide +kernel
theorem dX7_isSmall_28 : decode cX7_isSmall 28 = .ok (.iload_n 3, 1) := by decide +kernel
theorem dX7_isSmall_29 : decode cX7_isSmall 29 = .ok (.imul, 1) := by decide +kernel
theorem dX7_isSmall_30 : decode cX7_isSmall 30 = .ok (.iadd, 1) := by decide +kernel
theorem dX7_isSmall_31 : decode cX7_isSmall 31 = .ok (.iload 4, 2) := by decide +kernel
theorem dX7_isSmall_33 : decode cX7_isSmall 33 = .ok (.iadd, 1) := by decide +kernel
theorem dX7_isSmall_34 : decode cX7_isSmall 34 = .ok (.bipush 12, 2) := by decide +kernel
theorem dX7_isSmall_36 : decode cX7_isSmall 36 = .ok (.iadd, 1) := by decide +kernel
theorem dX7_isSmall_37 : decode cX7_isSmall 37 = .ok (.istore 5, 2) := by decide +kernel
theorem dX7_isSmall_39 : decode cX7_isSmall 39 = .ok (.aload_n 0, 1) := by decide +kernel
theorem dX7_isSmall_40 : decode cX7_isSmall 40 = .ok (.getfield 20, 3) := by decide +kernel
theorem dX7_isSmall_43 : decode cX7_isSmall 43 = .ok (.iload 5, 2) := by decide +kernel
theorem dX7_isSmall_45 : decode cX7_isSmall 45 = .ok (.laload, 1) := by decide +kernel
theorem dX7_isSmall_46 : decode cX7_isSmall 46 = .ok (.lconst 0, 1) := by decide +kernel
theorem dX7_isSmall_47 : decode cX7_isSmall 47 = .ok (.lcmp, 1) := by decide +kernel
theorem dX7_isSmall_48 : decode cX7_isSmall 48 = .ok (.ifCond .ne 6, 3) := by decide +kernel
theorem dX7_isSmall_51 : decode cX7_isSmall 51 = .ok (.goto 87, 3) := by decide +kernel
theorem dX7_isSmall_54 : decode cX7_isSmall 54 = .ok (.iload_n 3, 1) := by decide +kernel
theorem dX7_isSmall_55 : decode cX7_isSmall 55 = .ok (.invokestatic 63, 3) := by decide +kernel
theorem dX7_isSmall_58 : decode cX7_isSmall 58 = .ok (.istore 6, 2) := by decide +kernel
theorem dX7_isSmall_60 : decode cX7_isSmall 60 = .ok (.iload_n 2, 1) := by decide +kernel
theorem dX7_isSmall_61 : decode cX7_isSmall 61 = .ok (.ifCond .eq 75, 3) := by decide +kernel
theorem dX7_isSmall_64 : decode cX7_isSmall 64 = .ok (.aload_n 0, 1) := by decide +kernel
theorem dX7_isSmall_65 : decode cX7_isSmall 65 = .ok (.getfield 20, 3) := by decide +kernel
theorem dX7_isSmall_68 : decode cX7_isSmall 68 = .ok (.iload 5, 2) := by decide +kernel
theorem dX7_isSmall_70 : decode cX7_isSmall 70 = .ok (.laload, 1) := by decide +kernel
theorem dX7_isSmall_71 : decode cX7_isSmall 71 = .ok (.ldc2_w 66, 3) := by decide +kernel
theorem dX7_isSmall_74 : decode cX7_isSmall 74 = .ok (.lcmp, 1) := by decide +kernel
theorem dX7_isSmall_75 : decode cX7_isSmall 75 = .ok (.ifCond .gt 61, 3) := by decide +kernel
theorem dX7_isSmall_78 : decode cX7_isSmall 78 = .ok (.aload_n 0, 1) := by decide +kernel
theorem dX7_isSmall_79 : decode cX7_isSmall 79 = .ok (.getfield 20, 3) := by decide +kernel
theorem dX7_isSmall_82 : decode cX7_isSmall 82 = .ok (.iload 5, 2) := by decide +kernel
theorem dX7_isSmall_84 : decode cX7_isSmall 84 = .ok (.laload, 1) := by decide +kernel
theorem dX7_isSmall_85 : decode cX7_isSmall 85 = .ok (.ldc2_w 68, 3) := by decide +kernel
theorem dX7_isSmall_88 : decode cX7_isSmall 88 = .ok (.lcmp, 1) := by decide +kernel
theorem dX7_isSmall_89 : decode cX7_isSmall 89 = .ok (.ifCond .lt 47, 3) := by decide +kernel
theorem dX7_isSmall_92 : decode cX7_isSmall 92 = .ok (.aload_n 0, 1) := by decide +kernel
theorem dX7_isSmall_93 : decode cX7_isSmall 93 = .ok (.getfield 24, 3) := by decide +kernel
theorem dX7_isSmall_96 : decode cX7_isSmall 96 = .ok (.iload 5, 2) := by decide +kernel
theorem dX7_isSmall_98 : decode cX7_isSmall 98 = .ok (.laload, 1) := by decide +kernel
theorem dX7_isSmall_99 : decode cX7_isSmall 99 = .ok (.ldc2_w 70, 3) := by decide +kernel
theorem dX7_isSmall_102 : decode cX7_isSmall 102 = .ok (.lcmp, 1) := by decide +kernel
theorem dX7_isSmall_103 : decode cX7_isSmall 103 = .ok (.ifCond .gt 33, 3) := by decide +kernel
theorem dX7_isSmall_106 : decode cX7_isSmall 106 = .ok (.iload 4, 2) := by decide +kernel
theorem dX7_isSmall_108 : decode cX7_isSmall 108 = .ok (.iconst 4, 1) := by decide +kernel
theorem dX7_isSmall_109 : decode cX7_isSmall 109 = .ok (.if_icmp .gt 27, 3) := by decide +kernel
theorem dX7_isSmall_112 : decode cX7_isSmall 112 = .ok (.iload 4, 2) := by decide +kernel
theorem dX7_isSmall_114 : decode cX7_isSmall 114 = .ok (.bipush (-4), 2) := by decide +kernel
theorem dX7_isSmall_116 : decode cX7_isSmall 116 = .ok (.if_icmp .lt 20, 3) := by decide +kernel
theorem dX7_isSmall_119 : decode cX7_isSmall 119 = .ok (.iload 6, 2) := by decide +kernel
theorem dX7_isSmall_121 : decode cX7_isSmall 121 = .ok (.iconst 3, 1) := by decide +kernel
theorem dX7_isSmall_122 : decode cX7_isSmall 122 = .ok (.if_icmp .gt 14, 3) := by decide +kernel
theorem dX7_isSmall_125 : decode cX7_isSmall 125 = .ok (.iload 6, 2) := by decide +kernel
theorem dX7_isSmall_127 : decode cX7_isSmall 127 = .ok (.bipush (-3), 2) := by decide +kernel
theorem dX7_isSmall_129 : decode cX7_isSmall 129 = .ok (.if_icmp .lt 7, 3) := by decide +kernel
theorem dX7_isSmall_132 : decode cX7_isSmall 132 = .ok (.iconst 1, 1) := by decide +kernel
theorem dX7_isSmall_133 : decode cX7_isSmall 133 = .ok (.goto 4, 3) := by decide +kernel
theorem dX7_isSmall_136 : decode cX7_isSmall 136 = .ok (.iconst 0, 1) := by decide +kernel
theorem dX7_isSmall_137 : decode cX7_isSmall 137 = .ok (.istore_n 2, 1) := by decide +kernel
theorem dX7_isSmall_138 : decode cX7_isSmall 138 = .ok (.iinc 4 1, 3) := by decide +kernel
theorem dX7_isSmall_141 : decode cX7_isSmall 141 = .ok (.goto (-127), 3) := by decide +kernel
theorem dX7_isSmall_144 : decode cX7_isSmall 144 = .ok (.iinc 3 1, 3) := by decide +kernel
theorem dX7_isSmall_147 : decode cX7_isSmall 147 = .ok (.goto (-143), 3) := by decide +kernel
theorem dX7_isSmall_150 : decode cX7_isSmall 150 = .ok (.iload_n 2, 1) := by decide +kernel
theorem dX7_isSmall_151 : decode cX7_isSmall 151 = .ok (.ireturn, 1) := by decide +kernel
theorem dX7_putCell_0 : decode cX7_putCell 0 = .ok (.iload_n 1, 1) := by decide +kernel
theorem dX7_putCell_1 : decode cX7_putCell 1 = .ok (.iload_n 2, 1) := by decide +kernel
theorem dX7_putCell_2 : decode cX7_putCell 2 = .ok (.ishr, 1) := by decide +kernel
theorem dX7_putCell_3 : decode cX7_putCell 3 = .ok (.sipush 255, 3) := by decide +kernel
theorem dX7_putCell_6 : decode cX7_putCell 6 = .ok (.iand, 1) := by decide +kernel
theorem dX7_putCell_7 : decode cX7_putCell 7 = .ok (.istore_n 3, 1) := by decide +kernel
theorem dX7_putCell_8 : decode cX7_putCell 8 = .ok (.iload_n 3, 1) := by decide +kernel
theorem dX7_putCell_9 : decode cX7_putCell 9 = .ok (.ifCond .le 33, 3) := by decide +kernel
theorem dX7_putCell_12 : decode cX7_putCell 12 = .ok (.aload_n 0, 1) := by decide +kernel
theorem dX7_putCell_13 : decode cX7_putCell 13 = .ok (.getfield 72, 3) := by decide +kernel
theorem dX7_putCell_16 : decode cX7_putCell 16 = .ok (.bipush 100, 2) := by decide +kernel
theorem dX7_putCell_18 : decode cX7_putCell 18 = .ok (.if_icmp .ge 14, 3) := by decide +kernel
theorem dX7_putCell_21 : decode cX7_putCell 21 = .ok (.aload_n 0, 1) := by decide +kernel
theorem dX7_putCell_22 : decode cX7_putCell 22 = .ok (.getfield 7, 3) := by decide +kernel
theorem dX7_putCell_25 : decode cX7_putCell 25 = .ok (.aload_n 0, 1) := by decide +kernel
theorem dX7_putCell_26 : decode cX7_putCell 26 = .ok (.getfield 72, 3) := by decide +kernel
theorem dX7_putCell_29 : decode cX7_putCell 29 = .ok (.iload_n 3, 1) := by decide +kernel
theorem dX7_putCell_30 : decode cX7_putCell 30 = .ok (.i2c, 1) := by decide +kernel
theorem dX7_putCell_31 : decode cX7_putCell 31 = .ok (.castore, 1) := by decide +kernel
theorem dX7_putCell_32 : decode cX7_putCell 32 = .ok (.aload_n 0, 1) := by decide +kernel
theorem dX7_putCell_33 : decode cX7_putCell 33 = .ok (.dup, 1) := by decide +kernel
theorem dX7_putCell_34 : decode cX7_putCell 34 = .ok (.getfield 72, 3) := by decide +kernel
theorem dX7_putCell_37 : decode cX7_putCell 37 = .ok (.iconst 1, 1) := by decide +kernel
theorem dX7_putCell_38 : decode cX7_putCell 38 = .ok (.iadd, 1) := by decide +kernel
theorem dX7_putCell_39 : decode cX7_putCell 39 = .ok (.putfield 72, 3) := by decide +kernel
theorem dX7_putCell_42 : decode cX7_putCell 42 = .ok (.return_, 1) := by decide +kernel
theorem dX7_type_0 : decode cX7_type 0 = .ok (.aload_n 0, 1) := by decide +kernel
theorem dX7_type_1 : decode cX7_type 1 = .ok (.getfield 72, 3) := by decide +kernel
theorem dX7_type_4 : decode cX7_type 4 = .ok (.istore 6, 2) := by decide +kernel
theorem dX7_type_6 : decode cX7_type 6 = .ok (.iconst 0, 1) := by decide +kernel
theorem dX7_type_7 : decode cX7_type 7 = .ok (.istore 7, 2) := by decide +kernel
theorem dX7_type_9 : decode cX7_type 9 = .ok (.iload 7, 2) := by decide +kernel
theorem dX7_type_11 : decode cX7_type 11 = .ok (.iconst 5, 1) := by decide +kernel
theorem dX7_type_12 : decode cX7_type 12 = .ok (.if_icmp .ge 80, 3) := by decide +kernel
theorem dX7_type_15 : decode cX7_type 15 = .ok (.iload 7, 2) := by decide +kernel
theorem dX7_type_17 : decode cX7_type 17 = .ok (.ifCond .ne 7, 3) := by decide +kernel
theorem dX7_type_20 : decode cX7_type 20 = .ok (.iload_n 1, 1) := by decide +kernel
theorem dX7_type_21 : decode cX7_type 21 = .ok (.goto 36, 3) := by decide +kernel
theorem dX7_type_24 : decode cX7_type 24 = .ok (.iload 7, 2) := by decide +kernel
theorem dX7_type_26 : decode cX7_type 26 = .ok (.iconst 1, 1) := by decide +kernel
theorem dX7_type_27 : decode cX7_type 27 = .ok (.if_icmp .ne 7, 3) := by decide +kernel
theorem dX7_type_30 : decode cX7_type 30 = .ok (.iload_n 2, 1) := by decide +kernel
theorem dX7_type_31 : decode cX7_type 31 = .ok (.goto 26, 3) := by decide +kernel
theorem dX7_type_34 : decode cX7_type 34 = .ok (.iload 7, 2) := by decide +kernel
theorem dX7_type_36 : decode cX7_type 36 = .ok (.iconst 2, 1) := by decide +kernel
theorem dX7_type_37 : decode cX7_type 37 = .ok (.if_icmp .ne 7, 3) := by decide +kernel
theorem dX7_type_40 : decode cX7_type 40 = .ok (.iload_n 3, 1) := by decide +kernel
theorem dX7_type_41 : decode cX7_type 41 = .ok (.goto 16, 3) := by decide +kernel
theorem dX7_type_44 : decode cX7_type 44 = .ok (.iload 7, 2) := by decide +kernel
theorem dX7_type_46 : decode cX7_type 46 = .ok (.iconst 3, 1) := by decide +kernel
theorem dX7_type_47 : decode cX7_type 47 = .ok (.if_icmp .ne 8, 3) := by decide +kernel
theorem dX7_type_50 : decode cX7_type 50 = .ok (.iload 4, 2) := by decide +kernel
theorem dX7_type_52 : decode cX7_type 52 = .ok (.goto 5, 3) := by decide +kernel
theorem dX7_type_55 : decode cX7_type 55 = .ok (.iload 5, 2) := by decide +kernel
theorem dX7_type_57 : decode cX7_type 57 = .ok (.istore 8, 2) := by decide +kernel
theorem dX7_type_59 : decode cX7_type 59 = .ok (.bipush 24, 2) := by decide +kernel
theorem dX7_type_61 : decode cX7_type 61 = .ok (.istore 9, 2) := by decide +kernel
theorem dX7_type_63 : decode cX7_type 63 = .ok (.iload 9, 2) := by decide +kernel
theorem dX7_type_65 : decode cX7_type 65 = .ok (.ifCond .lt 21, 3) := by decide +kernel
theorem dX7_type_68 : decode cX7_type 68 = .ok (.aload_n 0, 1) := by decide +kernel
theorem dX7_type_69 : decode cX7_type 69 = .ok (.iload 8, 2) := by decide +kernel
theorem dX7_type_71 : decode cX7_type 71 = .ok (.iload 9, 2) := by decide +kernel
theorem dX7_type_73 : decode cX7_type 73 = .ok (.invokevirtual 75, 3) := by decide +kernel
theorem dX7_type_76 : decode cX7_type 76 = .ok (.iload 9, 2) := by decide +kernel
theorem dX7_type_78 : decode cX7_type 78 = .ok (.bipush 8, 2) := by decide +kernel
theorem dX7_type_80 : decode cX7_type 80 = .ok (.isub, 1) := by decide +kernel
theorem dX7_type_81 : decode cX7_type 81 = .ok (.istore 9, 2) := by decide +kernel
theorem dX7_type_83 : decode cX7_type 83 = .ok (.goto (-20), 3) := by decide +kernel
theorem dX7_type_86 : decode cX7_type 86 = .ok (.iinc 7 1, 3) := by decide +kernel
theorem dX7_type_89 : decode cX7_type 89 = .ok (.goto (-80), 3) := by decide +kernel
theorem dX7_type_92 : decode cX7_type 92 = .ok (.aload_n 0, 1) := by decide +kernel
theorem dX7_type_93 : decode cX7_type 93 = .ok (.aload_n 0, 1) := by decide +kernel
theorem dX7_type_94 : decode cX7_type 94 = .ok (.getfield 72, 3) := by decide +kernel
theorem dX7_type_97 : decode cX7_type 97 = .ok (.bipush 100, 2) := by decide +kernel
theorem dX7_type_99 : decode cX7_type 99 = .ok (.if_icmp .le 7, 3) := by decide +kernel
theorem dX7_type_102 : decode cX7_type 102 = .ok (.iconst 1, 1) := by decide +kernel
theorem dX7_type_103 : decode cX7_type 103 = .ok (.goto 4, 3) := by decide +kernel
theorem dX7_type_106 : decode cX7_type 106 = .ok (.iconst 0, 1) := by decide +kernel
theorem dX7_type_107 : decode cX7_type 107 = .ok (.invokevirtual 78, 3) := by decide +kernel
theorem dX7_type_110 : decode cX7_type 110 = .ok (.ifCond .eq 11, 3) := by decide +kernel
theorem dX7_type_113 : decode cX7_type 113 = .ok (.aload_n 0, 1) := by decide +kernel
theorem dX7_type_114 : decode cX7_type 114 = .ok (.iload 6, 2) := by decide +kernel
theorem dX7_type_116 : decode cX7_type 116 = .ok (.putfield 72, 3) := by decide +kernel
theorem dX7_type_119 : decode cX7_type 119 = .ok (.iconst 0, 1) := by decide +kernel
theorem dX7_type_120 : decode cX7_type 120 = .ok (.ireturn, 1) := by decide +kernel
theorem dX7_type_121 : decode cX7_type 121 = .ok (.aload_n 0, 1) := by decide +kernel
theorem dX7_type_122 : decode cX7_type 122 = .ok (.getfield 72, 3) := by decide +kernel
theorem dX7_type_125 : decode cX7_type 125 = .ok (.ireturn, 1) := by decide +kernel
theorem dX7_erase_0 : decode cX7_erase 0 = .ok (.aload_n 0, 1) := by decide +kernel
theorem dX7_erase_1 : decode cX7_erase 1 = .ok (.iconst 0, 1) := by decide +kernel
theorem dX7_erase_2 : decode cX7_erase 2 = .ok (.putfield 27, 3) := by decide +kernel
theorem dX7_erase_5 : decode cX7_erase 5 = .ok (.aload_n 0, 1) := by decide +kernel
theorem dX7_erase_6 : decode cX7_erase 6 = .ok (.getfield 72, 3) := by decide +kernel
theorem dX7_erase_9 : decode cX7_erase 9 = .ok (.istore_n 1, 1) := by decide +kernel
theorem dX7_erase_10 : decode cX7_erase 10 = .ok (.aload_n 0, 1) := by decide +kernel
theorem dX7_erase_11 : decode cX7_erase 11 = .ok (.iconst 0, 1) := by decide +kernel
theorem dX7_erase_12 : decode cX7_erase 12 = .ok (.putfield 72, 3) := by decide +kernel
theorem dX7_erase_15 : decode cX7_erase 15 = .ok (.iload_n 1, 1) := by decide +kernel
theorem dX7_erase_16 : decode cX7_erase 16 = .ok (.ireturn, 1) := by decide +kernel
theorem dX7_next_0 : decode cX7_next 0 = .ok (.aload_n 0, 1) := by decide +kernel
theorem dX7_next_1 : decode cX7_next 1 = .ok (.getfield 81, 3) := by decide +kernel
theorem dX7_next_4 : decode cX7_next 4 = .ok (.aload_n 0, 1) := by decide +kernel
theorem dX7_next_5 : decode cX7_next 5 = .ok (.getfield 72, 3) := by decide +kernel
theorem dX7_next_8 : decode cX7_next 8 = .ok (.if_icmp .ge 30, 3) := by decide +kernel
theorem dX7_next_11 : decode cX7_next 11 = .ok (.aload_n 0, 1) := by decide +kernel
theorem dX7_next_12 : decode cX7_next 12 = .ok (.getfield 7, 3) := by decide +kernel
theorem dX7_next_15 : decode cX7_next 15 = .ok (.aload_n 0, 1) := by decide +kernel
theorem dX7_next_16 : decode cX7_next 16 = .ok (.getfield 81, 3) := by decide +kernel
theorem dX7_next_19 : decode cX7_next 19 = .ok (.caload, 1) := by decide +kernel
theorem dX7_next_20 : decode cX7_next 20 = .ok (.bipush 32, 2) := by decide +kernel
theorem dX7_next_22 : decode cX7_next 22 = .ok (.if_icmp .ne 16, 3) := by decide +kernel
theorem dX7_next_25 : decode cX7_next 25 = .ok (.aload_n 0, 1) := by decide +kernel
theorem dX7_next_26 : decode cX7_next 26 = .ok (.dup, 1) := by decide +kernel
theorem dX7_next_27 : decode cX7_next 27 = .ok (.getfield 81, 3) := by decide +kernel
theorem dX7_next_30 : decode cX7_next 30 = .ok (.iconst 1, 1) := by decide +kernel
theorem dX7_next_31 : decode cX7_next 31 = .ok (.iadd, 1) := by decide +kernel
theorem dX7_next_32 : decode cX7_next 32 = .ok (.putfield 81, 3) := by decide +kernel
theorem dX7_next_35 : decode cX7_next 35 = .ok (.goto (-35), 3) := by decide +kernel
theorem dX7_next_38 : decode cX7_next 38 = .ok (.aload_n 0, 1) := by decide +kernel
theorem dX7_next_39 : decode cX7_next 39 = .ok (.getfield 81, 3) := by decide +kernel
theorem dX7_next_42 : decode cX7_next 42 = .ok (.aload_n 0, 1) := by decide +kernel
theorem dX7_next_43 : decode cX7_next 43 = .ok (.getfield 72, 3) := by decide +kernel
theorem dX7_next_46 : decode cX7_next 46 = .ok (.if_icmp .ge 15, 3) := by decide +kernel
theorem dX7_next_49 : decode cX7_next 49 = .ok (.aload_n 0, 1) := by decide +kernel
theorem dX7_next_50 : decode cX7_next 50 = .ok (.getfield 7, 3) := by decide +kernel
theorem dX7_next_53 : decode cX7_next 53 = .ok (.aload_n 0, 1) := by decide +kernel
theorem dX7_next_54 : decode cX7_next 54 = .ok (.getfield 81, 3) := by decide +kernel
theorem dX7_next_57 : decode cX7_next 57 = .ok (.caload, 1) := by decide +kernel
theorem dX7_next_58 : decode cX7_next 58 = .ok (.goto 4, 3) := by decide +kernel
theorem dX7_next_61 : decode cX7_next 61 = .ok (.iconst 0, 1) := by decide +kernel
theorem dX7_next_62 : decode cX7_next 62 = .ok (.ireturn, 1) := by decide +kernel
theorem dX7_isDigit_0 : decode cX7_isDigit 0 = .ok (.iload_n 0, 1) := by decide +kernel
theorem dX7_isDigit_1 : decode cX7_isDigit 1 = .ok (.bipush 48, 2) := by decide +kernel
theorem dX7_isDigit_3 : decode cX7_isDigit 3 = .ok (.if_icmp .lt 13, 3) := by decide +kernel
theorem dX7_isDigit_6 : decode cX7_isDigit 6 = .ok (.iload_n 0, 1) := by decide +kernel
theorem dX7_isDigit_7 : decode cX7_isDigit 7 = .ok (.bipush 57, 2) := by decide +kernel
theorem dX7_isDigit_9 : decode cX7_isDigit 9 = .ok (.if_icmp .gt 7, 3) := by decide +kernel
theorem dX7_isDigit_12 : decode cX7_isDigit 12 = .ok (.iconst 1, 1) := by decide +kernel
theorem dX7_isDigit_13 : decode cX7_isDigit 13 = .ok (.goto 4, 3) := by decide +kernel
theorem dX7_isDigit_16 : decode cX7_isDigit 16 = .ok (.iconst 0, 1) := by decide +kernel
theorem dX7_isDigit_17 : decode cX7_isDigit 17 = .ok (.ireturn, 1) := by decide +kernel
theorem dX7_wrong_0 : decode cX7_wrong 0 = .ok (.aload_n 0, 1) := by decide +kernel
theorem dX7_wrong_1 : decode cX7_wrong 1 = .ok (.getfield 84, 3) := by decide +kernel
theorem dX7_wrong_4 : decode cX7_wrong 4 = .ok (.ifCond .ne 13, 3) := by decide +kernel
theorem dX7_wrong_7 : decode cX7_wrong 7 = .ok (.aload_n 0, 1) := by decide +kernel
theorem dX7_wrong_8 : decode cX7_wrong 8 = .ok (.iload_n 1, 1) := by decide +kernel
theorem dX7_wrong_9 : decode cX7_wrong 9 = .ok (.putfield 84, 3) := by decide +kernel
theorem dX7_wrong_12 : decode cX7_wrong 12 = .ok (.aload_n 0, 1) := by decide +kernel
theorem dX7_wrong_13 : decode cX7_wrong 13 = .ok (.iload_n 2, 1) := by decide +kernel
theorem dX7_wrong_14 : decode cX7_wrong 14 = .ok (.putfield 16, 3) := by decide +kernel
theorem dX7_wrong_17 : decode cX7_wrong 17 = .ok (.return_, 1) := by decide +kernel
theorem dX7_takes_0 : decode cX7_takes 0 = .ok (.aload_n 0, 1) := by decide +kernel
theorem dX7_takes_1 : decode cX7_takes 1 = .ok (.getfield 84, 3) := by decide +kernel
theorem dX7_takes_4 : decode cX7_takes 4 = .ok (.ifCond .ne 11, 3) := by decide +kernel
theorem dX7_takes_7 : decode cX7_takes 7 = .ok (.aload_n 0, 1) := by decide +kernel
theorem dX7_takes_8 : decode cX7_takes 8 = .ok (.invokevirtual 87, 3) := by decide +kernel
theorem dX7_takes_11 : decode cX7_takes 11 = .ok (.iload_n 1, 1) := by decide +kernel
theorem dX7_takes_12 : decode cX7_takes 12 = .ok (.if_icmp .eq 5, 3) := by decide +kernel
theorem dX7_takes_15 : decode cX7_takes 15 = .ok (.iconst 0, 1) := by decide +kernel
theorem dX7_takes_16 : decode cX7_takes 16 = .ok (.ireturn, 1) := by decide +kernel
theorem dX7_takes_17 : decode cX7_takes 17 = .ok (.aload_n 0, 1) := by decide +kernel
theorem dX7_takes_18 : decode cX7_takes 18 = .ok (.dup, 1) := by decide +kernel
theorem dX7_takes_19 : decode cX7_takes 19 = .ok (.getfield 81, 3) := by decide +kernel
theorem dX7_takes_22 : decode cX7_takes 22 = .ok (.iconst 1, 1) := by decide +kernel
theorem dX7_takes_23 : decode cX7_takes 23 = .ok (.iadd, 1) := by decide +kernel
theorem dX7_takes_24 : decode cX7_takes 24 = .ok (.putfield 81, 3) := by decide +kernel
theorem dX7_takes_27 : decode cX7_takes 27 = .ok (.iconst 1, 1) := by decide +kernel
theorem dX7_takes_28 : decode cX7_takes 28 = .ok (.ireturn, 1) := by decide +kernel
theorem dX7_want_0 : decode cX7_want 0 = .ok (.aload_n 0, 1) := by decide +kernel
theorem dX7_want_1 : decode cX7_want 1 = .ok (.iload_n 1, 1) := by decide +kernel
theorem dX7_want_2 : decode cX7_want 2 = .ok (.invokevirtual 91, 3) := by decide +kernel
theorem dX7_want_5 : decode cX7_want 5 = .ok (.ifCond .ne 13, 3) := by decide +kernel
theorem dX7_want_8 : decode cX7_want 8 = .ok (.aload_n 0, 1) := by decide +kernel
theorem dX7_want_9 : decode cX7_want 9 = .ok (.bipush (-2), 2) := by decide +kernel
theorem dX7_want_11 : decode cX7_want 11 = .ok (.aload_n 0, 1) := by decide +kernel
theorem dX7_want_12 : decode cX7_want 12 = .ok (.getfield 81, 3) := by decide +kernel
theorem dX7_want_15 : decode cX7_want 15 = .ok (.invokevirtual 95, 3) := by decide +kernel
theorem dX7_want_18 : decode cX7_want 18 = .ok (.return_, 1) := by decide +kernel
theorem dX7_readNumber_0 : decode cX7_readNumber 0 = .ok (.aload_n 0, 1) := by decide +kernel
theorem dX7_readNumber_1 : decode cX7_readNumber 1 = .ok (.getfield 84, 3) := by decide +kernel
theorem dX7_readNumber_4 : decode cX7_readNumber 4 = .ok (.ifCond .eq 5, 3) := by decide +kernel
theorem dX7_readNumber_7 : decode cX7_readNumber 7 = .ok (.iconst 0, 1) := by decide +kernel
theorem dX7_readNumber_8 : decode cX7_readNumber 8 = .ok (.ireturn, 1) := by decide +kernel
theorem dX7_readNumber_9 : decode cX7_readNumber 9 = .ok (.iconst 0, 1) := by decide +kernel
theorem dX7_readNumber_10 : decode cX7_readNumber 10 = .ok (.istore_n 3, 1) := by decide +kernel
theorem dX7_readNumber_11 : decode cX7_readNumber 11 = .ok (.iconst 0, 1) := by decide +kernel
theorem dX7_readNumber_12 : decode cX7_readNumber 12 = .ok (.istore 4, 2) := by decide +kernel
theorem dX7_readNumber_14 : decode cX7_readNumber 14 = .ok (.aload_n 0, 1) := by decide +kernel
theorem dX7_readNumber_15 : decode cX7_readNumber 15 = .ok (.invokevirtual 87, 3) := by decide +kernel
theorem dX7_readNumber_18 : decode cX7_readNumber 18 = .ok (.istore 5, 2) := by decide +kernel
theorem dX7_readNumber_20 : decode cX7_readNumber 20 = .ok (.aload_n 0, 1) := by decide +kernel
theorem dX7_readNumber_21 : decode cX7_readNumber 21 = .ok (.getfield 81, 3) := by decide +kernel
theorem dX7_readNumber_24 : decode cX7_readNumber 24 = .ok (.istore 6, 2) := by decide +kernel
theorem dX7_readNumber_26 : decode cX7_readNumber 26 = .ok (.iload 4, 2) := by decide +kernel
theorem dX7_readNumber_28 : decode cX7_readNumber 28 = .ok (.iconst 3, 1) := by decide +kernel
theorem dX7_readNumber_29 : decode cX7_readNumber 29 = .ok (.if_icmp .ge 63, 3) := by decide +kernel
theorem dX7_readNumber_32 : decode cX7_readNumber 32 = .ok (.aload_n 0, 1) := by decide +kernel
theorem dX7_readNumber_33 : decode cX7_readNumber 33 = .ok (.getfield 81, 3) := by decide +kernel
theorem dX7_readNumber_36 : decode cX7_readNumber 36 = .ok (.aload_n 0, 1) := by decide +kernel
theorem dX7_readNumber_37 : decode cX7_readNumber 37 = .ok (.getfield 72, 3) := by decide +kernel
theorem dX7_readNumber_40 : decode cX7_readNumber 40 = .ok (.if_icmp .ge 52, 3) := by decide +kernel
theorem dX7_readNumber_43 : decode cX7_readNumber 43 = .ok (.aload_n 0, 1) := by decide +kernel
theorem dX7_readNumber_44 : decode cX7_readNumber 44 = .ok (.getfield 7, 3) := by decide +kernel
theorem dX7_readNumber_47 : decode cX7_readNumber 47 = .ok (.aload_n 0, 1) := by decide +kernel
theorem dX7_readNumber_48 : decode cX7_readNumber 48 = .ok (.getfield 81, 3) := by decide +kernel
theorem dX7_readNumber_51 : decode cX7_readNumber 51 = .ok (.caload, 1) := by decide +kernel
theorem dX7_readNumber_52 : decode cX7_readNumber 52 = .ok (.invokestatic 98, 3) := by decide +kernel
theorem dX7_readNumber_55 : decode cX7_readNumber 55 = .ok (.ifCond .eq 37, 3) := by decide +kernel
theorem dX7_readNumber_58 : decode cX7_readNumber 58 = .ok (.bipush 10, 2) := by decide +kernel
theorem dX7_readNumber_60 : decode cX7_readNumber 60 = .ok (.iload_n 3, 1) := by decide +kernel
theorem dX7_readNumber_61 : decode cX7_readNumber 61 = .ok (.imul, 1) := by decide +kernel
theorem dX7_readNumber_62 : decode cX7_readNumber 62 = .ok (.aload_n 0, 1) := by decide +kernel
theorem dX7_readNumber_63 : decode cX7_readNumber 63 = .ok (.getfield 7, 3) := by decide +kernel
theorem dX7_readNumber_66 : decode cX7_readNumber 66 = .ok (.aload_n 0, 1) := by decide +kernel
theorem dX7_readNumber_67 : decode cX7_readNumber 67 = .ok (.getfield 81, 3) := by decide +kernel
theorem dX7_readNumber_70 : decode cX7_readNumber 70 = .ok (.caload, 1) := by decide +kernel
theorem dX7_readNumber_71 : decode cX7_readNumber 71 = .ok (.iadd, 1) := by decide +kernel
theorem dX7_readNumber_72 : decode cX7_readNumber 72 = .ok (.bipush 48, 2) := by decide +kernel
theorem dX7_readNumber_74 : decode cX7_readNumber 74 = .ok (.isub, 1) := by decide +kernel
theorem dX7_readNumber_75 : decode cX7_readNumber 75 = .ok (.istore_n 3, 1) := by decide +kernel
theorem dX7_readNumber_76 : decode cX7_readNumber 76 = .ok (.aload_n 0, 1) := by decide +kernel
theorem dX7_readNumber_77 : decode cX7_readNumber 77 = .ok (.dup, 1) := by decide +kernel
theorem dX7_readNumber_78 : decode cX7_readNumber 78 = .ok (.getfield 81, 3) := by decide +kernel
theorem dX7_readNumber_81 : decode cX7_readNumber 81 = .ok (.iconst 1, 1) := by decide +kernel
theorem dX7_readNumber_82 : decode cX7_readNumber 82 = .ok (.iadd, 1) := by decide +kernel
theorem dX7_readNumber_83 : decode cX7_readNumber 83 = .ok (.putfield 81, 3) := by decide +kernel
theorem dX7_readNumber_86 : decode cX7_readNumber 86 = .ok (.iinc 4 1, 3) := by decide +kernel
theorem dX7_readNumber_89 : decode cX7_readNumber 89 = .ok (.goto (-63), 3) := by decide +kernel
theorem dX7_readNumber_92 : decode cX7_readNumber 92 = .ok (.iload 4, 2) := by decide +kernel
theorem dX7_readNumber_94 : decode cX7_readNumber 94 = .ok (.ifCond .ne 16, 3) := by decide +kernel
theorem dX7_readNumber_97 : decode cX7_readNumber 97 = .ok (.aload_n 0, 1) := by decide +kernel
theorem dX7_readNumber_98 : decode cX7_readNumber 98 = .ok (.bipush (-2), 2) := by decide +kernel
theorem dX7_readNumber_100 : decode cX7_readNumber 100 = .ok (.aload_n 0, 1) := by decide +kernel
theorem dX7_readNumber_101 : decode cX7_readNumber 101 = .ok (.getfield 81, 3) := by decide +kernel
theorem dX7_readNumber_104 : decode cX7_readNumber 104 = .ok (.invokevirtual 95, 3) := by decide +kernel
theorem dX7_readNumber_107 : decode cX7_readNumber 107 = .ok (.goto 25, 3) := by decide +kernel
theorem dX7_readNumber_110 : decode cX7_readNumber 110 = .ok (.iload_n 3, 1) := by decide +kernel
theorem dX7_readNumber_111 : decode cX7_readNumber 111 = .ok (.iload_n 1, 1) := by decide +kernel
theorem dX7_readNumber_112 : decode cX7_readNumber 112 = .ok (.if_icmp .lt 12, 3) := by decide +kernel
theorem dX7_readNumber_115 : decode cX7_readNumber 115 = .ok (.iload_n 2, 1) := by decide +kernel
theorem dX7_readNumber_116 : decode cX7_readNumber 116 = .ok (.ifCond .lt 16, 3) := by decide +kernel
theorem dX7_readNumber_119 : decode cX7_readNumber 119 = .ok (.iload_n 3, 1) := by decide +kernel
theorem dX7_readNumber_120 : decode cX7_readNumber 120 = .ok (.iload_n 2, 1) := by decide +kernel
theorem dX7_readNumber_121 : decode cX7_readNumber 121 = .ok (.if_icmp .le 11, 3) := by decide +kernel
theorem dX7_readNumber_124 : decode cX7_readNumber 124 = .ok (.aload_n 0, 1) := by decide +kernel
theorem dX7_readNumber_125 : decode cX7_readNumber 125 = .ok (.bipush (-3), 2) := by decide +kernel
theorem dX7_readNumber_127 : decode cX7_readNumber 127 = .ok (.iload 6, 2) := by decide +kernel
theorem dX7_readNumber_129 : decode cX7_readNumber 129 = .ok (.invokevirtual 95, 3) := by decide +kernel
theorem dX7_readNumber_132 : decode cX7_readNumber 132 = .ok (.iload_n 3, 1) := by decide +kernel
theorem dX7_readNumber_133 : decode cX7_readNumber 133 = .ok (.ireturn, 1) := by decide +kernel
theorem dX7_readTerm_0 : decode cX7_readTerm 0 = .ok (.lconst 1, 1) := by decide +kernel
theorem dX7_readTerm_1 : decode cX7_readTerm 1 = .ok (.lstore_n 2, 1) := by decide +kernel
theorem dX7_readTerm_2 : decode cX7_readTerm 2 = .ok (.lconst 1, 1) := by decide +kernel
theorem dX7_readTerm_3 : decode cX7_readTerm 3 = .ok (.lstore 4, 2) := by decide +kernel
theorem dX7_readTerm_5 : decode cX7_readTerm 5 = .ok (.iconst 0, 1) := by decide +kernel
theorem dX7_readTerm_6 : decode cX7_readTerm 6 = .ok (.istore 6, 2) := by decide +kernel
theorem dX7_readTerm_8 : decode cX7_readTerm 8 = .ok (.iconst 0, 1) := by decide +kernel
theorem dX7_readTerm_9 : decode cX7_readTerm 9 = .ok (.istore 7, 2) := by decide +kernel
theorem dX7_readTerm_11 : decode cX7_readTerm 11 = .ok (.iconst 0, 1) := by decide +kernel
theorem dX7_readTerm_12 : decode cX7_readTerm 12 = .ok (.istore 8, 2) := by decide +kernel
theorem dX7_readTerm_14 : decode cX7_readTerm 14 = .ok (.iconst 0, 1) := by decide +kernel
theorem dX7_readTerm_15 : decode cX7_readTerm 15 = .ok (.istore 9, 2) := by decide +kernel
theorem dX7_readTerm_17 : decode cX7_readTerm 17 = .ok (.aload_n 0, 1) := by decide +kernel
theorem dX7_readTerm_18 : decode cX7_readTerm 18 = .ok (.invokevirtual 87, 3) := by decide +kernel
theorem dX7_readTerm_21 : decode cX7_readTerm 21 = .ok (.invokestatic 98, 3) := by decide +kernel
theorem dX7_readTerm_24 : decode cX7_readTerm 24 = .ok (.ifCond .eq 32, 3) := by decide +kernel
theorem dX7_readTerm_27 : decode cX7_readTerm 27 = .ok (.aload_n 0, 1) := by decide +kernel
theorem dX7_readTerm_28 : decode cX7_readTerm 28 = .ok (.iconst 0, 1) := by decide +kernel
theorem dX7_readTerm_29 : decode cX7_readTerm 29 = .ok (.iconst (-1), 1) := by decide +kernel
theorem dX7_readTerm_30 : decode cX7_readTerm 30 = .ok (.invokevirtual 101, 3) := by decide +kernel
theorem dX7_readTerm_33 : decode cX7_readTerm 33 = .ok (.i2l, 1) := by decide +kernel
theorem dX7_readTerm_34 : decode cX7_readTerm 34 = .ok (.lstore_n 2, 1) := by decide +kernel
theorem dX7_readTerm_35 : decode cX7_readTerm 35 = .ok (.iconst 1, 1) := by decide +kernel
theorem dX7_readTerm_36 : decode cX7_readTerm 36 = .ok (.istore 9, 2) := by decide +kernel
theorem dX7_readTerm_38 : decode cX7_readTerm 38 = .ok (.aload_n 0, 1) := by decide +kernel
theorem dX7_readTerm_39 : decode cX7_readTerm 39 = .ok (.bipush 47, 2) := by decide +kernel
theorem dX7_readTerm_41 : decode cX7_readTerm 41 = .ok (.invokevirtual 91, 3) := by decide +kernel
theorem dX7_readTerm_44 : decode cX7_readTerm 44 = .ok (.ifCond .eq 12, 3) := by decide +kernel
theorem dX7_readTerm_47 : decode cX7_readTerm 47 = .ok (.aload_n 0, 1) := by decide +kernel
theorem dX7_readTerm_48 : decode cX7_readTerm 48 = .ok (.iconst 1, 1) := by decide +kernel
theorem dX7_readTerm_49 : decode cX7_readTerm 49 = .ok (.iconst (-1), 1) := by decide +kernel
theorem dX7_readTerm_50 : decode cX7_readTerm 50 = .ok (.invokevirtual 101, 3) := by decide +kernel
theorem dX7_readTerm_53 : decode cX7_readTerm 53 = .ok (.i2l, 1) := by decide +kernel
theorem dX7_readTerm_54 : decode cX7_readTerm 54 = .ok (.lstore 4, 2) := by decide +kernel
theorem dX7_readTerm_56 : decode cX7_readTerm 56 = .ok (.aload_n 0, 1) := by decide +kernel
theorem dX7_readTerm_57 : decode cX7_readTerm 57 = .ok (.bipush 120, 2) := by decide +kernel
theorem dX7_readTerm_59 : decode cX7_readTerm 59 = .ok (.invokevirtual 91, 3) := by decide +kernel
theorem dX7_readTerm_62 : decode cX7_readTerm 62 = .ok (.ifCond .eq 50, 3) := by decide +kernel
theorem dX7_readTerm_65 : decode cX7_readTerm 65 = .ok (.iconst 1, 1) := by decide +kernel
theorem dX7_readTerm_66 : decode cX7_readTerm 66 = .ok (.istore 9, 2) := by decide +kernel
theorem dX7_readTerm_68 : decode cX7_readTerm 68 = .ok (.iconst 1, 1) := by decide +kernel
theorem dX7_readTerm_69 : decode cX7_readTerm 69 = .ok (.istore 6, 2) := by decide +kernel
theorem dX7_readTerm_71 : decode cX7_readTerm 71 = .ok (.aload_n 0, 1) := by decide +kernel
theorem dX7_readTerm_72 : decode cX7_readTerm 72 = .ok (.bipush 94, 2) := by decide +kernel
theorem dX7_readTerm_74 : decode cX7_readTerm 74 = .ok (.invokevirtual 91, 3) := by decide +kernel
theorem dX7_readTerm_77 : decode cX7_readTerm 77 = .ok (.ifCond .eq 35, 3) := by decide +kernel
theorem dX7_readTerm_80 : decode cX7_readTerm 80 = .ok (.aload_n 0, 1) := by decide +kernel
theorem dX7_readTerm_81 : decode cX7_readTerm 81 = .ok (.bipush 45, 2) := by decide +kernel
theorem dX7_readTerm_83 : decode cX7_readTerm 83 = .ok (.invokevirtual 91, 3) := by decide +kernel
theorem dX7_readTerm_86 : decode cX7_readTerm 86 = .ok (.istore 10, 2) := by decide +kernel
theorem dX7_readTerm_88 : decode cX7_readTerm 88 = .ok (.aload_n 0, 1) := by decide +kernel
theorem dX7_readTerm_89 : decode cX7_readTerm 89 = .ok (.iconst 0, 1) := by decide +kernel
theorem dX7_readTerm_90 : decode cX7_readTerm 90 = .ok (.bipush 12, 2) := by decide +kernel
theorem dX7_readTerm_92 : decode cX7_readTerm 92 = .ok (.invokevirtual 101, 3) := by decide +kernel
theorem dX7_readTerm_95 : decode cX7_readTerm 95 = .ok (.istore 6, 2) := by decide +kernel
theorem dX7_readTerm_97 : decode cX7_readTerm 97 = .ok (.iload 10, 2) := by decide +kernel
theorem dX7_readTerm_99 : decode cX7_readTerm 99 = .ok (.ifCond .eq 9, 3) := by decide +kernel
theorem dX7_readTerm_102 : decode cX7_readTerm 102 = .ok (.iload 6, 2) := by decide +kernel
theorem dX7_readTerm_104 : decode cX7_readTerm 104 = .ok (.ineg, 1) := by decide +kernel
theorem dX7_readTerm_105 : decode cX7_readTerm 105 = .ok (.goto 5, 3) := by decide +kernel
theorem dX7_readTerm_108 : decode cX7_readTerm 108 = .ok (.iload 6, 2) := by decide +kernel
theorem dX7_readTerm_110 : decode cX7_readTerm 110 = .ok (.istore 6, 2) := by decide +kernel
theorem dX7_readTerm_112 : decode cX7_readTerm 112 = .ok (.aload_n 0, 1) := by decide +kernel
theorem dX7_readTerm_113 : decode cX7_readTerm 113 = .ok (.bipush 108, 2) := by decide +kernel
theorem dX7_readTerm_115 : decode cX7_readTerm 115 = .ok (.invokevirtual 91, 3) := by decide +kernel
theorem dX7_readTerm_118 : decode cX7_readTerm 118 = .ok (.ifCond .eq 33, 3) := by decide +kernel
theorem dX7_readTerm_121 : decode cX7_readTerm 121 = .ok (.iconst 1, 1) := by decide +kernel
theorem dX7_readTerm_122 : decode cX7_readTerm 122 = .ok (.istore 9, 2) := by decide +kernel
theorem dX7_readTerm_124 : decode cX7_readTerm 124 = .ok (.iconst 1, 1) := by decide +kernel
theorem dX7_readTerm_125 : decode cX7_readTerm 125 = .ok (.istore 7, 2) := by decide +kernel
theorem dX7_readTerm_127 : decode cX7_readTerm 127 = .ok (.iconst 1, 1) := by decide +kernel
theorem dX7_readTerm_128 : decode cX7_readTerm 128 = .ok (.istore 8, 2) := by decide +kernel
theorem dX7_readTerm_130 : decode cX7_readTerm 130 = .ok (.aload_n 0, 1) := by decide +kernel
theorem dX7_readTerm_131 : decode cX7_readTerm 131 = .ok (.bipush 94, 2) := by decide +kernel
theorem dX7_readTerm_133 : decode cX7_readTerm 133 = .ok (.invokevirtual 91, 3) := by decide +kernel
theorem dX7_readTerm_136 : decode cX7_readTerm 136 = .ok (.ifCond .eq 162, 3) := by decide +kernel
theorem dX7_readTerm_139 : decode cX7_readTerm 139 = .ok (.aload_n 0, 1) := by decide +kernel
theorem dX7_readTerm_140 : decode cX7_readTerm 140 = .ok (.iconst 0, 1) := by decide +kernel
theorem dX7_readTerm_141 : decode cX7_readTerm 141 = .ok (.bipush 9, 2) := by decide +kernel
theorem dX7_readTerm_143 : decode cX7_readTerm 143 = .ok (.invokevirtual 101, 3) := by decide +kernel
theorem dX7_readTerm_146 : decode cX7_readTerm 146 = .ok (.istore 8, 2) := by decide +kernel
theorem dX7_readTerm_148 : decode cX7_readTerm 148 = .ok (.goto 150, 3) := by decide +kernel
theorem dX7_readTerm_151 : decode cX7_readTerm 151 = .ok (.aload_n 0, 1) := by decide +kernel
theorem dX7_readTerm_152 : decode cX7_readTerm 152 = .ok (.getfield 84, 3) := by decide +kernel
theorem dX7_readTerm_155 : decode cX7_readTerm 155 = .ok (.ifCond .ne 143, 3) := by decide +kernel
theorem dX7_readTerm_158 : decode cX7_readTerm 158 = .ok (.aload_n 0, 1) := by decide +kernel
theorem dX7_readTerm_159 : decode cX7_readTerm 159 = .ok (.invokevirtual 87, 3) := by decide +kernel
theorem dX7_readTerm_162 : decode cX7_readTerm 162 = .ok (.bipush 101, 2) := by decide +kernel
theorem dX7_readTerm_164 : decode cX7_readTerm 164 = .ok (.if_icmp .eq 21, 3) := by decide +kernel
theorem dX7_readTerm_167 : decode cX7_readTerm 167 = .ok (.aload_n 0, 1) := by decide +kernel
theorem dX7_readTerm_168 : decode cX7_readTerm 168 = .ok (.invokevirtual 87, 3) := by decide +kernel
theorem dX7_readTerm_171 : decode cX7_readTerm 171 = .ok (.bipush 115, 2) := by decide +kernel
theorem dX7_readTerm_173 : decode cX7_readTerm 173 = .ok (.if_icmp .eq 12, 3) := by decide +kernel
theorem dX7_readTerm_176 : decode cX7_readTerm 176 = .ok (.aload_n 0, 1) := by decide +kernel
theorem dX7_readTerm_177 : decode cX7_readTerm 177 = .ok (.invokevirtual 87, 3) := by decide +kernel
theorem dX7_readTerm_180 : decode cX7_readTerm 180 = .ok (.bipush 99, 2) := by decide +kernel
theorem dX7_readTerm_182 : decode cX7_readTerm 182 = .ok (.if_icmp .ne 116, 3) := by decide +kernel
theorem dX7_readTerm_185 : decode cX7_readTerm 185 = .ok (.iconst 1, 1) := by decide +kernel
theorem dX7_readTerm_186 : decode cX7_readTerm 186 = .ok (.istore 9, 2) := by decide +kernel
theorem dX7_readTerm_188 : decode cX7_readTerm 188 = .ok (.aload_n 0, 1) := by decide +kernel
theorem dX7_readTerm_189 : decode cX7_readTerm 189 = .ok (.invokevirtual 87, 3) := by decide +kernel
theorem dX7_readTerm_192 : decode cX7_readTerm 192 = .ok (.bipush 101, 2) := by decide +kernel
theorem dX7_readTerm_194 : decode cX7_readTerm 194 = .ok (.if_icmp .ne 7, 3) := by decide +kernel
theorem dX7_readTerm_197 : decode cX7_readTerm 197 = .ok (.iconst 2, 1) := by decide +kernel
theorem dX7_readTerm_198 : decode cX7_readTerm 198 = .ok (.goto 17, 3) := by decide +kernel
theorem dX7_readTerm_201 : decode cX7_readTerm 201 = .ok (.aload_n 0, 1) := by decide +kernel
theorem dX7_readTerm_202 : decode cX7_readTerm 202 = .ok (.invokevirtual 87, 3) := by decide +kernel
theorem dX7_readTerm_205 : decode cX7_readTerm 205 = .ok (.bipush 115, 2) := by decide +kernel
theorem dX7_readTerm_207 : decode cX7_readTerm 207 = .ok (.if_icmp .ne 7, 3) := by decide +kernel
theorem dX7_readTerm_210 : decode cX7_readTerm 210 = .ok (.iconst 3, 1) := by decide +kernel
theorem dX7_readTerm_211 : decode cX7_readTerm 211 = .ok (.goto 4, 3) := by decide +kernel
theorem dX7_readTerm_214 : decode cX7_readTerm 214 = .ok (.iconst 4, 1) := by decide +kernel
theorem dX7_readTerm_215 : decode cX7_readTerm 215 = .ok (.istore 7, 2) := by decide +kernel
theorem dX7_readTerm_217 : decode cX7_readTerm 217 = .ok (.aload_n 0, 1) := by decide +kernel
theorem dX7_readTerm_218 : decode cX7_readTerm 218 = .ok (.dup, 1) := by decide +kernel
theorem dX7_readTerm_219 : decode cX7_readTerm 219 = .ok (.getfield 81, 3) := by decide +kernel
theorem dX7_readTerm_222 : decode cX7_readTerm 222 = .ok (.iconst 1, 1) := by decide +kernel
theorem dX7_readTerm_223 : decode cX7_readTerm 223 = .ok (.iadd, 1) := by decide +kernel
theorem dX7_readTerm_224 : decode cX7_readTerm 224 = .ok (.putfield 81, 3) := by decide +kernel
theorem dX7_readTerm_227 : decode cX7_readTerm 227 = .ok (.aload_n 0, 1) := by decide +kernel
theorem dX7_readTerm_228 : decode cX7_readTerm 228 = .ok (.bipush 40, 2) := by decide +kernel
theorem dX7_readTerm_230 : decode cX7_readTerm 230 = .ok (.invokevirtual 104, 3) := by decide +kernel
theorem dX7_readTerm_233 : decode cX7_readTerm 233 = .ok (.aload_n 0, 1) := by decide +kernel
theorem dX7_readTerm_234 : decode cX7_readTerm 234 = .ok (.bipush 45, 2) := by decide +kernel
theorem dX7_readTerm_236 : decode cX7_readTerm 236 = .ok (.invokevirtual 91, 3) := by decide +kernel
theorem dX7_readTerm_239 : decode cX7_readTerm 239 = .ok (.istore 10, 2) := by decide +kernel
theorem dX7_readTerm_241 : decode cX7_readTerm 241 = .ok (.aload_n 0, 1) := by decide +kernel
theorem dX7_readTerm_242 : decode cX7_readTerm 242 = .ok (.getfield 84, 3) := by decide +kernel
theorem dX7_readTerm_245 : decode cX7_readTerm 245 = .ok (.ifCond .ne 23, 3) := by decide +kernel
theorem dX7_readTerm_248 : decode cX7_readTerm 248 = .ok (.aload_n 0, 1) := by decide +kernel
theorem dX7_readTerm_249 : decode cX7_readTerm 249 = .ok (.invokevirtual 87, 3) := by decide +kernel
theorem dX7_readTerm_252 : decode cX7_readTerm 252 = .ok (.invokestatic 98, 3) := by decide +kernel
theorem dX7_readTerm_255 : decode cX7_readTerm 255 = .ok (.ifCond .eq 13, 3) := by decide +kernel
theorem dX7_readTerm_258 : decode cX7_readTerm 258 = .ok (.aload_n 0, 1) := by decide +kernel
theorem dX7_readTerm_259 : decode cX7_readTerm 259 = .ok (.iconst 0, 1) := by decide +kernel
theorem dX7_readTerm_260 : decode cX7_readTerm 260 = .ok (.bipush 9, 2) := by decide +kernel
theorem dX7_readTerm_262 : decode cX7_readTerm 262 = .ok (.invokevirtual 101, 3) := by decide +kernel
theorem dX7_readTerm_265 : decode cX7_readTerm 265 = .ok (.goto 4, 3) := by decide +kernel
theorem dX7_readTerm_268 : decode cX7_readTerm 268 = .ok (.iconst 1, 1) := by decide +kernel
theorem dX7_readTerm_269 : decode cX7_readTerm 269 = .ok (.istore 8, 2) := by decide +kernel
theorem dX7_readTerm_271 : decode cX7_readTerm 271 = .ok (.iload 10, 2) := by decide +kernel
theorem dX7_readTerm_273 : decode cX7_readTerm 273 = .ok (.ifCond .eq 9, 3) := by decide +kernel
theorem dX7_readTerm_276 : decode cX7_readTerm 276 = .ok (.iload 8, 2) := by decide +kernel
theorem dX7_readTerm_278 : decode cX7_readTerm 278 = .ok (.ineg, 1) := by decide +kernel
theorem dX7_readTerm_279 : decode cX7_readTerm 279 = .ok (.goto 5, 3) := by decide +kernel
theorem dX7_readTerm_282 : decode cX7_readTerm 282 = .ok (.iload 8, 2) := by decide +kernel
theorem dX7_readTerm_284 : decode cX7_readTerm 284 = .ok (.istore 8, 2) := by decide +kernel
theorem dX7_readTerm_286 : decode cX7_readTerm 286 = .ok (.aload_n 0, 1) := by decide +kernel
theorem dX7_readTerm_287 : decode cX7_readTerm 287 = .ok (.bipush 120, 2) := by decide +kernel
theorem dX7_readTerm_289 : decode cX7_readTerm 289 = .ok (.invokevirtual 104, 3) := by decide +kernel
theorem dX7_readTerm_292 : decode cX7_readTerm 292 = .ok (.aload_n 0, 1) := by decide +kernel
theorem dX7_readTerm_293 : decode cX7_readTerm 293 = .ok (.bipush 41, 2) := by decide +kernel
theorem dX7_readTerm_295 : decode cX7_readTerm 295 = .ok (.invokevirtual 104, 3) := by decide +kernel
theorem dX7_readTerm_298 : decode cX7_readTerm 298 = .ok (.aload_n 0, 1) := by decide +kernel
theorem dX7_readTerm_299 : decode cX7_readTerm 299 = .ok (.getfield 84, 3) := by decide +kernel
theorem dX7_readTerm_302 : decode cX7_readTerm 302 = .ok (.ifCond .ne 18, 3) := by decide +kernel
theorem dX7_readTerm_305 : decode cX7_readTerm 305 = .ok (.iload 9, 2) := by decide +kernel
theorem dX7_readTerm_307 : decode cX7_readTerm 307 = .ok (.ifCond .ne 13, 3) := by decide +kernel
theorem dX7_readTerm_310 : decode cX7_readTerm 310 = .ok (.aload_n 0, 1) := by decide +kernel
theorem dX7_readTerm_311 : decode cX7_readTerm 311 = .ok (.bipush (-2), 2) := by decide +kernel
theorem dX7_readTerm_313 : decode cX7_readTerm 313 = .ok (.aload_n 0, 1) := by decide +kernel
theorem dX7_readTerm_314 : decode cX7_readTerm 314 = .ok (.getfield 81, 3) := by decide +kernel
theorem dX7_readTerm_317 : decode cX7_readTerm 317 = .ok (.invokevirtual 95, 3) := by decide +kernel
theorem dX7_readTerm_320 : decode cX7_readTerm 320 = .ok (.aload_n 0, 1) := by decide +kernel
theorem dX7_readTerm_321 : decode cX7_readTerm 321 = .ok (.getfield 84, 3) := by decide +kernel
theorem dX7_readTerm_324 : decode cX7_readTerm 324 = .ok (.ifCond .ne 45, 3) := by decide +kernel
theorem dX7_readTerm_327 : decode cX7_readTerm 327 = .ok (.lload_n 2, 1) := by decide +kernel
theorem dX7_readTerm_328 : decode cX7_readTerm 328 = .ok (.lload 4, 2) := by decide +kernel
theorem dX7_readTerm_330 : decode cX7_readTerm 330 = .ok (.invokestatic 38, 3) := by decide +kernel
theorem dX7_readTerm_333 : decode cX7_readTerm 333 = .ok (.lstore 10, 2) := by decide +kernel
theorem dX7_readTerm_335 : decode cX7_readTerm 335 = .ok (.aload_n 0, 1) := by decide +kernel
theorem dX7_readTerm_336 : decode cX7_readTerm 336 = .ok (.bipush 8, 2) := by decide +kernel
theorem dX7_readTerm_338 : decode cX7_readTerm 338 = .ok (.iload 7, 2) := by decide +kernel
theorem dX7_readTerm_340 : decode cX7_readTerm 340 = .ok (.iload 8, 2) := by decide +kernel
theorem dX7_readTerm_342 : decode cX7_readTerm 342 = .ok (.iload 6, 2) := by decide +kernel
theorem dX7_readTerm_344 : decode cX7_readTerm 344 = .ok (.iload_n 1, 1) := by decide +kernel
theorem dX7_readTerm_345 : decode cX7_readTerm 345 = .ok (.ifCond .eq 8, 3) := by decide +kernel
theorem dX7_readTerm_348 : decode cX7_readTerm 348 = .ok (.lload_n 2, 1) := by decide +kernel
theorem dX7_readTerm_349 : decode cX7_readTerm 349 = .ok (.lneg, 1) := by decide +kernel
theorem dX7_readTerm_350 : decode cX7_readTerm 350 = .ok (.goto 4, 3) := by decide +kernel
theorem dX7_readTerm_353 : decode cX7_readTerm 353 = .ok (.lload_n 2, 1) := by decide +kernel
theorem dX7_readTerm_354 : decode cX7_readTerm 354 = .ok (.lload 10, 2) := by decide +kernel
theorem dX7_readTerm_356 : decode cX7_readTerm 356 = .ok (.ldiv, 1) := by decide +kernel
theorem dX7_readTerm_357 : decode cX7_readTerm 357 = .ok (.lload 4, 2) := by decide +kernel
theorem dX7_readTerm_359 : decode cX7_readTerm 359 = .ok (.lload 10, 2) := by decide +kernel
theorem dX7_readTerm_361 : decode cX7_readTerm 361 = .ok (.ldiv, 1) := by decide +kernel
theorem dX7_readTerm_362 : decode cX7_readTerm 362 = .ok (.invokevirtual 108, 3) := by decide +kernel
theorem dX7_readTerm_365 : decode cX7_readTerm 365 = .ok (.aload_n 0, 1) := by decide +kernel
theorem dX7_readTerm_366 : decode cX7_readTerm 366 = .ok (.invokevirtual 112, 3) := by decide +kernel
theorem dX7_readTerm_369 : decode cX7_readTerm 369 = .ok (.return_, 1) := by decide +kernel
theorem dX7_checkAll_0 : decode cX7_checkAll 0 = .ok (.sipush 9200, 3) := by decide +kernel
theorem dX7_checkAll_3 : decode cX7_checkAll 3 = .ok (.istore_n 1, 1) := by decide +kernel
theorem dX7_checkAll_4 : decode cX7_checkAll 4 = .ok (.iload_n 1, 1) := by decide +kernel
theorem dX7_checkAll_5 : decode cX7_checkAll 5 = .ok (.sipush 10350, 3) := by decide +kernel
theorem dX7_checkAll_8 : decode cX7_checkAll 8 = .ok (.if_icmp .ge 36, 3) := by decide +kernel
theorem dX7_checkAll_11 : decode cX7_checkAll 11 = .ok (.aload_n 0, 1) := by decide +kernel
theorem dX7_checkAll_12 : decode cX7_checkAll 12 = .ok (.iload_n 1, 1) := by decide +kernel
theorem dX7_checkAll_13 : decode cX7_checkAll 13 = .ok (.invokevirtual 52, 3) := by decide +kernel
theorem dX7_checkAll_16 : decode cX7_checkAll 16 = .ok (.ifCond .eq 22, 3) := by decide +kernel
theorem dX7_checkAll_19 : decode cX7_checkAll 19 = .ok (.aload_n 0, 1) := by decide +kernel
theorem dX7_checkAll_20 : decode cX7_checkAll 20 = .ok (.iconst 1, 1) := by decide +kernel
theorem dX7_checkAll_21 : decode cX7_checkAll 21 = .ok (.putfield 30, 3) := by decide +kernel
theorem dX7_checkAll_24 : decode cX7_checkAll 24 = .ok (.aload_n 0, 1) := by decide +kernel
theorem dX7_checkAll_25 : decode cX7_checkAll 25 = .ok (.getfield 20, 3) := by decide +kernel
theorem dX7_checkAll_28 : decode cX7_checkAll 28 = .ok (.iload_n 1, 1) := by decide +kernel
theorem dX7_checkAll_29 : decode cX7_checkAll 29 = .ok (.lconst 0, 1) := by decide +kernel
theorem dX7_checkAll_30 : decode cX7_checkAll 30 = .ok (.lastore, 1) := by decide +kernel
theorem dX7_checkAll_31 : decode cX7_checkAll 31 = .ok (.aload_n 0, 1) := by decide +kernel
theorem dX7_checkAll_32 : decode cX7_checkAll 32 = .ok (.getfield 24, 3) := by decide +kernel
theorem dX7_checkAll_35 : decode cX7_checkAll 35 = .ok (.iload_n 1, 1) := by decide +kernel
theorem dX7_checkAll_36 : decode cX7_checkAll 36 = .ok (.lconst 1, 1) := by decide +kernel
theorem dX7_checkAll_37 : decode cX7_checkAll 37 = .ok (.lastore, 1) := by decide +kernel
theorem dX7_checkAll_38 : decode cX7_checkAll 38 = .ok (.iinc 1 1, 3) := by decide +kernel
theorem dX7_checkAll_41 : decode cX7_checkAll 41 = .ok (.goto (-37), 3) := by decide +kernel
theorem dX7_checkAll_44 : decode cX7_checkAll 44 = .ok (.return_, 1) := by decide +kernel
theorem dX7_read_0 : decode cX7_read 0 = .ok (.aload_n 0, 1) := by decide +kernel
theorem dX7_read_1 : decode cX7_read 1 = .ok (.iload_n 1, 1) := by decide +kernel
theorem dX7_read_2 : decode cX7_read 2 = .ok (.invokestatic 115, 3) := by decide +kernel
theorem dX7_read_5 : decode cX7_read 5 = .ok (.ifCond .eq 7, 3) := by decide +kernel
theorem dX7_read_8 : decode cX7_read 8 = .ok (.iconst 0, 1) := by decide +kernel
theorem dX7_read_9 : decode cX7_read 9 = .ok (.goto 4, 3) := by decide +kernel
theorem dX7_read_12 : decode cX7_read 12 = .ok (.iconst 1, 1) := by decide +kernel
theorem dX7_read_13 : decode cX7_read 13 = .ok (.invokevirtual 78, 3) := by decide +kernel
theorem dX7_read_16 : decode cX7_read 16 = .ok (.ifCond .eq 5, 3) := by decide +kernel
theorem dX7_read_19 : decode cX7_read 19 = .ok (.iconst 0, 1) := by decide +kernel
theorem dX7_read_20 : decode cX7_read 20 = .ok (.ireturn, 1) := by decide +kernel
theorem dX7_read_21 : decode cX7_read 21 = .ok (.aload_n 0, 1) := by decide +kernel
theorem dX7_read_22 : decode cX7_read 22 = .ok (.iconst (-1), 1) := by decide +kernel
theorem dX7_read_23 : decode cX7_read 23 = .ok (.putfield 16, 3) := by decide +kernel
theorem dX7_read_26 : decode cX7_read 26 = .ok (.aload_n 0, 1) := by decide +kernel
theorem dX7_read_27 : decode cX7_read 27 = .ok (.iconst 0, 1) := by decide +kernel
theorem dX7_read_28 : decode cX7_read 28 = .ok (.putfield 84, 3) := by decide +kernel
theorem dX7_read_31 : decode cX7_read 31 = .ok (.aload_n 0, 1) := by decide +kernel
theorem dX7_read_32 : decode cX7_read 32 = .ok (.iconst 0, 1) := by decide +kernel
theorem dX7_read_33 : decode cX7_read 33 = .ok (.putfield 30, 3) := by decide +kernel
theorem dX7_read_36 : decode cX7_read 36 = .ok (.aload_n 0, 1) := by decide +kernel
theorem dX7_read_37 : decode cX7_read 37 = .ok (.iconst 0, 1) := by decide +kernel
theorem dX7_read_38 : decode cX7_read 38 = .ok (.putfield 81, 3) := by decide +kernel
theorem dX7_read_41 : decode cX7_read 41 = .ok (.aload_n 0, 1) := by decide +kernel
theorem dX7_read_42 : decode cX7_read 42 = .ok (.bipush 8, 2) := by decide +kernel
theorem dX7_read_44 : decode cX7_read 44 = .ok (.invokevirtual 118, 3) := by decide +kernel
theorem dX7_read_47 : decode cX7_read 47 = .ok (.aload_n 0, 1) := by decide +kernel
theorem dX7_read_48 : decode cX7_read 48 = .ok (.bipush 45, 2) := by decide +kernel
theorem dX7_read_50 : decode cX7_read 50 = .ok (.invokevirtual 91, 3) := by decide +kernel
theorem dX7_read_53 : decode cX7_read 53 = .ok (.istore_n 2, 1) := by decide +kernel
theorem dX7_read_54 : decode cX7_read 54 = .ok (.iconst 1, 1) := by decide +kernel
theorem dX7_read_55 : decode cX7_read 55 = .ok (.istore_n 3, 1) := by decide +kernel
theorem dX7_read_56 : decode cX7_read 56 = .ok (.iload_n 3, 1) := by decide +kernel
theorem dX7_read_57 : decode cX7_read 57 = .ok (.ifCond .eq 78, 3) := by decide +kernel
theorem dX7_read_60 : decode cX7_read 60 = .ok (.aload_n 0, 1) := by decide +kernel
theorem dX7_read_61 : decode cX7_read 61 = .ok (.iload_n 2, 1) := by decide +kernel
theorem dX7_read_62 : decode cX7_read 62 = .ok (.invokevirtual 122, 3) := by decide +kernel
theorem dX7_read_65 : decode cX7_read 65 = .ok (.aload_n 0, 1) := by decide +kernel
theorem dX7_read_66 : decode cX7_read 66 = .ok (.getfield 84, 3) := by decide +kernel
theorem dX7_read_69 : decode cX7_read 69 = .ok (.ifCond .ne 16, 3) := by decide +kernel
theorem dX7_read_72 : decode cX7_read 72 = .ok (.aload_n 0, 1) := by decide +kernel
theorem dX7_read_73 : decode cX7_read 73 = .ok (.invokevirtual 87, 3) := by decide +kernel
theorem dX7_read_76 : decode cX7_read 76 = .ok (.bipush 45, 2) := by decide +kernel
theorem dX7_read_78 : decode cX7_read 78 = .ok (.if_icmp .ne 7, 3) := by decide +kernel
theorem dX7_read_81 : decode cX7_read 81 = .ok (.iconst 1, 1) := by decide +kernel
theorem dX7_read_82 : decode cX7_read 82 = .ok (.goto 4, 3) := by decide +kernel
theorem dX7_read_85 : decode cX7_read 85 = .ok (.iconst 0, 1) := by decide +kernel
theorem dX7_read_86 : decode cX7_read 86 = .ok (.istore_n 2, 1) := by decide +kernel
theorem dX7_read_87 : decode cX7_read 87 = .ok (.aload_n 0, 1) := by decide +kernel
theorem dX7_read_88 : decode cX7_read 88 = .ok (.getfield 84, 3) := by decide +kernel
theorem dX7_read_91 : decode cX7_read 91 = .ok (.ifCond .ne 25, 3) := by decide +kernel
theorem dX7_read_94 : decode cX7_read 94 = .ok (.aload_n 0, 1) := by decide +kernel
theorem dX7_read_95 : decode cX7_read 95 = .ok (.invokevirtual 87, 3) := by decide +kernel
theorem dX7_read_98 : decode cX7_read 98 = .ok (.bipush 43, 2) := by decide +kernel
theorem dX7_read_100 : decode cX7_read 100 = .ok (.if_icmp .eq 12, 3) := by decide +kernel
theorem dX7_read_103 : decode cX7_read 103 = .ok (.aload_n 0, 1) := by decide +kernel
theorem dX7_read_104 : decode cX7_read 104 = .ok (.invokevirtual 87, 3) := by decide +kernel
theorem dX7_read_107 : decode cX7_read 107 = .ok (.bipush 45, 2) := by decide +kernel
theorem dX7_read_109 : decode cX7_read 109 = .ok (.if_icmp .ne 7, 3) := by decide +kernel
theorem dX7_read_112 : decode cX7_read 112 = .ok (.iconst 1, 1) := by decide +kernel
theorem dX7_read_113 : decode cX7_read 113 = .ok (.goto 4, 3) := by decide +kernel
theorem dX7_read_116 : decode cX7_read 116 = .ok (.iconst 0, 1) := by decide +kernel
theorem dX7_read_117 : decode cX7_read 117 = .ok (.istore_n 3, 1) := by decide +kernel
theorem dX7_read_118 : decode cX7_read 118 = .ok (.iload_n 3, 1) := by decide +kernel
theorem dX7_read_119 : decode cX7_read 119 = .ok (.ifCond .eq (-63), 3) := by decide +kernel
theorem dX7_read_122 : decode cX7_read 122 = .ok (.aload_n 0, 1) := by decide +kernel
theorem dX7_read_123 : decode cX7_read 123 = .ok (.dup, 1) := by decide +kernel
theorem dX7_read_124 : decode cX7_read 124 = .ok (.getfield 81, 3) := by decide +kernel
theorem dX7_read_127 : decode cX7_read 127 = .ok (.iconst 1, 1) := by decide +kernel
theorem dX7_read_128 : decode cX7_read 128 = .ok (.iadd, 1) := by decide +kernel
theorem dX7_read_129 : decode cX7_read 129 = .ok (.putfield 81, 3) := by decide +kernel
theorem dX7_read_132 : decode cX7_read 132 = .ok (.goto (-76), 3) := by decide +kernel
theorem dX7_read_135 : decode cX7_read 135 = .ok (.aload_n 0, 1) := by decide +kernel
theorem dX7_read_136 : decode cX7_read 136 = .ok (.getfield 84, 3) := by decide +kernel
theorem dX7_read_139 : decode cX7_read 139 = .ok (.ifCond .ne 20, 3) := by decide +kernel
theorem dX7_read_142 : decode cX7_read 142 = .ok (.aload_n 0, 1) := by decide +kernel
theorem dX7_read_143 : decode cX7_read 143 = .ok (.invokevirtual 87, 3) := by decide +kernel
theorem dX7_read_146 : decode cX7_read 146 = .ok (.ifCond .eq 13, 3) := by decide +kernel
theorem dX7_read_149 : decode cX7_read 149 = .ok (.aload_n 0, 1) := by decide +kernel
theorem dX7_read_150 : decode cX7_read 150 = .ok (.bipush (-2), 2) := by decide +kernel
theorem dX7_read_152 : decode cX7_read 152 = .ok (.aload_n 0, 1) := by decide +kernel
theorem dX7_read_153 : decode cX7_read 153 = .ok (.getfield 81, 3) := by decide +kernel
theorem dX7_read_156 : decode cX7_read 156 = .ok (.invokevirtual 95, 3) := by decide +kernel
theorem dX7_read_159 : decode cX7_read 159 = .ok (.aload_n 0, 1) := by decide +kernel
theorem dX7_read_160 : decode cX7_read 160 = .ok (.getfield 84, 3) := by decide +kernel
theorem dX7_read_163 : decode cX7_read 163 = .ok (.ifCond .eq 10, 3) := by decide +kernel
theorem dX7_read_166 : decode cX7_read 166 = .ok (.aload_n 0, 1) := by decide +kernel
theorem dX7_read_167 : decode cX7_read 167 = .ok (.getfield 84, 3) := by decide +kernel
theorem dX7_read_170 : decode cX7_read 170 = .ok (.goto 8, 3) := by decide +kernel
theorem dX7_read_173 : decode cX7_read 173 = .ok (.aload_n 0, 1) := by decide +kernel
theorem dX7_read_174 : decode cX7_read 174 = .ok (.iload_n 1, 1) := by decide +kernel
theorem dX7_read_175 : decode cX7_read 175 = .ok (.invokevirtual 126, 3) := by decide +kernel
theorem dX7_read_178 : decode cX7_read 178 = .ok (.ireturn, 1) := by decide +kernel
theorem dX7_place_0 : decode cX7_place 0 = .ok (.aload_n 0, 1) := by decide +kernel
theorem dX7_place_1 : decode cX7_place 1 = .ok (.iconst 0, 1) := by decide +kernel
theorem dX7_place_2 : decode cX7_place 2 = .ok (.putfield 27, 3) := by decide +kernel
theorem dX7_place_5 : decode cX7_place 5 = .ok (.aload_n 0, 1) := by decide +kernel
theorem dX7_place_6 : decode cX7_place 6 = .ok (.getfield 16, 3) := by decide +kernel
theorem dX7_place_9 : decode cX7_place 9 = .ok (.ireturn, 1) := by decide +kernel
theorem dX7_put_0 : decode cX7_put 0 = .ok (.aload_n 0, 1) := by decide +kernel
theorem dX7_put_1 : decode cX7_put 1 = .ok (.getfield 13, 3) := by decide +kernel
theorem dX7_put_4 : decode cX7_put 4 = .ok (.aload_n 0, 1) := by decide +kernel
theorem dX7_put_5 : decode cX7_put 5 = .ok (.getfield 129, 3) := by decide +kernel
theorem dX7_put_8 : decode cX7_put 8 = .ok (.iload_n 1, 1) := by decide +kernel
theorem dX7_put_9 : decode cX7_put 9 = .ok (.castore, 1) := by decide +kernel
theorem dX7_put_10 : decode cX7_put 10 = .ok (.aload_n 0, 1) := by decide +kernel
theorem dX7_put_11 : decode cX7_put 11 = .ok (.dup, 1) := by decide +kernel
theorem dX7_put_12 : decode cX7_put 12 = .ok (.getfield 129, 3) := by decide +kernel
theorem dX7_put_15 : decode cX7_put 15 = .ok (.iconst 1, 1) := by decide +kernel
theorem dX7_put_16 : decode cX7_put 16 = .ok (.iadd, 1) := by decide +kernel
theorem dX7_put_17 : decode cX7_put 17 = .ok (.putfield 129, 3) := by decide +kernel
theorem dX7_put_20 : decode cX7_put 20 = .ok (.return_, 1) := by decide +kernel
theorem dX7_putNumber_0 : decode cX7_putNumber 0 = .ok (.lconst 1, 1) := by decide +kernel
theorem dX7_putNumber_1 : decode cX7_putNumber 1 = .ok (.lstore_n 3, 1) := by decide +kernel
theorem dX7_putNumber_2 : decode cX7_putNumber 2 = .ok (.lload_n 1, 1) := by decide +kernel
theorem dX7_putNumber_3 : decode cX7_putNumber 3 = .ok (.lload_n 3, 1) := by decide +kernel
theorem dX7_putNumber_4 : decode cX7_putNumber 4 = .ok (.ldiv, 1) := by decide +kernel
theorem dX7_putNumber_5 : decode cX7_putNumber 5 = .ok (.ldc2_w 132, 3) := by decide +kernel
theorem dX7_putNumber_8 : decode cX7_putNumber 8 = .ok (.lcmp, 1) := by decide +kernel
theorem dX7_putNumber_9 : decode cX7_putNumber 9 = .ok (.ifCond .le 12, 3) := by decide +kernel
theorem dX7_putNumber_12 : decode cX7_putNumber 12 = .ok (.lload_n 3, 1) := by decide +kernel
theorem dX7_putNumber_13 : decode cX7_putNumber 13 = .ok (.ldc2_w 134, 3) := by decide +kernel
theorem dX7_putNumber_16 : decode cX7_putNumber 16 = .ok (.lmul, 1) := by decide +kernel
theorem dX7_putNumber_17 : decode cX7_putNumber 17 = .ok (.lstore_n 3, 1) := by decide +kernel
theorem dX7_putNumber_18 : decode cX7_putNumber 18 = .ok (.goto (-16), 3) := by decide +kernel
theorem dX7_putNumber_21 : decode cX7_putNumber 21 = .ok (.lload_n 3, 1) := by decide +kernel
theorem dX7_putNumber_22 : decode cX7_putNumber 22 = .ok (.lstore 5, 2) := by decide +kernel
theorem dX7_putNumber_24 : decode cX7_putNumber 24 = .ok (.lload 5, 2) := by decide +kernel
theorem dX7_putNumber_26 : decode cX7_putNumber 26 = .ok (.lconst 0, 1) := by decide +kernel
theorem dX7_putNumber_27 : decode cX7_putNumber 27 = .ok (.lcmp, 1) := by decide +kernel
theorem dX7_putNumber_28 : decode cX7_putNumber 28 = .ok (.ifCond .le 32, 3) := by decide +kernel
theorem dX7_putNumber_31 : decode cX7_putNumber 31 = .ok (.aload_n 0, 1) := by decide +kernel
theorem dX7_putNumber_32 : decode cX7_putNumber 32 = .ok (.ldc2_w 136, 3) := by decide +kernel
theorem dX7_putNumber_35 : decode cX7_putNumber 35 = .ok (.lload_n 1, 1) := by decide +kernel
theorem dX7_putNumber_36 : decode cX7_putNumber 36 = .ok (.lload 5, 2) := by decide +kernel
theorem dX7_putNumber_38 : decode cX7_putNumber 38 = .ok (.ldiv, 1) := by decide +kernel
theorem dX7_putNumber_39 : decode cX7_putNumber 39 = .ok (.ldc2_w 134, 3) := by decide +kernel
theorem dX7_putNumber_42 : decode cX7_putNumber 42 = .ok (.lrem, 1) := by decide +kernel
theorem dX7_putNumber_43 : decode cX7_putNumber 43 = .ok (.ladd, 1) := by decide +kernel
theorem dX7_putNumber_44 : decode cX7_putNumber 44 = .ok (.l2i, 1) := by decide +kernel
theorem dX7_putNumber_45 : decode cX7_putNumber 45 = .ok (.i2c, 1) := by decide +kernel
theorem dX7_putNumber_46 : decode cX7_putNumber 46 = .ok (.invokevirtual 138, 3) := by decide +kernel
theorem dX7_putNumber_49 : decode cX7_putNumber 49 = .ok (.lload 5, 2) := by decide +kernel
theorem dX7_putNumber_51 : decode cX7_putNumber 51 = .ok (.ldc2_w 134, 3) := by decide +kernel
theorem dX7_putNumber_54 : decode cX7_putNumber 54 = .ok (.ldiv, 1) := by decide +kernel
theorem dX7_putNumber_55 : decode cX7_putNumber 55 = .ok (.lstore 5, 2) := by decide +kernel
theorem dX7_putNumber_57 : decode cX7_putNumber 57 = .ok (.goto (-33), 3) := by decide +kernel
theorem dX7_putNumber_60 : decode cX7_putNumber 60 = .ok (.return_, 1) := by decide +kernel
theorem dX7_putFunction_0 : decode cX7_putFunction 0 = .ok (.iload_n 1, 1) := by decide +kernel
theorem dX7_putFunction_1 : decode cX7_putFunction 1 = .ok (.invokestatic 141, 3) := by decide +kernel
theorem dX7_putFunction_4 : decode cX7_putFunction 4 = .ok (.istore_n 2, 1) := by decide +kernel
theorem dX7_putFunction_5 : decode cX7_putFunction 5 = .ok (.iload_n 1, 1) := by decide +kernel
theorem dX7_putFunction_6 : decode cX7_putFunction 6 = .ok (.invokestatic 63, 3) := by decide +kernel
theorem dX7_putFunction_9 : decode cX7_putFunction 9 = .ok (.istore_n 3, 1) := by decide +kernel
theorem dX7_putFunction_10 : decode cX7_putFunction 10 = .ok (.iload_n 2, 1) := by decide +kernel
theorem dX7_putFunction_11 : decode cX7_putFunction 11 = .ok (.iconst 1, 1) := by decide +kernel
theorem dX7_putFunction_12 : decode cX7_putFunction 12 = .ok (.if_icmp .ne 26, 3) := by decide +kernel
theorem dX7_putFunction_15 : decode cX7_putFunction 15 = .ok (.aload_n 0, 1) := by decide +kernel
theorem dX7_putFunction_16 : decode cX7_putFunction 16 = .ok (.bipush 108, 2) := by decide +kernel
theorem dX7_putFunction_18 : decode cX7_putFunction 18 = .ok (.invokevirtual 138, 3) := by decide +kernel
theorem dX7_putFunction_21 : decode cX7_putFunction 21 = .ok (.iload_n 3, 1) := by decide +kernel
theorem dX7_putFunction_22 : decode cX7_putFunction 22 = .ok (.iconst 1, 1) := by decide +kernel
theorem dX7_putFunction_23 : decode cX7_putFunction 23 = .ok (.if_icmp .le 15, 3) := by decide +kernel
theorem dX7_putFunction_26 : decode cX7_putFunction 26 = .ok (.aload_n 0, 1) := by decide +kernel
theorem dX7_putFunction_27 : decode cX7_putFunction 27 = .ok (.bipush 94, 2) := by decide +kernel
theorem dX7_putFunction_29 : decode cX7_putFunction 29 = .ok (.invokevirtual 138, 3) := by decide +kernel
theorem dX7_putFunction_32 : decode cX7_putFunction 32 = .ok (.aload_n 0, 1) := by decide +kernel
theorem dX7_putFunction_33 : decode cX7_putFunction 33 = .ok (.iload_n 3, 1) := by decide +kernel
theorem dX7_putFunction_34 : decode cX7_putFunction 34 = .ok (.i2l, 1) := by decide +kernel
theorem dX7_putFunction_35 : decode cX7_putFunction 35 = .ok (.invokevirtual 144, 3) := by decide +kernel
theorem dX7_putFunction_38 : decode cX7_putFunction 38 = .ok (.iload_n 2, 1) := by decide +kernel
theorem dX7_putFunction_39 : decode cX7_putFunction 39 = .ok (.iconst 1, 1) := by decide +kernel
theorem dX7_putFunction_40 : decode cX7_putFunction 40 = .ok (.if_icmp .le 82, 3) := by decide +kernel
theorem dX7_putFunction_43 : decode cX7_putFunction 43 = .ok (.aload_n 0, 1) := by decide +kernel
theorem dX7_putFunction_44 : decode cX7_putFunction 44 = .ok (.iload_n 2, 1) := by decide +kernel
theorem dX7_putFunction_45 : decode cX7_putFunction 45 = .ok (.iconst 2, 1) := by decide +kernel
theorem dX7_putFunction_46 : decode cX7_putFunction 46 = .ok (.if_icmp .ne 8, 3) := by decide +kernel
theorem dX7_putFunction_49 : decode cX7_putFunction 49 = .ok (.bipush 101, 2) := by decide +kernel
theorem dX7_putFunction_51 : decode cX7_putFunction 51 = .ok (.goto 15, 3) := by decide +kernel
theorem dX7_putFunction_54 : decode cX7_putFunction 54 = .ok (.iload_n 2, 1) := by decide +kernel
theorem dX7_putFunction_55 : decode cX7_putFunction 55 = .ok (.iconst 3, 1) := by decide +kernel
theorem dX7_putFunction_56 : decode cX7_putFunction 56 = .ok (.if_icmp .ne 8, 3) := by decide +kernel
theorem dX7_putFunction_59 : decode cX7_putFunction 59 = .ok (.bipush 115, 2) := by decide +kernel
theorem dX7_putFunction_61 : decode cX7_putFunction 61 = .ok (.goto 5, 3) := by decide +kernel
theorem dX7_putFunction_64 : decode cX7_putFunction 64 = .ok (.bipush 99, 2) := by decide +kernel
theorem dX7_putFunction_66 : decode cX7_putFunction 66 = .ok (.invokevirtual 138, 3) := by decide +kernel
theorem dX7_putFunction_69 : decode cX7_putFunction 69 = .ok (.aload_n 0, 1) := by decide +kernel
theorem dX7_putFunction_70 : decode cX7_putFunction 70 = .ok (.bipush 40, 2) := by decide +kernel
theorem dX7_putFunction_72 : decode cX7_putFunction 72 = .ok (.invokevirtual 138, 3) := by decide +kernel
theorem dX7_putFunction_75 : decode cX7_putFunction 75 = .ok (.iload_n 3, 1) := by decide +kernel
theorem dX7_putFunction_76 : decode cX7_putFunction 76 = .ok (.ifCond .ge 9, 3) := by decide +kernel
theorem dX7_putFunction_79 : decode cX7_putFunction 79 = .ok (.aload_n 0, 1) := by decide +kernel
theorem dX7_putFunction_80 : decode cX7_putFunction 80 = .ok (.bipush 45, 2) := by decide +kernel
theorem dX7_putFunction_82 : decode cX7_putFunction 82 = .ok (.invokevirtual 138, 3) := by decide +kernel
theorem dX7_putFunction_85 : decode cX7_putFunction 85 = .ok (.iload_n 3, 1) := by decide +kernel
theorem dX7_putFunction_86 : decode cX7_putFunction 86 = .ok (.ifCond .ge 8, 3) := by decide +kernel
theorem dX7_putFunction_89 : decode cX7_putFunction 89 = .ok (.iload_n 3, 1) := by decide +kernel
theorem dX7_putFunction_90 : decode cX7_putFunction 90 = .ok (.ineg, 1) := by decide +kernel
theorem dX7_putFunction_91 : decode cX7_putFunction 91 = .ok (.goto 4, 3) := by decide +kernel
theorem dX7_putFunction_94 : decode cX7_putFunction 94 = .ok (.iload_n 3, 1) := by decide +kernel
theorem dX7_putFunction_95 : decode cX7_putFunction 95 = .ok (.istore 4, 2) := by decide +kernel
theorem dX7_putFunction_97 : decode cX7_putFunction 97 = .ok (.iload 4, 2) := by decide +kernel
theorem dX7_putFunction_99 : decode cX7_putFunction 99 = .ok (.iconst 1, 1) := by decide +kernel
theorem dX7_putFunction_100 : decode cX7_putFunction 100 = .ok (.if_icmp .le 10, 3) := by decide +kernel
theorem dX7_putFunction_103 : decode cX7_putFunction 103 = .ok (.aload_n 0, 1) := by decide +kernel
theorem dX7_putFunction_104 : decode cX7_putFunction 104 = .ok (.iload 4, 2) := by decide +kernel
theorem dX7_putFunction_106 : decode cX7_putFunction 106 = .ok (.i2l, 1) := by decide +kernel
theorem dX7_putFunction_107 : decode cX7_putFunction 107 = .ok (.invokevirtual 144, 3) := by decide +kernel
theorem dX7_putFunction_110 : decode cX7_putFunction 110 = .ok (.aload_n 0, 1) := by decide +kernel
theorem dX7_putFunction_111 : decode cX7_putFunction 111 = .ok (.bipush 120, 2) := by decide +kernel
theorem dX7_putFunction_113 : decode cX7_putFunction 113 = .ok (.invokevirtual 138, 3) := by decide +kernel
theorem dX7_putFunction_116 : decode cX7_putFunction 116 = .ok (.aload_n 0, 1) := by decide +kernel
theorem dX7_putFunction_117 : decode cX7_putFunction 117 = .ok (.bipush 41, 2) := by decide +kernel
theorem dX7_putFunction_119 : decode cX7_putFunction 119 = .ok (.invokevirtual 138, 3) := by decide +kernel
theorem dX7_putFunction_122 : decode cX7_putFunction 122 = .ok (.return_, 1) := by decide +kernel
theorem dX7_putTerm_0 : decode cX7_putTerm 0 = .ok (.lload_n 3, 1) := by decide +kernel
theorem dX7_putTerm_1 : decode cX7_putTerm 1 = .ok (.lconst 0, 1) := by decide +kernel
theorem dX7_putTerm_2 : decode cX7_putTerm 2 = .ok (.lcmp, 1) := by decide +kernel
theorem dX7_putTerm_3 : decode cX7_putTerm 3 = .ok (.ifCond .ge 12, 3) := by decide +kernel
theorem dX7_putTerm_6 : decode cX7_putTerm 6 = .ok (.aload_n 0, 1) := by decide +kernel
theorem dX7_putTerm_7 : decode cX7_putTerm 7 = .ok (.bipush 45, 2) := by decide +kernel
theorem dX7_putTerm_9 : decode cX7_putTerm 9 = .ok (.invokevirtual 138, 3) := by decide +kernel
theorem dX7_putTerm_12 : decode cX7_putTerm 12 = .ok (.goto 16, 3) := by decide +kernel
theorem dX7_putTerm_15 : decode cX7_putTerm 15 = .ok (.aload_n 0, 1) := by decide +kernel
theorem dX7_putTerm_16 : decode cX7_putTerm 16 = .ok (.getfield 129, 3) := by decide +kernel
theorem dX7_putTerm_19 : decode cX7_putTerm 19 = .ok (.ifCond .le 9, 3) := by decide +kernel
theorem dX7_putTerm_22 : decode cX7_putTerm 22 = .ok (.aload_n 0, 1) := by decide +kernel
theorem dX7_putTerm_23 : decode cX7_putTerm 23 = .ok (.bipush 43, 2) := by decide +kernel
theorem dX7_putTerm_25 : decode cX7_putTerm 25 = .ok (.invokevirtual 138, 3) := by decide +kernel
theorem dX7_putTerm_28 : decode cX7_putTerm 28 = .ok (.lload_n 3, 1) := by decide +kernel
theorem dX7_putTerm_29 : decode cX7_putTerm 29 = .ok (.lconst 0, 1) := by decide +kernel
theorem dX7_putTerm_30 : decode cX7_putTerm 30 = .ok (.lcmp, 1) := by decide +kernel
theorem dX7_putTerm_31 : decode cX7_putTerm 31 = .ok (.ifCond .ge 8, 3) := by decide +kernel
theorem dX7_putTerm_34 : decode cX7_putTerm 34 = .ok (.lload_n 3, 1) := by decide +kernel
theorem dX7_putTerm_35 : decode cX7_putTerm 35 = .ok (.lneg, 1) := by decide +kernel
theorem dX7_putTerm_36 : decode cX7_putTerm 36 = .ok (.goto 4, 3) := by decide +kernel
theorem dX7_putTerm_39 : decode cX7_putTerm 39 = .ok (.lload_n 3, 1) := by decide +kernel
theorem dX7_putTerm_40 : decode cX7_putTerm 40 = .ok (.lstore 7, 2) := by decide +kernel
theorem dX7_putTerm_42 : decode cX7_putTerm 42 = .ok (.lload 7, 2) := by decide +kernel
theorem dX7_putTerm_44 : decode cX7_putTerm 44 = .ok (.lconst 1, 1) := by decide +kernel
theorem dX7_putTerm_45 : decode cX7_putTerm 45 = .ok (.lcmp, 1) := by decide +kernel
theorem dX7_putTerm_46 : decode cX7_putTerm 46 = .ok (.ifCond .ne 18, 3) := by decide +kernel
theorem dX7_putTerm_49 : decode cX7_putTerm 49 = .ok (.lload 5, 2) := by decide +kernel
theorem dX7_putTerm_51 : decode cX7_putTerm 51 = .ok (.lconst 1, 1) := by decide +kernel
theorem dX7_putTerm_52 : decode cX7_putTerm 52 = .ok (.lcmp, 1) := by decide +kernel
theorem dX7_putTerm_53 : decode cX7_putTerm 53 = .ok (.ifCond .ne 11, 3) := by decide +kernel
theorem dX7_putTerm_56 : decode cX7_putTerm 56 = .ok (.iload_n 1, 1) := by decide +kernel
theorem dX7_putTerm_57 : decode cX7_putTerm 57 = .ok (.ifCond .ne 32, 3) := by decide +kernel
theorem dX7_putTerm_60 : decode cX7_putTerm 60 = .ok (.iload_n 2, 1) := by decide +kernel
theorem dX7_putTerm_61 : decode cX7_putTerm 61 = .ok (.ifCond .ne 28, 3) := by decide +kernel
theorem dX7_putTerm_64 : decode cX7_putTerm 64 = .ok (.aload_n 0, 1) := by decide +kernel
theorem dX7_putTerm_65 : decode cX7_putTerm 65 = .ok (.lload 7, 2) := by decide +kernel
theorem dX7_putTerm_67 : decode cX7_putTerm 67 = .ok (.invokevirtual 144, 3) := by decide +kernel
theorem dX7_putTerm_70 : decode cX7_putTerm 70 = .ok (.lload 5, 2) := by decide +kernel
theorem dX7_putTerm_72 : decode cX7_putTerm 72 = .ok (.lconst 1, 1) := by decide +kernel
theorem dX7_putTerm_73 : decode cX7_putTerm 73 = .ok (.lcmp, 1) := by decide +kernel
theorem dX7_putTerm_74 : decode cX7_putTerm 74 = .ok (.ifCond .eq 15, 3) := by decide +kernel
theorem dX7_putTerm_77 : decode cX7_putTerm 77 = .ok (.aload_n 0, 1) := by decide +kernel
theorem dX7_putTerm_78 : decode cX7_putTerm 78 = .ok (.bipush 47, 2) := by decide +kernel
theorem dX7_putTerm_80 : decode cX7_putTerm 80 = .ok (.invokevirtual 138, 3) := by decide +kernel
theorem dX7_putTerm_83 : decode cX7_putTerm 83 = .ok (.aload_n 0, 1) := by decide +kernel
theorem dX7_putTerm_84 : decode cX7_putTerm 84 = .ok (.lload 5, 2) := by decide +kernel
theorem dX7_putTerm_86 : decode cX7_putTerm 86 = .ok (.invokevirtual 144, 3) := by decide +kernel
theorem dX7_putTerm_89 : decode cX7_putTerm 89 = .ok (.iload_n 2, 1) := by decide +kernel
theorem dX7_putTerm_90 : decode cX7_putTerm 90 = .ok (.ifCond .eq 9, 3) := by decide +kernel
theorem dX7_putTerm_93 : decode cX7_putTerm 93 = .ok (.aload_n 0, 1) := by decide +kernel
theorem dX7_putTerm_94 : decode cX7_putTerm 94 = .ok (.bipush 120, 2) := by decide +kernel
theorem dX7_putTerm_96 : decode cX7_putTerm 96 = .ok (.invokevirtual 138, 3) := by decide +kernel
theorem dX7_putTerm_99 : decode cX7_putTerm 99 = .ok (.iload_n 2, 1) := by decide +kernel
theorem dX7_putTerm_100 : decode cX7_putTerm 100 = .ok (.ifCond .eq 40, 3) := by decide +kernel
theorem dX7_putTerm_103 : decode cX7_putTerm 103 = .ok (.iload_n 2, 1) := by decide +kernel
theorem dX7_putTerm_104 : decode cX7_putTerm 104 = .ok (.iconst 1, 1) := by decide +kernel
theorem dX7_putTerm_105 : decode cX7_putTerm 105 = .ok (.if_icmp .eq 35, 3) := by decide +kernel
theorem dX7_putTerm_108 : decode cX7_putTerm 108 = .ok (.aload_n 0, 1) := by decide +kernel
theorem dX7_putTerm_109 : decode cX7_putTerm 109 = .ok (.bipush 94, 2) := by decide +kernel
theorem dX7_putTerm_111 : decode cX7_putTerm 111 = .ok (.invokevirtual 138, 3) := by decide +kernel
theorem dX7_putTerm_114 : decode cX7_putTerm 114 = .ok (.iload_n 2, 1) := by decide +kernel
theorem dX7_putTerm_115 : decode cX7_putTerm 115 = .ok (.ifCond .ge 9, 3) := by decide +kernel
theorem dX7_putTerm_118 : decode cX7_putTerm 118 = .ok (.aload_n 0, 1) := by decide +kernel
theorem dX7_putTerm_119 : decode cX7_putTerm 119 = .ok (.bipush 45, 2) := by decide +kernel
theorem dX7_putTerm_121 : decode cX7_putTerm 121 = .ok (.invokevirtual 138, 3) := by decide +kernel
theorem dX7_putTerm_124 : decode cX7_putTerm 124 = .ok (.aload_n 0, 1) := by decide +kernel
theorem dX7_putTerm_125 : decode cX7_putTerm 125 = .ok (.iload_n 2, 1) := by decide +kernel
theorem dX7_putTerm_126 : decode cX7_putTerm 126 = .ok (.ifCond .ge 9, 3) := by decide +kernel
theorem dX7_putTerm_129 : decode cX7_putTerm 129 = .ok (.iload_n 2, 1) := by decide +kernel
theorem dX7_putTerm_130 : decode cX7_putTerm 130 = .ok (.ineg, 1) := by decide +kernel
theorem dX7_putTerm_131 : decode cX7_putTerm 131 = .ok (.i2l, 1) := by decide +kernel
theorem dX7_putTerm_132 : decode cX7_putTerm 132 = .ok (.goto 5, 3) := by decide +kernel
theorem dX7_putTerm_135 : decode cX7_putTerm 135 = .ok (.iload_n 2, 1) := by decide +kernel
theorem dX7_putTerm_136 : decode cX7_putTerm 136 = .ok (.i2l, 1) := by decide +kernel
theorem dX7_putTerm_137 : decode cX7_putTerm 137 = .ok (.invokevirtual 144, 3) := by decide +kernel
theorem dX7_putTerm_140 : decode cX7_putTerm 140 = .ok (.aload_n 0, 1) := by decide +kernel
theorem dX7_putTerm_141 : decode cX7_putTerm 141 = .ok (.iload_n 1, 1) := by decide +kernel
theorem dX7_putTerm_142 : decode cX7_putTerm 142 = .ok (.invokevirtual 148, 3) := by decide +kernel
theorem dX7_putTerm_145 : decode cX7_putTerm 145 = .ok (.return_, 1) := by decide +kernel
theorem dX7_write_0 : decode cX7_write 0 = .ok (.aload_n 0, 1) := by decide +kernel
theorem dX7_write_1 : decode cX7_write 1 = .ok (.iload_n 1, 1) := by decide +kernel
theorem dX7_write_2 : decode cX7_write 2 = .ok (.invokestatic 115, 3) := by decide +kernel
theorem dX7_write_5 : decode cX7_write 5 = .ok (.ifCond .eq 7, 3) := by decide +kernel
theorem dX7_write_8 : decode cX7_write 8 = .ok (.iconst 0, 1) := by decide +kernel
theorem dX7_write_9 : decode cX7_write 9 = .ok (.goto 4, 3) := by decide +kernel
theorem dX7_write_12 : decode cX7_write 12 = .ok (.iconst 1, 1) := by decide +kernel
theorem dX7_write_13 : decode cX7_write 13 = .ok (.invokevirtual 78, 3) := by decide +kernel
theorem dX7_write_16 : decode cX7_write 16 = .ok (.ifCond .eq 5, 3) := by decide +kernel
theorem dX7_write_19 : decode cX7_write 19 = .ok (.iconst 0, 1) := by decide +kernel
theorem dX7_write_20 : decode cX7_write 20 = .ok (.ireturn, 1) := by decide +kernel
theorem dX7_write_21 : decode cX7_write 21 = .ok (.aload_n 0, 1) := by decide +kernel
theorem dX7_write_22 : decode cX7_write 22 = .ok (.iconst 0, 1) := by decide +kernel
theorem dX7_write_23 : decode cX7_write 23 = .ok (.putfield 129, 3) := by decide +kernel
theorem dX7_write_26 : decode cX7_write 26 = .ok (.iconst 0, 1) := by decide +kernel
theorem dX7_write_27 : decode cX7_write 27 = .ok (.istore_n 2, 1) := by decide +kernel
theorem dX7_write_28 : decode cX7_write 28 = .ok (.iload_n 2, 1) := by decide +kernel
theorem dX7_write_29 : decode cX7_write 29 = .ok (.bipush 46, 2) := by decide +kernel
theorem dX7_write_31 : decode cX7_write 31 = .ok (.if_icmp .ge 73, 3) := by decide +kernel
theorem dX7_write_34 : decode cX7_write 34 = .ok (.bipush 12, 2) := by decide +kernel
theorem dX7_write_36 : decode cX7_write 36 = .ok (.istore_n 3, 1) := by decide +kernel
theorem dX7_write_37 : decode cX7_write 37 = .ok (.iload_n 3, 1) := by decide +kernel
theorem dX7_write_38 : decode cX7_write 38 = .ok (.bipush (-13), 2) := by decide +kernel
theorem dX7_write_40 : decode cX7_write 40 = .ok (.if_icmp .le 58, 3) := by decide +kernel
theorem dX7_write_43 : decode cX7_write 43 = .ok (.sipush 1150, 3) := by decide +kernel
theorem dX7_write_46 : decode cX7_write 46 = .ok (.iload_n 1, 1) := by decide +kernel
theorem dX7_write_47 : decode cX7_write 47 = .ok (.imul, 1) := by decide +kernel
theorem dX7_write_48 : decode cX7_write 48 = .ok (.bipush 25, 2) := by decide +kernel
theorem dX7_write_50 : decode cX7_write 50 = .ok (.iload_n 2, 1) := by decide +kernel
theorem dX7_write_51 : decode cX7_write 51 = .ok (.imul, 1) := by decide +kernel
theorem dX7_write_52 : decode cX7_write 52 = .ok (.iadd, 1) := by decide +kernel
theorem dX7_write_53 : decode cX7_write 53 = .ok (.iload_n 3, 1) := by decide +kernel
theorem dX7_write_54 : decode cX7_write 54 = .ok (.iadd, 1) := by decide +kernel
theorem dX7_write_55 : decode cX7_write 55 = .ok (.bipush 12, 2) := by decide +kernel
theorem dX7_write_57 : decode cX7_write 57 = .ok (.iadd, 1) := by decide +kernel
theorem dX7_write_58 : decode cX7_write 58 = .ok (.istore 4, 2) := by decide +kernel
theorem dX7_write_60 : decode cX7_write 60 = .ok (.aload_n 0, 1) := by decide +kernel
theorem dX7_write_61 : decode cX7_write 61 = .ok (.getfield 20, 3) := by decide +kernel
theorem dX7_write_64 : decode cX7_write 64 = .ok (.iload 4, 2) := by decide +kernel
theorem dX7_write_66 : decode cX7_write 66 = .ok (.laload, 1) := by decide +kernel
theorem dX7_write_67 : decode cX7_write 67 = .ok (.lconst 0, 1) := by decide +kernel
theorem dX7_write_68 : decode cX7_write 68 = .ok (.lcmp, 1) := by decide +kernel
theorem dX7_write_69 : decode cX7_write 69 = .ok (.ifCond .eq 23, 3) := by decide +kernel
theorem dX7_write_72 : decode cX7_write 72 = .ok (.aload_n 0, 1) := by decide +kernel
theorem dX7_write_73 : decode cX7_write 73 = .ok (.iload_n 2, 1) := by decide +kernel
theorem dX7_write_74 : decode cX7_write 74 = .ok (.iload_n 3, 1) := by decide +kernel
theorem dX7_write_75 : decode cX7_write 75 = .ok (.aload_n 0, 1) := by decide +kernel
theorem dX7_write_76 : decode cX7_write 76 = .ok (.getfield 20, 3) := by decide +kernel
theorem dX7_write_79 : decode cX7_write 79 = .ok (.iload 4, 2) := by decide +kernel
theorem dX7_write_81 : decode cX7_write 81 = .ok (.laload, 1) := by decide +kernel
theorem dX7_write_82 : decode cX7_write 82 = .ok (.aload_n 0, 1) := by decide +kernel
theorem dX7_write_83 : decode cX7_write 83 = .ok (.getfield 24, 3) := by decide +kernel
theorem dX7_write_86 : decode cX7_write 86 = .ok (.iload 4, 2) := by decide +kernel
theorem dX7_write_88 : decode cX7_write 88 = .ok (.laload, 1) := by decide +kernel
theorem dX7_write_89 : decode cX7_write 89 = .ok (.invokevirtual 151, 3) := by decide +kernel
theorem dX7_write_92 : decode cX7_write 92 = .ok (.iinc 3 (-1), 3) := by decide +kernel
theorem dX7_write_95 : decode cX7_write 95 = .ok (.goto (-58), 3) := by decide +kernel
theorem dX7_write_98 : decode cX7_write 98 = .ok (.iinc 2 1, 3) := by decide +kernel
theorem dX7_write_101 : decode cX7_write 101 = .ok (.goto (-73), 3) := by decide +kernel
theorem dX7_write_104 : decode cX7_write 104 = .ok (.aload_n 0, 1) := by decide +kernel
theorem dX7_write_105 : decode cX7_write 105 = .ok (.getfield 129, 3) := by decide +kernel
theorem dX7_write_108 : decode cX7_write 108 = .ok (.ifCond .ne 9, 3) := by decide +kernel
theorem dX7_write_111 : decode cX7_write 111 = .ok (.aload_n 0, 1) := by decide +kernel
theorem dX7_write_112 : decode cX7_write 112 = .ok (.bipush 48, 2) := by decide +kernel
theorem dX7_write_114 : decode cX7_write 114 = .ok (.invokevirtual 138, 3) := by decide +kernel
theorem dX7_write_117 : decode cX7_write 117 = .ok (.aload_n 0, 1) := by decide +kernel
theorem dX7_write_118 : decode cX7_write 118 = .ok (.getfield 129, 3) := by decide +kernel
theorem dX7_write_121 : decode cX7_write 121 = .ok (.ireturn, 1) := by decide +kernel
theorem dX7_output_0 : decode cX7_output 0 = .ok (.aload_n 0, 1) := by decide +kernel
theorem dX7_output_1 : decode cX7_output 1 = .ok (.iconst 0, 1) := by decide +kernel
theorem dX7_output_2 : decode cX7_output 2 = .ok (.putfield 27, 3) := by decide +kernel
theorem dX7_output_5 : decode cX7_output 5 = .ok (.iload_n 1, 1) := by decide +kernel
theorem dX7_output_6 : decode cX7_output 6 = .ok (.ifCond .lt 20, 3) := by decide +kernel
theorem dX7_output_9 : decode cX7_output 9 = .ok (.iload_n 1, 1) := by decide +kernel
theorem dX7_output_10 : decode cX7_output 10 = .ok (.aload_n 0, 1) := by decide +kernel
theorem dX7_output_11 : decode cX7_output 11 = .ok (.getfield 129, 3) := by decide +kernel
theorem dX7_output_14 : decode cX7_output 14 = .ok (.if_icmp .ge 12, 3) := by decide +kernel
theorem dX7_output_17 : decode cX7_output 17 = .ok (.aload_n 0, 1) := by decide +kernel
theorem dX7_output_18 : decode cX7_output 18 = .ok (.getfield 13, 3) := by decide +kernel
theorem dX7_output_21 : decode cX7_output 21 = .ok (.iload_n 1, 1) := by decide +kernel
theorem dX7_output_22 : decode cX7_output 22 = .ok (.caload, 1) := by decide +kernel
theorem dX7_output_23 : decode cX7_output 23 = .ok (.goto 5, 3) := by decide +kernel
theorem dX7_output_26 : decode cX7_output 26 = .ok (.bipush 32, 2) := by decide +kernel
theorem dX7_output_28 : decode cX7_output 28 = .ok (.ireturn, 1) := by decide +kernel
theorem dX7_add_0 : decode cX7_add 0 = .ok (.iload_n 1, 1) := by decide +kernel
theorem dX7_add_1 : decode cX7_add 1 = .ok (.invokestatic 115, 3) := by decide +kernel
theorem dX7_add_4 : decode cX7_add 4 = .ok (.ifCond .eq 48, 3) := by decide +kernel
theorem dX7_add_7 : decode cX7_add 7 = .ok (.iload_n 2, 1) := by decide +kernel
theorem dX7_add_8 : decode cX7_add 8 = .ok (.invokestatic 115, 3) := by decide +kernel
theorem dX7_add_11 : decode cX7_add 11 = .ok (.ifCond .eq 41, 3) := by decide +kernel
theorem dX7_add_14 : decode cX7_add 14 = .ok (.iload_n 3, 1) := by decide +kernel
theorem dX7_add_15 : decode cX7_add 15 = .ok (.invokestatic 115, 3) := by decide +kernel
theorem dX7_add_18 : decode cX7_add 18 = .ok (.ifCond .eq 34, 3) := by decide +kernel
theorem dX7_add_21 : decode cX7_add 21 = .ok (.iload 4, 2) := by decide +kernel
theorem dX7_add_23 : decode cX7_add 23 = .ok (.bipush (-100), 2) := by decide +kernel
theorem dX7_add_25 : decode cX7_add 25 = .ok (.if_icmp .lt 27, 3) := by decide +kernel
theorem dX7_add_28 : decode cX7_add 28 = .ok (.iload 4, 2) := by decide +kernel
theorem dX7_add_30 : decode cX7_add 30 = .ok (.bipush 100, 2) := by decide +kernel
theorem dX7_add_32 : decode cX7_add 32 = .ok (.if_icmp .gt 20, 3) := by decide +kernel
theorem dX7_add_35 : decode cX7_add 35 = .ok (.iload 5, 2) := by decide +kernel
theorem dX7_add_37 : decode cX7_add 37 = .ok (.iconst 1, 1) := by decide +kernel
theorem dX7_add_38 : decode cX7_add 38 = .ok (.if_icmp .lt 14, 3) := by decide +kernel
theorem dX7_add_41 : decode cX7_add 41 = .ok (.iload 5, 2) := by decide +kernel
theorem dX7_add_43 : decode cX7_add 43 = .ok (.bipush 6, 2) := by decide +kernel
theorem dX7_add_45 : decode cX7_add 45 = .ok (.if_icmp .gt 7, 3) := by decide +kernel
theorem dX7_add_48 : decode cX7_add 48 = .ok (.iconst 1, 1) := by decide +kernel
theorem dX7_add_49 : decode cX7_add 49 = .ok (.goto 4, 3) := by decide +kernel
theorem dX7_add_52 : decode cX7_add 52 = .ok (.iconst 0, 1) := by decide +kernel
theorem dX7_add_53 : decode cX7_add 53 = .ok (.istore 6, 2) := by decide +kernel
theorem dX7_add_55 : decode cX7_add 55 = .ok (.aload_n 0, 1) := by decide +kernel
theorem dX7_add_56 : decode cX7_add 56 = .ok (.iload 6, 2) := by decide +kernel
theorem dX7_add_58 : decode cX7_add 58 = .ok (.ifCond .ne 7, 3) := by decide +kernel
theorem dX7_add_61 : decode cX7_add 61 = .ok (.iconst 1, 1) := by decide +kernel
theorem dX7_add_62 : decode cX7_add 62 = .ok (.goto 31, 3) := by decide +kernel
theorem dX7_add_65 : decode cX7_add 65 = .ok (.iload 4, 2) := by decide +kernel
theorem dX7_add_67 : decode cX7_add 67 = .ok (.iload 5, 2) := by decide +kernel
theorem dX7_add_69 : decode cX7_add 69 = .ok (.if_icmp .eq 23, 3) := by decide +kernel
theorem dX7_add_72 : decode cX7_add 72 = .ok (.iload 4, 2) := by decide +kernel
theorem dX7_add_74 : decode cX7_add 74 = .ok (.iload 5, 2) := by decide +kernel
theorem dX7_add_76 : decode cX7_add 76 = .ok (.ineg, 1) := by decide +kernel
theorem dX7_add_77 : decode cX7_add 77 = .ok (.if_icmp .eq 15, 3) := by decide +kernel
theorem dX7_add_80 : decode cX7_add 80 = .ok (.aload_n 0, 1) := by decide +kernel
theorem dX7_add_81 : decode cX7_add 81 = .ok (.iload_n 3, 1) := by decide +kernel
theorem dX7_add_82 : decode cX7_add 82 = .ok (.invokevirtual 155, 3) := by decide +kernel
theorem dX7_add_85 : decode cX7_add 85 = .ok (.ifCond .ne 7, 3) := by decide +kernel
theorem dX7_add_88 : decode cX7_add 88 = .ok (.iconst 2, 1) := by decide +kernel
theorem dX7_add_89 : decode cX7_add 89 = .ok (.goto 4, 3) := by decide +kernel
theorem dX7_add_92 : decode cX7_add 92 = .ok (.iconst 0, 1) := by decide +kernel
theorem dX7_add_93 : decode cX7_add 93 = .ok (.invokevirtual 78, 3) := by decide +kernel
theorem dX7_add_96 : decode cX7_add 96 = .ok (.ifCond .eq 5, 3) := by decide +kernel
theorem dX7_add_99 : decode cX7_add 99 = .ok (.iconst 0, 1) := by decide +kernel
theorem dX7_add_100 : decode cX7_add 100 = .ok (.ireturn, 1) := by decide +kernel
theorem dX7_add_101 : decode cX7_add 101 = .ok (.aload_n 0, 1) := by decide +kernel
theorem dX7_add_102 : decode cX7_add 102 = .ok (.iconst 0, 1) := by decide +kernel
theorem dX7_add_103 : decode cX7_add 103 = .ok (.putfield 30, 3) := by decide +kernel
theorem dX7_add_106 : decode cX7_add 106 = .ok (.aload_n 0, 1) := by decide +kernel
theorem dX7_add_107 : decode cX7_add 107 = .ok (.bipush 8, 2) := by decide +kernel
theorem dX7_add_109 : decode cX7_add 109 = .ok (.iload_n 2, 1) := by decide +kernel
theorem dX7_add_110 : decode cX7_add 110 = .ok (.invokevirtual 59, 3) := by decide +kernel
theorem dX7_add_113 : decode cX7_add 113 = .ok (.iconst 0, 1) := by decide +kernel
theorem dX7_add_114 : decode cX7_add 114 = .ok (.istore 7, 2) := by decide +kernel
theorem dX7_add_116 : decode cX7_add 116 = .ok (.iload 7, 2) := by decide +kernel
theorem dX7_add_118 : decode cX7_add 118 = .ok (.bipush 46, 2) := by decide +kernel
theorem dX7_add_120 : decode cX7_add 120 = .ok (.if_icmp .ge 169, 3) := by decide +kernel
theorem dX7_add_123 : decode cX7_add 123 = .ok (.bipush (-12), 2) := by decide +kernel
theorem dX7_add_125 : decode cX7_add 125 = .ok (.istore 8, 2) := by decide +kernel
theorem dX7_add_127 : decode cX7_add 127 = .ok (.iload 8, 2) := by decide +kernel
theorem dX7_add_129 : decode cX7_add 129 = .ok (.bipush 13, 2) := by decide +kernel
theorem dX7_add_131 : decode cX7_add 131 = .ok (.if_icmp .ge 152, 3) := by decide +kernel
theorem dX7_add_134 : decode cX7_add 134 = .ok (.sipush 1150, 3) := by decide +kernel
theorem dX7_add_137 : decode cX7_add 137 = .ok (.iload_n 3, 1) := by decide +kernel
theorem dX7_add_138 : decode cX7_add 138 = .ok (.imul, 1) := by decide +kernel
theorem dX7_add_139 : decode cX7_add 139 = .ok (.bipush 25, 2) := by decide +kernel
theorem dX7_add_141 : decode cX7_add 141 = .ok (.iload 7, 2) := by decide +kernel
theorem dX7_add_143 : decode cX7_add 143 = .ok (.imul, 1) := by decide +kernel
theorem dX7_add_144 : decode cX7_add 144 = .ok (.iadd, 1) := by decide +kernel
theorem dX7_add_145 : decode cX7_add 145 = .ok (.iload 8, 2) := by decide +kernel
theorem dX7_add_147 : decode cX7_add 147 = .ok (.iadd, 1) := by decide +kernel
theorem dX7_add_148 : decode cX7_add 148 = .ok (.bipush 12, 2) := by decide +kernel
theorem dX7_add_150 : decode cX7_add 150 = .ok (.iadd, 1) := by decide +kernel
theorem dX7_add_151 : decode cX7_add 151 = .ok (.istore 9, 2) := by decide +kernel
theorem dX7_add_153 : decode cX7_add 153 = .ok (.iload 4, 2) := by decide +kernel
theorem dX7_add_155 : decode cX7_add 155 = .ok (.iload 5, 2) := by decide +kernel
theorem dX7_add_157 : decode cX7_add 157 = .ok (.if_icmp .ne 13, 3) := by decide +kernel
theorem dX7_add_160 : decode cX7_add 160 = .ok (.aload_n 0, 1) := by decide +kernel
theorem dX7_add_161 : decode cX7_add 161 = .ok (.getfield 20, 3) := by decide +kernel
theorem dX7_add_164 : decode cX7_add 164 = .ok (.iload 9, 2) := by decide +kernel
theorem dX7_add_166 : decode cX7_add 166 = .ok (.laload, 1) := by decide +kernel
theorem dX7_add_167 : decode cX7_add 167 = .ok (.goto 33, 3) := by decide +kernel
theorem dX7_add_170 : decode cX7_add 170 = .ok (.iload 4, 2) := by decide +kernel
theorem dX7_add_172 : decode cX7_add 172 = .ok (.iload 5, 2) := by decide +kernel
theorem dX7_add_174 : decode cX7_add 174 = .ok (.ineg, 1) := by decide +kernel
theorem dX7_add_175 : decode cX7_add 175 = .ok (.if_icmp .ne 14, 3) := by decide +kernel
theorem dX7_add_178 : decode cX7_add 178 = .ok (.aload_n 0, 1) := by decide +kernel
theorem dX7_add_179 : decode cX7_add 179 = .ok (.getfield 20, 3) := by decide +kernel
theorem dX7_add_182 : decode cX7_add 182 = .ok (.iload 9, 2) := by decide +kernel
theorem dX7_add_184 : decode cX7_add 184 = .ok (.laload, 1) := by decide +kernel
theorem dX7_add_185 : decode cX7_add 185 = .ok (.lneg, 1) := by decide +kernel
theorem dX7_add_186 : decode cX7_add 186 = .ok (.goto 14, 3) := by decide +kernel
theorem dX7_add_189 : decode cX7_add 189 = .ok (.aload_n 0, 1) := by decide +kernel
theorem dX7_add_190 : decode cX7_add 190 = .ok (.getfield 20, 3) := by decide +kernel
theorem dX7_add_193 : decode cX7_add 193 = .ok (.iload 9, 2) := by decide +kernel
theorem dX7_add_195 : decode cX7_add 195 = .ok (.laload, 1) := by decide +kernel
theorem dX7_add_196 : decode cX7_add 196 = .ok (.iload 4, 2) := by decide +kernel
theorem dX7_add_198 : decode cX7_add 198 = .ok (.i2l, 1) := by decide +kernel
theorem dX7_add_199 : decode cX7_add 199 = .ok (.lmul, 1) := by decide +kernel
theorem dX7_add_200 : decode cX7_add 200 = .ok (.lstore 10, 2) := by decide +kernel
theorem dX7_add_202 : decode cX7_add 202 = .ok (.iload 4, 2) := by decide +kernel
theorem dX7_add_204 : decode cX7_add 204 = .ok (.iload 5, 2) := by decide +kernel
theorem dX7_add_206 : decode cX7_add 206 = .ok (.if_icmp .eq 11, 3) := by decide +kernel
theorem dX7_add_209 : decode cX7_add 209 = .ok (.iload 4, 2) := by decide +kernel
theorem dX7_add_211 : decode cX7_add 211 = .ok (.iload 5, 2) := by decide +kernel
theorem dX7_add_213 : decode cX7_add 213 = .ok (.ineg, 1) := by decide +kernel
theorem dX7_add_214 : decode cX7_add 214 = .ok (.if_icmp .ne 13, 3) := by decide +kernel
theorem dX7_add_217 : decode cX7_add 217 = .ok (.aload_n 0, 1) := by decide +kernel
theorem dX7_add_218 : decode cX7_add 218 = .ok (.getfield 24, 3) := by decide +kernel
theorem dX7_add_221 : decode cX7_add 221 = .ok (.iload 9, 2) := by decide +kernel
theorem dX7_add_223 : decode cX7_add 223 = .ok (.laload, 1) := by decide +kernel
theorem dX7_add_224 : decode cX7_add 224 = .ok (.goto 14, 3) := by decide +kernel
theorem dX7_add_227 : decode cX7_add 227 = .ok (.aload_n 0, 1) := by decide +kernel
theorem dX7_add_228 : decode cX7_add 228 = .ok (.getfield 24, 3) := by decide +kernel
theorem dX7_add_231 : decode cX7_add 231 = .ok (.iload 9, 2) := by decide +kernel
theorem dX7_add_233 : decode cX7_add 233 = .ok (.laload, 1) := by decide +kernel
theorem dX7_add_234 : decode cX7_add 234 = .ok (.iload 5, 2) := by decide +kernel
theorem dX7_add_236 : decode cX7_add 236 = .ok (.i2l, 1) := by decide +kernel
theorem dX7_add_237 : decode cX7_add 237 = .ok (.lmul, 1) := by decide +kernel
theorem dX7_add_238 : decode cX7_add 238 = .ok (.lstore 12, 2) := by decide +kernel
theorem dX7_add_240 : decode cX7_add 240 = .ok (.lload 10, 2) := by decide +kernel
theorem dX7_add_242 : decode cX7_add 242 = .ok (.lload 12, 2) := by decide +kernel
theorem dX7_add_244 : decode cX7_add 244 = .ok (.invokestatic 38, 3) := by decide +kernel
theorem dX7_add_247 : decode cX7_add 247 = .ok (.lstore 14, 2) := by decide +kernel
theorem dX7_add_249 : decode cX7_add 249 = .ok (.aload_n 0, 1) := by decide +kernel
theorem dX7_add_250 : decode cX7_add 250 = .ok (.bipush 8, 2) := by decide +kernel
theorem dX7_add_252 : decode cX7_add 252 = .ok (.iload 7, 2) := by decide +kernel
theorem dX7_add_254 : decode cX7_add 254 = .ok (.invokestatic 141, 3) := by decide +kernel
theorem dX7_add_257 : decode cX7_add 257 = .ok (.iload 7, 2) := by decide +kernel
theorem dX7_add_259 : decode cX7_add 259 = .ok (.invokestatic 63, 3) := by decide +kernel
theorem dX7_add_262 : decode cX7_add 262 = .ok (.iload 8, 2) := by decide +kernel
theorem dX7_add_264 : decode cX7_add 264 = .ok (.lload 10, 2) := by decide +kernel
theorem dX7_add_266 : decode cX7_add 266 = .ok (.lload 14, 2) := by decide +kernel
theorem dX7_add_268 : decode cX7_add 268 = .ok (.ldiv, 1) := by decide +kernel
theorem dX7_add_269 : decode cX7_add 269 = .ok (.lload 12, 2) := by decide +kernel
theorem dX7_add_271 : decode cX7_add 271 = .ok (.lload 14, 2) := by decide +kernel
theorem dX7_add_273 : decode cX7_add 273 = .ok (.ldiv, 1) := by decide +kernel
theorem dX7_add_274 : decode cX7_add 274 = .ok (.invokevirtual 108, 3) := by decide +kernel
theorem dX7_add_277 : decode cX7_add 277 = .ok (.iinc 8 1, 3) := by decide +kernel
theorem dX7_add_280 : decode cX7_add 280 = .ok (.goto (-153), 3) := by decide +kernel
theorem dX7_add_283 : decode cX7_add 283 = .ok (.iinc 7 1, 3) := by decide +kernel
theorem dX7_add_286 : decode cX7_add 286 = .ok (.goto (-170), 3) := by decide +kernel
theorem dX7_add_289 : decode cX7_add 289 = .ok (.aload_n 0, 1) := by decide +kernel
theorem dX7_add_290 : decode cX7_add 290 = .ok (.iload_n 1, 1) := by decide +kernel
theorem dX7_add_291 : decode cX7_add 291 = .ok (.invokevirtual 126, 3) := by decide +kernel
theorem dX7_add_294 : decode cX7_add 294 = .ok (.ireturn, 1) := by decide +kernel
theorem dX7_clash_0 : decode cX7_clash 0 = .ok (.iload_n 0, 1) := by decide +kernel
theorem dX7_clash_1 : decode cX7_clash 1 = .ok (.iconst 1, 1) := by decide +kernel
theorem dX7_clash_2 : decode cX7_clash 2 = .ok (.if_icmp .ne 8, 3) := by decide +kernel
theorem dX7_clash_5 : decode cX7_clash 5 = .ok (.iload_n 1, 1) := by decide +kernel
theorem dX7_clash_6 : decode cX7_clash 6 = .ok (.iconst 1, 1) := by decide +kernel
theorem dX7_clash_7 : decode cX7_clash 7 = .ok (.if_icmp .gt 13, 3) := by decide +kernel
theorem dX7_clash_10 : decode cX7_clash 10 = .ok (.iload_n 0, 1) := by decide +kernel
theorem dX7_clash_11 : decode cX7_clash 11 = .ok (.iconst 2, 1) := by decide +kernel
theorem dX7_clash_12 : decode cX7_clash 12 = .ok (.if_icmp .ne 12, 3) := by decide +kernel
theorem dX7_clash_15 : decode cX7_clash 15 = .ok (.iload_n 1, 1) := by decide +kernel
theorem dX7_clash_16 : decode cX7_clash 16 = .ok (.iconst 2, 1) := by decide +kernel
theorem dX7_clash_17 : decode cX7_clash 17 = .ok (.if_icmp .le 7, 3) := by decide +kernel
theorem dX7_clash_20 : decode cX7_clash 20 = .ok (.iconst 1, 1) := by decide +kernel
theorem dX7_clash_21 : decode cX7_clash 21 = .ok (.goto 4, 3) := by decide +kernel
theorem dX7_clash_24 : decode cX7_clash 24 = .ok (.iconst 0, 1) := by decide +kernel
theorem dX7_clash_25 : decode cX7_clash 25 = .ok (.ireturn, 1) := by decide +kernel
theorem dX7_multiply_0 : decode cX7_multiply 0 = .ok (.iload_n 1, 1) := by decide +kernel
theorem dX7_multiply_1 : decode cX7_multiply 1 = .ok (.invokestatic 141, 3) := by decide +kernel
theorem dX7_multiply_4 : decode cX7_multiply 4 = .ok (.istore 8, 2) := by decide +kernel
theorem dX7_multiply_6 : decode cX7_multiply 6 = .ok (.iload_n 2, 1) := by decide +kernel
theorem dX7_multiply_7 : decode cX7_multiply 7 = .ok (.invokestatic 141, 3) := by decide +kernel
theorem dX7_multiply_10 : decode cX7_multiply 10 = .ok (.istore 9, 2) := by decide +kernel
theorem dX7_multiply_12 : decode cX7_multiply 12 = .ok (.iload_n 1, 1) := by decide +kernel
theorem dX7_multiply_13 : decode cX7_multiply 13 = .ok (.invokestatic 63, 3) := by decide +kernel
theorem dX7_multiply_16 : decode cX7_multiply 16 = .ok (.istore 10, 2) := by decide +kernel
theorem dX7_multiply_18 : decode cX7_multiply 18 = .ok (.iload_n 2, 1) := by decide +kernel
theorem dX7_multiply_19 : decode cX7_multiply 19 = .ok (.invokestatic 63, 3) := by decide +kernel
theorem dX7_multiply_22 : decode cX7_multiply 22 = .ok (.istore 11, 2) := by decide +kernel
theorem dX7_multiply_24 : decode cX7_multiply 24 = .ok (.iload 8, 2) := by decide +kernel
theorem dX7_multiply_26 : decode cX7_multiply 26 = .ok (.ifCond .eq 8, 3) := by decide +kernel
theorem dX7_multiply_29 : decode cX7_multiply 29 = .ok (.iload 9, 2) := by decide +kernel
theorem dX7_multiply_31 : decode cX7_multiply 31 = .ok (.ifCond .ne 41, 3) := by decide +kernel
theorem dX7_multiply_34 : decode cX7_multiply 34 = .ok (.aload_n 0, 1) := by decide +kernel
theorem dX7_multiply_35 : decode cX7_multiply 35 = .ok (.bipush 8, 2) := by decide +kernel
theorem dX7_multiply_37 : decode cX7_multiply 37 = .ok (.iload 8, 2) := by decide +kernel
theorem dX7_multiply_39 : decode cX7_multiply 39 = .ok (.ifCond .ne 8, 3) := by decide +kernel
theorem dX7_multiply_42 : decode cX7_multiply 42 = .ok (.iload 9, 2) := by decide +kernel
theorem dX7_multiply_44 : decode cX7_multiply 44 = .ok (.goto 5, 3) := by decide +kernel
theorem dX7_multiply_47 : decode cX7_multiply 47 = .ok (.iload 8, 2) := by decide +kernel
theorem dX7_multiply_49 : decode cX7_multiply 49 = .ok (.iload 8, 2) := by decide +kernel
theorem dX7_multiply_51 : decode cX7_multiply 51 = .ok (.ifCond .ne 8, 3) := by decide +kernel
theorem dX7_multiply_54 : decode cX7_multiply 54 = .ok (.iload 11, 2) := by decide +kernel
theorem dX7_multiply_56 : decode cX7_multiply 56 = .ok (.goto 5, 3) := by decide +kernel
theorem dX7_multiply_59 : decode cX7_multiply 59 = .ok (.iload 10, 2) := by decide +kernel
theorem dX7_multiply_61 : decode cX7_multiply 61 = .ok (.iload_n 3, 1) := by decide +kernel
theorem dX7_multiply_62 : decode cX7_multiply 62 = .ok (.lload 4, 2) := by decide +kernel
theorem dX7_multiply_64 : decode cX7_multiply 64 = .ok (.lload 6, 2) := by decide +kernel
theorem dX7_multiply_66 : decode cX7_multiply 66 = .ok (.invokevirtual 108, 3) := by decide +kernel
theorem dX7_multiply_69 : decode cX7_multiply 69 = .ok (.goto 166, 3) := by decide +kernel
theorem dX7_multiply_72 : decode cX7_multiply 72 = .ok (.iload 8, 2) := by decide +kernel
theorem dX7_multiply_74 : decode cX7_multiply 74 = .ok (.iconst 3, 1) := by decide +kernel
theorem dX7_multiply_75 : decode cX7_multiply 75 = .ok (.if_icmp .ge 24, 3) := by decide +kernel
theorem dX7_multiply_78 : decode cX7_multiply 78 = .ok (.aload_n 0, 1) := by decide +kernel
theorem dX7_multiply_79 : decode cX7_multiply 79 = .ok (.bipush 8, 2) := by decide +kernel
theorem dX7_multiply_81 : decode cX7_multiply 81 = .ok (.iload 8, 2) := by decide +kernel
theorem dX7_multiply_83 : decode cX7_multiply 83 = .ok (.iload 10, 2) := by decide +kernel
theorem dX7_multiply_85 : decode cX7_multiply 85 = .ok (.iload 11, 2) := by decide +kernel
theorem dX7_multiply_87 : decode cX7_multiply 87 = .ok (.iadd, 1) := by decide +kernel
theorem dX7_multiply_88 : decode cX7_multiply 88 = .ok (.iload_n 3, 1) := by decide +kernel
theorem dX7_multiply_89 : decode cX7_multiply 89 = .ok (.lload 4, 2) := by decide +kernel
theorem dX7_multiply_91 : decode cX7_multiply 91 = .ok (.lload 6, 2) := by decide +kernel
theorem dX7_multiply_93 : decode cX7_multiply 93 = .ok (.invokevirtual 108, 3) := by decide +kernel
theorem dX7_multiply_96 : decode cX7_multiply 96 = .ok (.goto 139, 3) := by decide +kernel
theorem dX7_multiply_99 : decode cX7_multiply 99 = .ok (.iload 8, 2) := by decide +kernel
theorem dX7_multiply_101 : decode cX7_multiply 101 = .ok (.iload 9, 2) := by decide +kernel
theorem dX7_multiply_103 : decode cX7_multiply 103 = .ok (.if_icmp .ne 60, 3) := by decide +kernel
theorem dX7_multiply_106 : decode cX7_multiply 106 = .ok (.aload_n 0, 1) := by decide +kernel
theorem dX7_multiply_107 : decode cX7_multiply 107 = .ok (.bipush 8, 2) := by decide +kernel
theorem dX7_multiply_109 : decode cX7_multiply 109 = .ok (.iconst 4, 1) := by decide +kernel
theorem dX7_multiply_110 : decode cX7_multiply 110 = .ok (.iload 10, 2) := by decide +kernel
theorem dX7_multiply_112 : decode cX7_multiply 112 = .ok (.iload 11, 2) := by decide +kernel
theorem dX7_multiply_114 : decode cX7_multiply 114 = .ok (.isub, 1) := by decide +kernel
theorem dX7_multiply_115 : decode cX7_multiply 115 = .ok (.iload_n 3, 1) := by decide +kernel
theorem dX7_multiply_116 : decode cX7_multiply 116 = .ok (.lload 4, 2) := by decide +kernel
theorem dX7_multiply_118 : decode cX7_multiply 118 = .ok (.ldc2_w 158, 3) := by decide +kernel
theorem dX7_multiply_121 : decode cX7_multiply 121 = .ok (.lload 6, 2) := by decide +kernel
theorem dX7_multiply_123 : decode cX7_multiply 123 = .ok (.lmul, 1) := by decide +kernel
theorem dX7_multiply_124 : decode cX7_multiply 124 = .ok (.invokevirtual 108, 3) := by decide +kernel
theorem dX7_multiply_127 : decode cX7_multiply 127 = .ok (.aload_n 0, 1) := by decide +kernel
theorem dX7_multiply_128 : decode cX7_multiply 128 = .ok (.bipush 8, 2) := by decide +kernel
theorem dX7_multiply_130 : decode cX7_multiply 130 = .ok (.iconst 4, 1) := by decide +kernel
theorem dX7_multiply_131 : decode cX7_multiply 131 = .ok (.iload 10, 2) := by decide +kernel
theorem dX7_multiply_133 : decode cX7_multiply 133 = .ok (.iload 11, 2) := by decide +kernel
theorem dX7_multiply_135 : decode cX7_multiply 135 = .ok (.iadd, 1) := by decide +kernel
theorem dX7_multiply_136 : decode cX7_multiply 136 = .ok (.iload_n 3, 1) := by decide +kernel
theorem dX7_multiply_137 : decode cX7_multiply 137 = .ok (.iload 8, 2) := by decide +kernel
theorem dX7_multiply_139 : decode cX7_multiply 139 = .ok (.iconst 3, 1) := by decide +kernel
theorem dX7_multiply_140 : decode cX7_multiply 140 = .ok (.if_icmp .ne 9, 3) := by decide +kernel
theorem dX7_multiply_143 : decode cX7_multiply 143 = .ok (.lload 4, 2) := by decide +kernel
theorem dX7_multiply_145 : decode cX7_multiply 145 = .ok (.lneg, 1) := by decide +kernel
theorem dX7_multiply_146 : decode cX7_multiply 146 = .ok (.goto 5, 3) := by decide +kernel
theorem dX7_multiply_149 : decode cX7_multiply 149 = .ok (.lload 4, 2) := by decide +kernel
theorem dX7_multiply_151 : decode cX7_multiply 151 = .ok (.ldc2_w 158, 3) := by decide +kernel
theorem dX7_multiply_154 : decode cX7_multiply 154 = .ok (.lload 6, 2) := by decide +kernel
theorem dX7_multiply_156 : decode cX7_multiply 156 = .ok (.lmul, 1) := by decide +kernel
theorem dX7_multiply_157 : decode cX7_multiply 157 = .ok (.invokevirtual 108, 3) := by decide +kernel
theorem dX7_multiply_160 : decode cX7_multiply 160 = .ok (.goto 75, 3) := by decide +kernel
theorem dX7_multiply_163 : decode cX7_multiply 163 = .ok (.iload 8, 2) := by decide +kernel
theorem dX7_multiply_165 : decode cX7_multiply 165 = .ok (.iconst 3, 1) := by decide +kernel
theorem dX7_multiply_166 : decode cX7_multiply 166 = .ok (.if_icmp .ne 8, 3) := by decide +kernel
theorem dX7_multiply_169 : decode cX7_multiply 169 = .ok (.iload 10, 2) := by decide +kernel
theorem dX7_multiply_171 : decode cX7_multiply 171 = .ok (.goto 5, 3) := by decide +kernel
theorem dX7_multiply_174 : decode cX7_multiply 174 = .ok (.iload 11, 2) := by decide +kernel
theorem dX7_multiply_176 : decode cX7_multiply 176 = .ok (.istore 12, 2) := by decide +kernel
theorem dX7_multiply_178 : decode cX7_multiply 178 = .ok (.iload 8, 2) := by decide +kernel
theorem dX7_multiply_180 : decode cX7_multiply 180 = .ok (.iconst 3, 1) := by decide +kernel
theorem dX7_multiply_181 : decode cX7_multiply 181 = .ok (.if_icmp .ne 8, 3) := by decide +kernel
theorem dX7_multiply_184 : decode cX7_multiply 184 = .ok (.iload 11, 2) := by decide +kernel
theorem dX7_multiply_186 : decode cX7_multiply 186 = .ok (.goto 5, 3) := by decide +kernel
theorem dX7_multiply_189 : decode cX7_multiply 189 = .ok (.iload 10, 2) := by decide +kernel
theorem dX7_multiply_191 : decode cX7_multiply 191 = .ok (.istore 13, 2) := by decide +kernel
theorem dX7_multiply_193 : decode cX7_multiply 193 = .ok (.aload_n 0, 1) := by decide +kernel
theorem dX7_multiply_194 : decode cX7_multiply 194 = .ok (.bipush 8, 2) := by decide +kernel
theorem dX7_multiply_196 : decode cX7_multiply 196 = .ok (.iconst 3, 1) := by decide +kernel
theorem dX7_multiply_197 : decode cX7_multiply 197 = .ok (.iload 12, 2) := by decide +kernel
theorem dX7_multiply_199 : decode cX7_multiply 199 = .ok (.iload 13, 2) := by decide +kernel
theorem dX7_multiply_201 : decode cX7_multiply 201 = .ok (.iadd, 1) := by decide +kernel
theorem dX7_multiply_202 : decode cX7_multiply 202 = .ok (.iload_n 3, 1) := by decide +kernel
theorem dX7_multiply_203 : decode cX7_multiply 203 = .ok (.lload 4, 2) := by decide +kernel
theorem dX7_multiply_205 : decode cX7_multiply 205 = .ok (.ldc2_w 158, 3) := by decide +kernel
theorem dX7_multiply_208 : decode cX7_multiply 208 = .ok (.lload 6, 2) := by decide +kernel
theorem dX7_multiply_210 : decode cX7_multiply 210 = .ok (.lmul, 1) := by decide +kernel
theorem dX7_multiply_211 : decode cX7_multiply 211 = .ok (.invokevirtual 108, 3) := by decide +kernel
theorem dX7_multiply_214 : decode cX7_multiply 214 = .ok (.aload_n 0, 1) := by decide +kernel
theorem dX7_multiply_215 : decode cX7_multiply 215 = .ok (.bipush 8, 2) := by decide +kernel
theorem dX7_multiply_217 : decode cX7_multiply 217 = .ok (.iconst 3, 1) := by decide +kernel
theorem dX7_multiply_218 : decode cX7_multiply 218 = .ok (.iload 12, 2) := by decide +kernel
theorem dX7_multiply_220 : decode cX7_multiply 220 = .ok (.iload 13, 2) := by decide +kernel
theorem dX7_multiply_222 : decode cX7_multiply 222 = .ok (.isub, 1) := by decide +kernel
theorem dX7_multiply_223 : decode cX7_multiply 223 = .ok (.iload_n 3, 1) := by decide +kernel
theorem dX7_multiply_224 : decode cX7_multiply 224 = .ok (.lload 4, 2) := by decide +kernel
theorem dX7_multiply_226 : decode cX7_multiply 226 = .ok (.ldc2_w 158, 3) := by decide +kernel
theorem dX7_multiply_229 : decode cX7_multiply 229 = .ok (.lload 6, 2) := by decide +kernel
theorem dX7_multiply_231 : decode cX7_multiply 231 = .ok (.lmul, 1) := by decide +kernel
theorem dX7_multiply_232 : decode cX7_multiply 232 = .ok (.invokevirtual 108, 3) := by decide +kernel
theorem dX7_multiply_235 : decode cX7_multiply 235 = .ok (.return_, 1) := by decide +kernel
theorem dX7_times_0 : decode cX7_times 0 = .ok (.iload_n 1, 1) := by decide +kernel
theorem dX7_times_1 : decode cX7_times 1 = .ok (.invokestatic 115, 3) := by decide +kernel
theorem dX7_times_4 : decode cX7_times 4 = .ok (.ifCond .eq 21, 3) := by decide +kernel
theorem dX7_times_7 : decode cX7_times 7 = .ok (.iload_n 2, 1) := by decide +kernel
theorem dX7_times_8 : decode cX7_times 8 = .ok (.invokestatic 115, 3) := by decide +kernel
theorem dX7_times_11 : decode cX7_times 11 = .ok (.ifCond .eq 14, 3) := by decide +kernel
theorem dX7_times_14 : decode cX7_times 14 = .ok (.iload_n 3, 1) := by decide +kernel
theorem dX7_times_15 : decode cX7_times 15 = .ok (.invokestatic 115, 3) := by decide +kernel
theorem dX7_times_18 : decode cX7_times 18 = .ok (.ifCond .eq 7, 3) := by decide +kernel
theorem dX7_times_21 : decode cX7_times 21 = .ok (.iconst 1, 1) := by decide +kernel
theorem dX7_times_22 : decode cX7_times 22 = .ok (.goto 4, 3) := by decide +kernel
theorem dX7_times_25 : decode cX7_times 25 = .ok (.iconst 0, 1) := by decide +kernel
theorem dX7_times_26 : decode cX7_times 26 = .ok (.istore 4, 2) := by decide +kernel
theorem dX7_times_28 : decode cX7_times 28 = .ok (.aload_n 0, 1) := by decide +kernel
theorem dX7_times_29 : decode cX7_times 29 = .ok (.iload 4, 2) := by decide +kernel
theorem dX7_times_31 : decode cX7_times 31 = .ok (.ifCond .ne 7, 3) := by decide +kernel
theorem dX7_times_34 : decode cX7_times 34 = .ok (.iconst 1, 1) := by decide +kernel
theorem dX7_times_35 : decode cX7_times 35 = .ok (.goto 24, 3) := by decide +kernel
theorem dX7_times_38 : decode cX7_times 38 = .ok (.aload_n 0, 1) := by decide +kernel
theorem dX7_times_39 : decode cX7_times 39 = .ok (.iload_n 2, 1) := by decide +kernel
theorem dX7_times_40 : decode cX7_times 40 = .ok (.invokevirtual 155, 3) := by decide +kernel
theorem dX7_times_43 : decode cX7_times 43 = .ok (.ifCond .eq 11, 3) := by decide +kernel
theorem dX7_times_46 : decode cX7_times 46 = .ok (.aload_n 0, 1) := by decide +kernel
theorem dX7_times_47 : decode cX7_times 47 = .ok (.iload_n 3, 1) := by decide +kernel
theorem dX7_times_48 : decode cX7_times 48 = .ok (.invokevirtual 155, 3) := by decide +kernel
theorem dX7_times_51 : decode cX7_times 51 = .ok (.ifCond .ne 7, 3) := by decide +kernel
theorem dX7_times_54 : decode cX7_times 54 = .ok (.iconst 2, 1) := by decide +kernel
theorem dX7_times_55 : decode cX7_times 55 = .ok (.goto 4, 3) := by decide +kernel
theorem dX7_times_58 : decode cX7_times 58 = .ok (.iconst 0, 1) := by decide +kernel
theorem dX7_times_59 : decode cX7_times 59 = .ok (.invokevirtual 78, 3) := by decide +kernel
theorem dX7_times_62 : decode cX7_times 62 = .ok (.ifCond .eq 5, 3) := by decide +kernel
theorem dX7_times_65 : decode cX7_times 65 = .ok (.iconst 0, 1) := by decide +kernel
theorem dX7_times_66 : decode cX7_times 66 = .ok (.ireturn, 1) := by decide +kernel
theorem dX7_times_67 : decode cX7_times 67 = .ok (.aload_n 0, 1) := by decide +kernel
theorem dX7_times_68 : decode cX7_times 68 = .ok (.iload_n 2, 1) := by decide +kernel
theorem dX7_times_69 : decode cX7_times 69 = .ok (.invokevirtual 48, 3) := by decide +kernel
theorem dX7_times_72 : decode cX7_times 72 = .ok (.aload_n 0, 1) := by decide +kernel
theorem dX7_times_73 : decode cX7_times 73 = .ok (.iload_n 3, 1) := by decide +kernel
theorem dX7_times_74 : decode cX7_times 74 = .ok (.invokevirtual 48, 3) := by decide +kernel
theorem dX7_times_77 : decode cX7_times 77 = .ok (.imul, 1) := by decide +kernel
theorem dX7_times_78 : decode cX7_times 78 = .ok (.bipush 100, 2) := by decide +kernel
theorem dX7_times_80 : decode cX7_times 80 = .ok (.if_icmp .le 6, 3) := by decide +kernel
theorem dX7_times_83 : decode cX7_times 83 = .ok (.bipush (-4), 2) := by decide +kernel
theorem dX7_times_85 : decode cX7_times 85 = .ok (.ireturn, 1) := by decide +kernel
theorem dX7_times_86 : decode cX7_times 86 = .ok (.aload_n 0, 1) := by decide +kernel
theorem dX7_times_87 : decode cX7_times 87 = .ok (.iconst 0, 1) := by decide +kernel
theorem dX7_times_88 : decode cX7_times 88 = .ok (.putfield 30, 3) := by decide +kernel
theorem dX7_times_91 : decode cX7_times 91 = .ok (.aload_n 0, 1) := by decide +kernel
theorem dX7_times_92 : decode cX7_times 92 = .ok (.bipush 8, 2) := by decide +kernel
theorem dX7_times_94 : decode cX7_times 94 = .ok (.invokevirtual 118, 3) := by decide +kernel
theorem dX7_times_97 : decode cX7_times 97 = .ok (.iconst 0, 1) := by decide +kernel
theorem dX7_times_98 : decode cX7_times 98 = .ok (.istore 5, 2) := by decide +kernel
theorem dX7_times_100 : decode cX7_times 100 = .ok (.iconst 0, 1) := by decide +kernel
theorem dX7_times_101 : decode cX7_times 101 = .ok (.istore 6, 2) := by decide +kernel
theorem dX7_times_103 : decode cX7_times 103 = .ok (.iload 6, 2) := by decide +kernel
theorem dX7_times_105 : decode cX7_times 105 = .ok (.sipush 1150, 3) := by decide +kernel
theorem dX7_times_108 : decode cX7_times 108 = .ok (.if_icmp .ge 193, 3) := by decide +kernel
theorem dX7_times_111 : decode cX7_times 111 = .ok (.iconst 0, 1) := by decide +kernel
theorem dX7_times_112 : decode cX7_times 112 = .ok (.istore 7, 2) := by decide +kernel
theorem dX7_times_114 : decode cX7_times 114 = .ok (.iload 7, 2) := by decide +kernel
theorem dX7_times_116 : decode cX7_times 116 = .ok (.sipush 1150, 3) := by decide +kernel
theorem dX7_times_119 : decode cX7_times 119 = .ok (.if_icmp .ge 176, 3) := by decide +kernel
theorem dX7_times_122 : decode cX7_times 122 = .ok (.aload_n 0, 1) := by decide +kernel
theorem dX7_times_123 : decode cX7_times 123 = .ok (.getfield 20, 3) := by decide +kernel
theorem dX7_times_126 : decode cX7_times 126 = .ok (.sipush 1150, 3) := by decide +kernel
theorem dX7_times_129 : decode cX7_times 129 = .ok (.iload_n 2, 1) := by decide +kernel
theorem dX7_times_130 : decode cX7_times 130 = .ok (.imul, 1) := by decide +kernel
theorem dX7_times_131 : decode cX7_times 131 = .ok (.iload 6, 2) := by decide +kernel
theorem dX7_times_133 : decode cX7_times 133 = .ok (.iadd, 1) := by decide +kernel
theorem dX7_times_134 : decode cX7_times 134 = .ok (.laload, 1) := by decide +kernel
theorem dX7_times_135 : decode cX7_times 135 = .ok (.lconst 0, 1) := by decide +kernel
theorem dX7_times_136 : decode cX7_times 136 = .ok (.lcmp, 1) := by decide +kernel
theorem dX7_times_137 : decode cX7_times 137 = .ok (.ifCond .eq 158, 3) := by decide +kernel
theorem dX7_times_140 : decode cX7_times 140 = .ok (.aload_n 0, 1) := by decide +kernel
theorem dX7_times_141 : decode cX7_times 141 = .ok (.getfield 20, 3) := by decide +kernel
theorem dX7_times_144 : decode cX7_times 144 = .ok (.sipush 1150, 3) := by decide +kernel
theorem dX7_times_147 : decode cX7_times 147 = .ok (.iload_n 3, 1) := by decide +kernel
theorem dX7_times_148 : decode cX7_times 148 = .ok (.imul, 1) := by decide +kernel
theorem dX7_times_149 : decode cX7_times 149 = .ok (.iload 7, 2) := by decide +kernel
theorem dX7_times_151 : decode cX7_times 151 = .ok (.iadd, 1) := by decide +kernel
theorem dX7_times_152 : decode cX7_times 152 = .ok (.laload, 1) := by decide +kernel
theorem dX7_times_153 : decode cX7_times 153 = .ok (.lconst 0, 1) := by decide +kernel
theorem dX7_times_154 : decode cX7_times 154 = .ok (.lcmp, 1) := by decide +kernel
theorem dX7_times_155 : decode cX7_times 155 = .ok (.ifCond .ne 6, 3) := by decide +kernel
theorem dX7_times_158 : decode cX7_times 158 = .ok (.goto 131, 3) := by decide +kernel
theorem dX7_times_161 : decode cX7_times 161 = .ok (.iload 6, 2) := by decide +kernel
theorem dX7_times_163 : decode cX7_times 163 = .ok (.bipush 25, 2) := by decide +kernel
theorem dX7_times_165 : decode cX7_times 165 = .ok (.idiv, 1) := by decide +kernel
theorem dX7_times_166 : decode cX7_times 166 = .ok (.istore 8, 2) := by decide +kernel
theorem dX7_times_168 : decode cX7_times 168 = .ok (.iload 7, 2) := by decide +kernel
theorem dX7_times_170 : decode cX7_times 170 = .ok (.bipush 25, 2) := by decide +kernel
theorem dX7_times_172 : decode cX7_times 172 = .ok (.idiv, 1) := by decide +kernel
theorem dX7_times_173 : decode cX7_times 173 = .ok (.istore 9, 2) := by decide +kernel
theorem dX7_times_175 : decode cX7_times 175 = .ok (.iload 8, 2) := by decide +kernel
theorem dX7_times_177 : decode cX7_times 177 = .ok (.invokestatic 141, 3) := by decide +kernel
theorem dX7_times_180 : decode cX7_times 180 = .ok (.iload 9, 2) := by decide +kernel
theorem dX7_times_182 : decode cX7_times 182 = .ok (.invokestatic 141, 3) := by decide +kernel
theorem dX7_times_185 : decode cX7_times 185 = .ok (.invokestatic 160, 3) := by decide +kernel
theorem dX7_times_188 : decode cX7_times 188 = .ok (.ifCond .ne 19, 3) := by decide +kernel
theorem dX7_times_191 : decode cX7_times 191 = .ok (.iload 9, 2) := by decide +kernel
theorem dX7_times_193 : decode cX7_times 193 = .ok (.invokestatic 141, 3) := by decide +kernel
theorem dX7_times_196 : decode cX7_times 196 = .ok (.iload 8, 2) := by decide +kernel
theorem dX7_times_198 : decode cX7_times 198 = .ok (.invokestatic 141, 3) := by decide +kernel
theorem dX7_times_201 : decode cX7_times 201 = .ok (.invokestatic 160, 3) := by decide +kernel
theorem dX7_times_204 : decode cX7_times 204 = .ok (.ifCond .eq 9, 3) := by decide +kernel
theorem dX7_times_207 : decode cX7_times 207 = .ok (.iconst 1, 1) := by decide +kernel
theorem dX7_times_208 : decode cX7_times 208 = .ok (.istore 5, 2) := by decide +kernel
theorem dX7_times_210 : decode cX7_times 210 = .ok (.goto 79, 3) := by decide +kernel
theorem dX7_times_213 : decode cX7_times 213 = .ok (.aload_n 0, 1) := by decide +kernel
theorem dX7_times_214 : decode cX7_times 214 = .ok (.iload 8, 2) := by decide +kernel
theorem dX7_times_216 : decode cX7_times 216 = .ok (.iload 9, 2) := by decide +kernel
theorem dX7_times_218 : decode cX7_times 218 = .ok (.iload 6, 2) := by decide +kernel
theorem dX7_times_220 : decode cX7_times 220 = .ok (.bipush 25, 2) := by decide +kernel
theorem dX7_times_222 : decode cX7_times 222 = .ok (.irem, 1) := by decide +kernel
theorem dX7_times_223 : decode cX7_times 223 = .ok (.iload 7, 2) := by decide +kernel
theorem dX7_times_225 : decode cX7_times 225 = .ok (.bipush 25, 2) := by decide +kernel
theorem dX7_times_227 : decode cX7_times 227 = .ok (.irem, 1) := by decide +kernel
theorem dX7_times_228 : decode cX7_times 228 = .ok (.iadd, 1) := by decide +kernel
theorem dX7_times_229 : decode cX7_times 229 = .ok (.bipush 24, 2) := by decide +kernel
theorem dX7_times_231 : decode cX7_times 231 = .ok (.isub, 1) := by decide +kernel
theorem dX7_times_232 : decode cX7_times 232 = .ok (.aload_n 0, 1) := by decide +kernel
theorem dX7_times_233 : decode cX7_times 233 = .ok (.getfield 20, 3) := by decide +kernel
theorem dX7_times_236 : decode cX7_times 236 = .ok (.sipush 1150, 3) := by decide +kernel
theorem dX7_times_239 : decode cX7_times 239 = .ok (.iload_n 2, 1) := by decide +kernel
theorem dX7_times_240 : decode cX7_times 240 = .ok (.imul, 1) := by decide +kernel
theorem dX7_times_241 : decode cX7_times 241 = .ok (.iload 6, 2) := by decide +kernel
theorem dX7_times_243 : decode cX7_times 243 = .ok (.iadd, 1) := by decide +kernel
theorem dX7_times_244 : decode cX7_times 244 = .ok (.laload, 1) := by decide +kernel
theorem dX7_times_245 : decode cX7_times 245 = .ok (.aload_n 0, 1) := by decide +kernel
theorem dX7_times_246 : decode cX7_times 246 = .ok (.getfield 20, 3) := by decide +kernel
theorem dX7_times_249 : decode cX7_times 249 = .ok (.sipush 1150, 3) := by decide +kernel
theorem dX7_times_252 : decode cX7_times 252 = .ok (.iload_n 3, 1) := by decide +kernel
theorem dX7_times_253 : decode cX7_times 253 = .ok (.imul, 1) := by decide +kernel
theorem dX7_times_254 : decode cX7_times 254 = .ok (.iload 7, 2) := by decide +kernel
theorem dX7_times_256 : decode cX7_times 256 = .ok (.iadd, 1) := by decide +kernel
theorem dX7_times_257 : decode cX7_times 257 = .ok (.laload, 1) := by decide +kernel
theorem dX7_times_258 : decode cX7_times 258 = .ok (.lmul, 1) := by decide +kernel
theorem dX7_times_259 : decode cX7_times 259 = .ok (.aload_n 0, 1) := by decide +kernel
theorem dX7_times_260 : decode cX7_times 260 = .ok (.getfield 24, 3) := by decide +kernel
theorem dX7_times_263 : decode cX7_times 263 = .ok (.sipush 1150, 3) := by decide +kernel
theorem dX7_times_266 : decode cX7_times 266 = .ok (.iload_n 2, 1) := by decide +kernel
theorem dX7_times_267 : decode cX7_times 267 = .ok (.imul, 1) := by decide +kernel
theorem dX7_times_268 : decode cX7_times 268 = .ok (.iload 6, 2) := by decide +kernel
theorem dX7_times_270 : decode cX7_times 270 = .ok (.iadd, 1) := by decide +kernel
theorem dX7_times_271 : decode cX7_times 271 = .ok (.laload, 1) := by decide +kernel
theorem dX7_times_272 : decode cX7_times 272 = .ok (.aload_n 0, 1) := by decide +kernel
theorem dX7_times_273 : decode cX7_times 273 = .ok (.getfield 24, 3) := by decide +kernel
theorem dX7_times_276 : decode cX7_times 276 = .ok (.sipush 1150, 3) := by decide +kernel
theorem dX7_times_279 : decode cX7_times 279 = .ok (.iload_n 3, 1) := by decide +kernel
theorem dX7_times_280 : decode cX7_times 280 = .ok (.imul, 1) := by decide +kernel
theorem dX7_times_281 : decode cX7_times 281 = .ok (.iload 7, 2) := by decide +kernel
theorem dX7_times_283 : decode cX7_times 283 = .ok (.iadd, 1) := by decide +kernel
theorem dX7_times_284 : decode cX7_times 284 = .ok (.laload, 1) := by decide +kernel
theorem dX7_times_285 : decode cX7_times 285 = .ok (.lmul, 1) := by decide +kernel
theorem dX7_times_286 : decode cX7_times 286 = .ok (.invokevirtual 164, 3) := by decide +kernel
theorem dX7_times_289 : decode cX7_times 289 = .ok (.iinc 7 1, 3) := by decide +kernel
theorem dX7_times_292 : decode cX7_times 292 = .ok (.goto (-178), 3) := by decide +kernel
theorem dX7_times_295 : decode cX7_times 295 = .ok (.iinc 6 1, 3) := by decide +kernel
theorem dX7_times_298 : decode cX7_times 298 = .ok (.goto (-195), 3) := by decide +kernel
theorem dX7_times_301 : decode cX7_times 301 = .ok (.iload 5, 2) := by decide +kernel
theorem dX7_times_303 : decode cX7_times 303 = .ok (.ifCond .eq 8, 3) := by decide +kernel
theorem dX7_times_306 : decode cX7_times 306 = .ok (.bipush (-5), 2) := by decide +kernel
theorem dX7_times_308 : decode cX7_times 308 = .ok (.goto 8, 3) := by decide +kernel
theorem dX7_times_311 : decode cX7_times 311 = .ok (.aload_n 0, 1) := by decide +kernel
theorem dX7_times_312 : decode cX7_times 312 = .ok (.iload_n 1, 1) := by decide +kernel
theorem dX7_times_313 : decode cX7_times 313 = .ok (.invokevirtual 126, 3) := by decide +kernel
theorem dX7_times_316 : decode cX7_times 316 = .ok (.ireturn, 1) := by decide +kernel
theorem dX7_derive_0 : decode cX7_derive 0 = .ok (.aload_n 0, 1) := by decide +kernel
theorem dX7_derive_1 : decode cX7_derive 1 = .ok (.iload_n 1, 1) := by decide +kernel
theorem dX7_derive_2 : decode cX7_derive 2 = .ok (.invokestatic 115, 3) := by decide +kernel
theorem dX7_derive_5 : decode cX7_derive 5 = .ok (.ifCond .eq 14, 3) := by decide +kernel
theorem dX7_derive_8 : decode cX7_derive 8 = .ok (.iload_n 2, 1) := by decide +kernel
theorem dX7_derive_9 : decode cX7_derive 9 = .ok (.invokestatic 115, 3) := by decide +kernel
theorem dX7_derive_12 : decode cX7_derive 12 = .ok (.ifCond .eq 7, 3) := by decide +kernel
theorem dX7_derive_15 : decode cX7_derive 15 = .ok (.iconst 0, 1) := by decide +kernel
theorem dX7_derive_16 : decode cX7_derive 16 = .ok (.goto 4, 3) := by decide +kernel
theorem dX7_derive_19 : decode cX7_derive 19 = .ok (.iconst 1, 1) := by decide +kernel
theorem dX7_derive_20 : decode cX7_derive 20 = .ok (.invokevirtual 78, 3) := by decide +kernel
theorem dX7_derive_23 : decode cX7_derive 23 = .ok (.ifCond .eq 5, 3) := by decide +kernel
theorem dX7_derive_26 : decode cX7_derive 26 = .ok (.iconst 0, 1) := by decide +kernel
theorem dX7_derive_27 : decode cX7_derive 27 = .ok (.ireturn, 1) := by decide +kernel
theorem dX7_derive_28 : decode cX7_derive 28 = .ok (.aload_n 0, 1) := by decide +kernel
theorem dX7_derive_29 : decode cX7_derive 29 = .ok (.iconst 0, 1) := by decide +kernel
theorem dX7_derive_30 : decode cX7_derive 30 = .ok (.putfield 30, 3) := by decide +kernel
theorem dX7_derive_33 : decode cX7_derive 33 = .ok (.aload_n 0, 1) := by decide +kernel
theorem dX7_derive_34 : decode cX7_derive 34 = .ok (.bipush 8, 2) := by decide +kernel
theorem dX7_derive_36 : decode cX7_derive 36 = .ok (.invokevirtual 118, 3) := by decide +kernel
theorem dX7_derive_39 : decode cX7_derive 39 = .ok (.iconst 0, 1) := by decide +kernel
theorem dX7_derive_40 : decode cX7_derive 40 = .ok (.istore_n 3, 1) := by decide +kernel
theorem dX7_derive_41 : decode cX7_derive 41 = .ok (.iload_n 3, 1) := by decide +kernel
theorem dX7_derive_42 : decode cX7_derive 42 = .ok (.sipush 1150, 3) := by decide +kernel
theorem dX7_derive_45 : decode cX7_derive 45 = .ok (.if_icmp .ge 207, 3) := by decide +kernel
theorem dX7_derive_48 : decode cX7_derive 48 = .ok (.aload_n 0, 1) := by decide +kernel
theorem dX7_derive_49 : decode cX7_derive 49 = .ok (.getfield 20, 3) := by decide +kernel
theorem dX7_derive_52 : decode cX7_derive 52 = .ok (.sipush 1150, 3) := by decide +kernel
theorem dX7_derive_55 : decode cX7_derive 55 = .ok (.iload_n 2, 1) := by decide +kernel
theorem dX7_derive_56 : decode cX7_derive 56 = .ok (.imul, 1) := by decide +kernel
theorem dX7_derive_57 : decode cX7_derive 57 = .ok (.iload_n 3, 1) := by decide +kernel
theorem dX7_derive_58 : decode cX7_derive 58 = .ok (.iadd, 1) := by decide +kernel
theorem dX7_derive_59 : decode cX7_derive 59 = .ok (.laload, 1) := by decide +kernel
theorem dX7_derive_60 : decode cX7_derive 60 = .ok (.lstore 4, 2) := by decide +kernel
theorem dX7_derive_62 : decode cX7_derive 62 = .ok (.aload_n 0, 1) := by decide +kernel
theorem dX7_derive_63 : decode cX7_derive 63 = .ok (.getfield 24, 3) := by decide +kernel
theorem dX7_derive_66 : decode cX7_derive 66 = .ok (.sipush 1150, 3) := by decide +kernel
theorem dX7_derive_69 : decode cX7_derive 69 = .ok (.iload_n 2, 1) := by decide +kernel
theorem dX7_derive_70 : decode cX7_derive 70 = .ok (.imul, 1) := by decide +kernel
theorem dX7_derive_71 : decode cX7_derive 71 = .ok (.iload_n 3, 1) := by decide +kernel
theorem dX7_derive_72 : decode cX7_derive 72 = .ok (.iadd, 1) := by decide +kernel
theorem dX7_derive_73 : decode cX7_derive 73 = .ok (.laload, 1) := by decide +kernel
theorem dX7_derive_74 : decode cX7_derive 74 = .ok (.lstore 6, 2) := by decide +kernel
theorem dX7_derive_76 : decode cX7_derive 76 = .ok (.iload_n 3, 1) := by decide +kernel
theorem dX7_derive_77 : decode cX7_derive 77 = .ok (.bipush 25, 2) := by decide +kernel
theorem dX7_derive_79 : decode cX7_derive 79 = .ok (.irem, 1) := by decide +kernel
theorem dX7_derive_80 : decode cX7_derive 80 = .ok (.bipush 12, 2) := by decide +kernel
theorem dX7_derive_82 : decode cX7_derive 82 = .ok (.isub, 1) := by decide +kernel
theorem dX7_derive_83 : decode cX7_derive 83 = .ok (.istore 8, 2) := by decide +kernel
theorem dX7_derive_85 : decode cX7_derive 85 = .ok (.iload_n 3, 1) := by decide +kernel
theorem dX7_derive_86 : decode cX7_derive 86 = .ok (.bipush 25, 2) := by decide +kernel
theorem dX7_derive_88 : decode cX7_derive 88 = .ok (.idiv, 1) := by decide +kernel
theorem dX7_derive_89 : decode cX7_derive 89 = .ok (.invokestatic 141, 3) := by decide +kernel
theorem dX7_derive_92 : decode cX7_derive 92 = .ok (.istore 9, 2) := by decide +kernel
theorem dX7_derive_94 : decode cX7_derive 94 = .ok (.iload_n 3, 1) := by decide +kernel
theorem dX7_derive_95 : decode cX7_derive 95 = .ok (.bipush 25, 2) := by decide +kernel
theorem dX7_derive_97 : decode cX7_derive 97 = .ok (.idiv, 1) := by decide +kernel
theorem dX7_derive_98 : decode cX7_derive 98 = .ok (.invokestatic 63, 3) := by decide +kernel
theorem dX7_derive_101 : decode cX7_derive 101 = .ok (.istore 10, 2) := by decide +kernel
theorem dX7_derive_103 : decode cX7_derive 103 = .ok (.lload 4, 2) := by decide +kernel
theorem dX7_derive_105 : decode cX7_derive 105 = .ok (.lconst 0, 1) := by decide +kernel
theorem dX7_derive_106 : decode cX7_derive 106 = .ok (.lcmp, 1) := by decide +kernel
theorem dX7_derive_107 : decode cX7_derive 107 = .ok (.ifCond .ne 6, 3) := by decide +kernel
theorem dX7_derive_110 : decode cX7_derive 110 = .ok (.goto 136, 3) := by decide +kernel
theorem dX7_derive_113 : decode cX7_derive 113 = .ok (.aload_n 0, 1) := by decide +kernel
theorem dX7_derive_114 : decode cX7_derive 114 = .ok (.bipush 8, 2) := by decide +kernel
theorem dX7_derive_116 : decode cX7_derive 116 = .ok (.iload 9, 2) := by decide +kernel
theorem dX7_derive_118 : decode cX7_derive 118 = .ok (.iload 10, 2) := by decide +kernel
theorem dX7_derive_120 : decode cX7_derive 120 = .ok (.iload 8, 2) := by decide +kernel
theorem dX7_derive_122 : decode cX7_derive 122 = .ok (.iconst 1, 1) := by decide +kernel
theorem dX7_derive_123 : decode cX7_derive 123 = .ok (.isub, 1) := by decide +kernel
theorem dX7_derive_124 : decode cX7_derive 124 = .ok (.lload 4, 2) := by decide +kernel
theorem dX7_derive_126 : decode cX7_derive 126 = .ok (.iload 8, 2) := by decide +kernel
theorem dX7_derive_128 : decode cX7_derive 128 = .ok (.i2l, 1) := by decide +kernel
theorem dX7_derive_129 : decode cX7_derive 129 = .ok (.lmul, 1) := by decide +kernel
theorem dX7_derive_130 : decode cX7_derive 130 = .ok (.lload 6, 2) := by decide +kernel
theorem dX7_derive_132 : decode cX7_derive 132 = .ok (.invokevirtual 108, 3) := by decide +kernel
theorem dX7_derive_135 : decode cX7_derive 135 = .ok (.iload 9, 2) := by decide +kernel
theorem dX7_derive_137 : decode cX7_derive 137 = .ok (.iconst 1, 1) := by decide +kernel
theorem dX7_derive_138 : decode cX7_derive 138 = .ok (.if_icmp .ne 29, 3) := by decide +kernel
theorem dX7_derive_141 : decode cX7_derive 141 = .ok (.aload_n 0, 1) := by decide +kernel
theorem dX7_derive_142 : decode cX7_derive 142 = .ok (.bipush 8, 2) := by decide +kernel
theorem dX7_derive_144 : decode cX7_derive 144 = .ok (.iconst 1, 1) := by decide +kernel
theorem dX7_derive_145 : decode cX7_derive 145 = .ok (.iload 10, 2) := by decide +kernel
theorem dX7_derive_147 : decode cX7_derive 147 = .ok (.iconst 1, 1) := by decide +kernel
theorem dX7_derive_148 : decode cX7_derive 148 = .ok (.isub, 1) := by decide +kernel
theorem dX7_derive_149 : decode cX7_derive 149 = .ok (.iload 8, 2) := by decide +kernel
theorem dX7_derive_151 : decode cX7_derive 151 = .ok (.iconst 1, 1) := by decide +kernel
theorem dX7_derive_152 : decode cX7_derive 152 = .ok (.isub, 1) := by decide +kernel
theorem dX7_derive_153 : decode cX7_derive 153 = .ok (.lload 4, 2) := by decide +kernel
theorem dX7_derive_155 : decode cX7_derive 155 = .ok (.iload 10, 2) := by decide +kernel
theorem dX7_derive_157 : decode cX7_derive 157 = .ok (.i2l, 1) := by decide +kernel
theorem dX7_derive_158 : decode cX7_derive 158 = .ok (.lmul, 1) := by decide +kernel
theorem dX7_derive_159 : decode cX7_derive 159 = .ok (.lload 6, 2) := by decide +kernel
theorem dX7_derive_161 : decode cX7_derive 161 = .ok (.invokevirtual 108, 3) := by decide +kernel
theorem dX7_derive_164 : decode cX7_derive 164 = .ok (.goto 82, 3) := by decide +kernel
theorem dX7_derive_167 : decode cX7_derive 167 = .ok (.iload 9, 2) := by decide +kernel
theorem dX7_derive_169 : decode cX7_derive 169 = .ok (.iconst 2, 1) := by decide +kernel
theorem dX7_derive_170 : decode cX7_derive 170 = .ok (.if_icmp .ne 25, 3) := by decide +kernel
theorem dX7_derive_173 : decode cX7_derive 173 = .ok (.aload_n 0, 1) := by decide +kernel
theorem dX7_derive_174 : decode cX7_derive 174 = .ok (.bipush 8, 2) := by decide +kernel
theorem dX7_derive_176 : decode cX7_derive 176 = .ok (.iconst 2, 1) := by decide +kernel
theorem dX7_derive_177 : decode cX7_derive 177 = .ok (.iload 10, 2) := by decide +kernel
theorem dX7_derive_179 : decode cX7_derive 179 = .ok (.iload 8, 2) := by decide +kernel
theorem dX7_derive_181 : decode cX7_derive 181 = .ok (.lload 4, 2) := by decide +kernel
theorem dX7_derive_183 : decode cX7_derive 183 = .ok (.iload 10, 2) := by decide +kernel
theorem dX7_derive_185 : decode cX7_derive 185 = .ok (.i2l, 1) := by decide +kernel
theorem dX7_derive_186 : decode cX7_derive 186 = .ok (.lmul, 1) := by decide +kernel
theorem dX7_derive_187 : decode cX7_derive 187 = .ok (.lload 6, 2) := by decide +kernel
theorem dX7_derive_189 : decode cX7_derive 189 = .ok (.invokevirtual 108, 3) := by decide +kernel
theorem dX7_derive_192 : decode cX7_derive 192 = .ok (.goto 54, 3) := by decide +kernel
theorem dX7_derive_195 : decode cX7_derive 195 = .ok (.iload 9, 2) := by decide +kernel
theorem dX7_derive_197 : decode cX7_derive 197 = .ok (.iconst 2, 1) := by decide +kernel
theorem dX7_derive_198 : decode cX7_derive 198 = .ok (.if_icmp .le 48, 3) := by decide +kernel
theorem dX7_derive_201 : decode cX7_derive 201 = .ok (.aload_n 0, 1) := by decide +kernel
theorem dX7_derive_202 : decode cX7_derive 202 = .ok (.bipush 8, 2) := by decide +kernel
theorem dX7_derive_204 : decode cX7_derive 204 = .ok (.iload 9, 2) := by decide +kernel
theorem dX7_derive_206 : decode cX7_derive 206 = .ok (.iconst 3, 1) := by decide +kernel
theorem dX7_derive_207 : decode cX7_derive 207 = .ok (.if_icmp .ne 7, 3) := by decide +kernel
theorem dX7_derive_210 : decode cX7_derive 210 = .ok (.iconst 4, 1) := by decide +kernel
theorem dX7_derive_211 : decode cX7_derive 211 = .ok (.goto 4, 3) := by decide +kernel
theorem dX7_derive_214 : decode cX7_derive 214 = .ok (.iconst 3, 1) := by decide +kernel
theorem dX7_derive_215 : decode cX7_derive 215 = .ok (.iload 10, 2) := by decide +kernel
theorem dX7_derive_217 : decode cX7_derive 217 = .ok (.iload 8, 2) := by decide +kernel
theorem dX7_derive_219 : decode cX7_derive 219 = .ok (.iload 9, 2) := by decide +kernel
theorem dX7_derive_221 : decode cX7_derive 221 = .ok (.iconst 3, 1) := by decide +kernel
theorem dX7_derive_222 : decode cX7_derive 222 = .ok (.if_icmp .ne 12, 3) := by decide +kernel
theorem dX7_derive_225 : decode cX7_derive 225 = .ok (.lload 4, 2) := by decide +kernel
theorem dX7_derive_227 : decode cX7_derive 227 = .ok (.iload 10, 2) := by decide +kernel
theorem dX7_derive_229 : decode cX7_derive 229 = .ok (.i2l, 1) := by decide +kernel
theorem dX7_derive_230 : decode cX7_derive 230 = .ok (.lmul, 1) := by decide +kernel
theorem dX7_derive_231 : decode cX7_derive 231 = .ok (.goto 10, 3) := by decide +kernel
theorem dX7_derive_234 : decode cX7_derive 234 = .ok (.lload 4, 2) := by decide +kernel
theorem dX7_derive_236 : decode cX7_derive 236 = .ok (.lneg, 1) := by decide +kernel
theorem dX7_derive_237 : decode cX7_derive 237 = .ok (.iload 10, 2) := by decide +kernel
theorem dX7_derive_239 : decode cX7_derive 239 = .ok (.i2l, 1) := by decide +kernel
theorem dX7_derive_240 : decode cX7_derive 240 = .ok (.lmul, 1) := by decide +kernel
theorem dX7_derive_241 : decode cX7_derive 241 = .ok (.lload 6, 2) := by decide +kernel
theorem dX7_derive_243 : decode cX7_derive 243 = .ok (.invokevirtual 108, 3) := by decide +kernel
theorem dX7_derive_246 : decode cX7_derive 246 = .ok (.iinc 3 1, 3) := by decide +kernel
theorem dX7_derive_249 : decode cX7_derive 249 = .ok (.goto (-208), 3) := by decide +kernel
theorem dX7_derive_252 : decode cX7_derive 252 = .ok (.aload_n 0, 1) := by decide +kernel
theorem dX7_derive_253 : decode cX7_derive 253 = .ok (.iload_n 1, 1) := by decide +kernel
theorem dX7_derive_254 : decode cX7_derive 254 = .ok (.invokevirtual 126, 3) := by decide +kernel
theorem dX7_derive_257 : decode cX7_derive 257 = .ok (.ireturn, 1) := by decide +kernel
theorem dX7_scale_0 : decode cX7_scale 0 = .ok (.aload_n 0, 1) := by decide +kernel
theorem dX7_scale_1 : decode cX7_scale 1 = .ok (.getfield 168, 3) := by decide +kernel
theorem dX7_scale_4 : decode cX7_scale 4 = .ok (.lload_n 1, 1) := by decide +kernel
theorem dX7_scale_5 : decode cX7_scale 5 = .ok (.lmul, 1) := by decide +kernel
theorem dX7_scale_6 : decode cX7_scale 6 = .ok (.lstore 5, 2) := by decide +kernel
theorem dX7_scale_8 : decode cX7_scale 8 = .ok (.aload_n 0, 1) := by decide +kernel
theorem dX7_scale_9 : decode cX7_scale 9 = .ok (.getfield 172, 3) := by decide +kernel
theorem dX7_scale_12 : decode cX7_scale 12 = .ok (.lload_n 3, 1) := by decide +kernel
theorem dX7_scale_13 : decode cX7_scale 13 = .ok (.lmul, 1) := by decide +kernel
theorem dX7_scale_14 : decode cX7_scale 14 = .ok (.lstore 7, 2) := by decide +kernel
theorem dX7_scale_16 : decode cX7_scale 16 = .ok (.lload 7, 2) := by decide +kernel
theorem dX7_scale_18 : decode cX7_scale 18 = .ok (.lconst 0, 1) := by decide +kernel
theorem dX7_scale_19 : decode cX7_scale 19 = .ok (.lcmp, 1) := by decide +kernel
theorem dX7_scale_20 : decode cX7_scale 20 = .ok (.ifCond .ge 13, 3) := by decide +kernel
theorem dX7_scale_23 : decode cX7_scale 23 = .ok (.lload 5, 2) := by decide +kernel
theorem dX7_scale_25 : decode cX7_scale 25 = .ok (.lneg, 1) := by decide +kernel
theorem dX7_scale_26 : decode cX7_scale 26 = .ok (.lstore 5, 2) := by decide +kernel
theorem dX7_scale_28 : decode cX7_scale 28 = .ok (.lload 7, 2) := by decide +kernel
theorem dX7_scale_30 : decode cX7_scale 30 = .ok (.lneg, 1) := by decide +kernel
theorem dX7_scale_31 : decode cX7_scale 31 = .ok (.lstore 7, 2) := by decide +kernel
theorem dX7_scale_33 : decode cX7_scale 33 = .ok (.lload 5, 2) := by decide +kernel
theorem dX7_scale_35 : decode cX7_scale 35 = .ok (.lload 7, 2) := by decide +kernel
theorem dX7_scale_37 : decode cX7_scale 37 = .ok (.invokestatic 38, 3) := by decide +kernel
theorem dX7_scale_40 : decode cX7_scale 40 = .ok (.lstore 9, 2) := by decide +kernel
theorem dX7_scale_42 : decode cX7_scale 42 = .ok (.aload_n 0, 1) := by decide +kernel
theorem dX7_scale_43 : decode cX7_scale 43 = .ok (.lload 5, 2) := by decide +kernel
theorem dX7_scale_45 : decode cX7_scale 45 = .ok (.lload 9, 2) := by decide +kernel
theorem dX7_scale_47 : decode cX7_scale 47 = .ok (.ldiv, 1) := by decide +kernel
theorem dX7_scale_48 : decode cX7_scale 48 = .ok (.putfield 168, 3) := by decide +kernel
theorem dX7_scale_51 : decode cX7_scale 51 = .ok (.aload_n 0, 1) := by decide +kernel
theorem dX7_scale_52 : decode cX7_scale 52 = .ok (.lload 7, 2) := by decide +kernel
theorem dX7_scale_54 : decode cX7_scale 54 = .ok (.lload 9, 2) := by decide +kernel
theorem dX7_scale_56 : decode cX7_scale 56 = .ok (.ldiv, 1) := by decide +kernel
theorem dX7_scale_57 : decode cX7_scale 57 = .ok (.putfield 172, 3) := by decide +kernel
theorem dX7_scale_60 : decode cX7_scale 60 = .ok (.return_, 1) := by decide +kernel
theorem dX7_lay_0 : decode cX7_lay 0 = .ok (.aload_n 0, 1) := by decide +kernel
theorem dX7_lay_1 : decode cX7_lay 1 = .ok (.getfield 168, 3) := by decide +kernel
theorem dX7_lay_4 : decode cX7_lay 4 = .ok (.lstore 8, 2) := by decide +kernel
theorem dX7_lay_6 : decode cX7_lay 6 = .ok (.aload_n 0, 1) := by decide +kernel
theorem dX7_lay_7 : decode cX7_lay 7 = .ok (.getfield 172, 3) := by decide +kernel
theorem dX7_lay_10 : decode cX7_lay 10 = .ok (.lstore 10, 2) := by decide +kernel
theorem dX7_lay_12 : decode cX7_lay 12 = .ok (.aload_n 0, 1) := by decide +kernel
theorem dX7_lay_13 : decode cX7_lay 13 = .ok (.lload 4, 2) := by decide +kernel
theorem dX7_lay_15 : decode cX7_lay 15 = .ok (.lload 6, 2) := by decide +kernel
theorem dX7_lay_17 : decode cX7_lay 17 = .ok (.invokevirtual 175, 3) := by decide +kernel
theorem dX7_lay_20 : decode cX7_lay 20 = .ok (.aload_n 0, 1) := by decide +kernel
theorem dX7_lay_21 : decode cX7_lay 21 = .ok (.bipush 8, 2) := by decide +kernel
theorem dX7_lay_23 : decode cX7_lay 23 = .ok (.iload_n 1, 1) := by decide +kernel
theorem dX7_lay_24 : decode cX7_lay 24 = .ok (.iload_n 2, 1) := by decide +kernel
theorem dX7_lay_25 : decode cX7_lay 25 = .ok (.iload_n 3, 1) := by decide +kernel
theorem dX7_lay_26 : decode cX7_lay 26 = .ok (.aload_n 0, 1) := by decide +kernel
theorem dX7_lay_27 : decode cX7_lay 27 = .ok (.getfield 168, 3) := by decide +kernel
theorem dX7_lay_30 : decode cX7_lay 30 = .ok (.aload_n 0, 1) := by decide +kernel
theorem dX7_lay_31 : decode cX7_lay 31 = .ok (.getfield 172, 3) := by decide +kernel
theorem dX7_lay_34 : decode cX7_lay 34 = .ok (.invokevirtual 108, 3) := by decide +kernel
theorem dX7_lay_37 : decode cX7_lay 37 = .ok (.aload_n 0, 1) := by decide +kernel
theorem dX7_lay_38 : decode cX7_lay 38 = .ok (.lload 8, 2) := by decide +kernel
theorem dX7_lay_40 : decode cX7_lay 40 = .ok (.putfield 168, 3) := by decide +kernel
theorem dX7_lay_43 : decode cX7_lay 43 = .ok (.aload_n 0, 1) := by decide +kernel
theorem dX7_lay_44 : decode cX7_lay 44 = .ok (.lload 10, 2) := by decide +kernel
theorem dX7_lay_46 : decode cX7_lay 46 = .ok (.putfield 172, 3) := by decide +kernel
theorem dX7_lay_49 : decode cX7_lay 49 = .ok (.return_, 1) := by decide +kernel
theorem dX7_integrateLog_0 : decode cX7_integrateLog 0 = .ok (.iload_n 1, 1) := by decide +kernel
theorem dX7_integrateLog_1 : decode cX7_integrateLog 1 = .ok (.istore_n 3, 1) := by decide +kernel
theorem dX7_integrateLog_2 : decode cX7_integrateLog 2 = .ok (.iload_n 2, 1) := by decide +kernel
theorem dX7_integrateLog_3 : decode cX7_integrateLog 3 = .ok (.iconst (-1), 1) := by decide +kernel
theorem dX7_integrateLog_4 : decode cX7_integrateLog 4 = .ok (.if_icmp .ne 18, 3) := by decide +kernel
theorem dX7_integrateLog_7 : decode cX7_integrateLog 7 = .ok (.aload_n 0, 1) := by decide +kernel
theorem dX7_integrateLog_8 : decode cX7_integrateLog 8 = .ok (.iconst 1, 1) := by decide +kernel
theorem dX7_integrateLog_9 : decode cX7_integrateLog 9 = .ok (.iload_n 3, 1) := by decide +kernel
theorem dX7_integrateLog_10 : decode cX7_integrateLog 10 = .ok (.iconst 1, 1) := by decide +kernel
theorem dX7_integrateLog_11 : decode cX7_integrateLog 11 = .ok (.iadd, 1) := by decide +kernel
theorem dX7_integrateLog_12 : decode cX7_integrateLog 12 = .ok (.iconst 0, 1) := by decide +kernel
theorem dX7_integrateLog_13 : decode cX7_integrateLog 13 = .ok (.lconst 1, 1) := by decide +kernel
theorem dX7_integrateLog_14 : decode cX7_integrateLog 14 = .ok (.iload_n 3, 1) := by decide +kernel
theorem dX7_integrateLog_15 : decode cX7_integrateLog 15 = .ok (.i2l, 1) := by decide +kernel
theorem dX7_integrateLog_16 : decode cX7_integrateLog 16 = .ok (.lconst 1, 1) := by decide +kernel
theorem dX7_integrateLog_17 : decode cX7_integrateLog 17 = .ok (.ladd, 1) := by decide +kernel
theorem dX7_integrateLog_18 : decode cX7_integrateLog 18 = .ok (.invokevirtual 179, 3) := by decide +kernel
theorem dX7_integrateLog_21 : decode cX7_integrateLog 21 = .ok (.return_, 1) := by decide +kernel
theorem dX7_integrateLog_22 : decode cX7_integrateLog 22 = .ok (.iload_n 3, 1) := by decide +kernel
theorem dX7_integrateLog_23 : decode cX7_integrateLog 23 = .ok (.ifCond .lt 43, 3) := by decide +kernel
theorem dX7_integrateLog_26 : decode cX7_integrateLog 26 = .ok (.aload_n 0, 1) := by decide +kernel
theorem dX7_integrateLog_27 : decode cX7_integrateLog 27 = .ok (.getfield 168, 3) := by decide +kernel
theorem dX7_integrateLog_30 : decode cX7_integrateLog 30 = .ok (.lconst 0, 1) := by decide +kernel
theorem dX7_integrateLog_31 : decode cX7_integrateLog 31 = .ok (.lcmp, 1) := by decide +kernel
theorem dX7_integrateLog_32 : decode cX7_integrateLog 32 = .ok (.ifCond .eq 34, 3) := by decide +kernel
theorem dX7_integrateLog_35 : decode cX7_integrateLog 35 = .ok (.aload_n 0, 1) := by decide +kernel
theorem dX7_integrateLog_36 : decode cX7_integrateLog 36 = .ok (.iconst 1, 1) := by decide +kernel
theorem dX7_integrateLog_37 : decode cX7_integrateLog 37 = .ok (.iload_n 3, 1) := by decide +kernel
theorem dX7_integrateLog_38 : decode cX7_integrateLog 38 = .ok (.iload_n 2, 1) := by decide +kernel
theorem dX7_integrateLog_39 : decode cX7_integrateLog 39 = .ok (.iconst 1, 1) := by decide +kernel
theorem dX7_integrateLog_40 : decode cX7_integrateLog 40 = .ok (.iadd, 1) := by decide +kernel
theorem dX7_integrateLog_41 : decode cX7_integrateLog 41 = .ok (.lconst 1, 1) := by decide +kernel
theorem dX7_integrateLog_42 : decode cX7_integrateLog 42 = .ok (.iload_n 2, 1) := by decide +kernel
theorem dX7_integrateLog_43 : decode cX7_integrateLog 43 = .ok (.i2l, 1) := by decide +kernel
theorem dX7_integrateLog_44 : decode cX7_integrateLog 44 = .ok (.lconst 1, 1) := by decide +kernel
theorem dX7_integrateLog_45 : decode cX7_integrateLog 45 = .ok (.ladd, 1) := by decide +kernel
theorem dX7_integrateLog_46 : decode cX7_integrateLog 46 = .ok (.invokevirtual 179, 3) := by decide +kernel
theorem dX7_integrateLog_49 : decode cX7_integrateLog 49 = .ok (.aload_n 0, 1) := by decide +kernel
theorem dX7_integrateLog_50 : decode cX7_integrateLog 50 = .ok (.iload_n 3, 1) := by decide +kernel
theorem dX7_integrateLog_51 : decode cX7_integrateLog 51 = .ok (.ineg, 1) := by decide +kernel
theorem dX7_integrateLog_52 : decode cX7_integrateLog 52 = .ok (.i2l, 1) := by decide +kernel
theorem dX7_integrateLog_53 : decode cX7_integrateLog 53 = .ok (.iload_n 2, 1) := by decide +kernel
theorem dX7_integrateLog_54 : decode cX7_integrateLog 54 = .ok (.i2l, 1) := by decide +kernel
theorem dX7_integrateLog_55 : decode cX7_integrateLog 55 = .ok (.lconst 1, 1) := by decide +kernel
theorem dX7_integrateLog_56 : decode cX7_integrateLog 56 = .ok (.ladd, 1) := by decide +kernel
theorem dX7_integrateLog_57 : decode cX7_integrateLog 57 = .ok (.invokevirtual 175, 3) := by decide +kernel
theorem dX7_integrateLog_60 : decode cX7_integrateLog 60 = .ok (.iinc 3 (-1), 3) := by decide +kernel
theorem dX7_integrateLog_63 : decode cX7_integrateLog 63 = .ok (.goto (-41), 3) := by decide +kernel
theorem dX7_integrateLog_66 : decode cX7_integrateLog 66 = .ok (.return_, 1) := by decide +kernel
theorem dX7_integrateOther_0 : decode cX7_integrateOther 0 = .ok (.iload_n 1, 1) := by decide +kernel
theorem dX7_integrateOther_1 : decode cX7_integrateOther 1 = .ok (.istore 4, 2) := by decide +kernel
theorem dX7_integrateOther_3 : decode cX7_integrateOther 3 = .ok (.iload_n 3, 1) := by decide +kernel
theorem dX7_integrateOther_4 : decode cX7_integrateOther 4 = .ok (.istore 5, 2) := by decide +kernel
theorem dX7_integrateOther_6 : decode cX7_integrateOther 6 = .ok (.iload 5, 2) := by decide +kernel
theorem dX7_integrateOther_8 : decode cX7_integrateOther 8 = .ok (.ifCond .lt 94, 3) := by decide +kernel
theorem dX7_integrateOther_11 : decode cX7_integrateOther 11 = .ok (.aload_n 0, 1) := by decide +kernel
theorem dX7_integrateOther_12 : decode cX7_integrateOther 12 = .ok (.getfield 168, 3) := by decide +kernel
theorem dX7_integrateOther_15 : decode cX7_integrateOther 15 = .ok (.lconst 0, 1) := by decide +kernel
theorem dX7_integrateOther_16 : decode cX7_integrateOther 16 = .ok (.lcmp, 1) := by decide +kernel
theorem dX7_integrateOther_17 : decode cX7_integrateOther 17 = .ok (.ifCond .eq 85, 3) := by decide +kernel
theorem dX7_integrateOther_20 : decode cX7_integrateOther 20 = .ok (.aload_n 0, 1) := by decide +kernel
theorem dX7_integrateOther_21 : decode cX7_integrateOther 21 = .ok (.iload 4, 2) := by decide +kernel
theorem dX7_integrateOther_23 : decode cX7_integrateOther 23 = .ok (.iconst 2, 1) := by decide +kernel
theorem dX7_integrateOther_24 : decode cX7_integrateOther 24 = .ok (.if_icmp .ne 7, 3) := by decide +kernel
theorem dX7_integrateOther_27 : decode cX7_integrateOther 27 = .ok (.iconst 2, 1) := by decide +kernel
theorem dX7_integrateOther_28 : decode cX7_integrateOther 28 = .ok (.goto 8, 3) := by decide +kernel
theorem dX7_integrateOther_31 : decode cX7_integrateOther 31 = .ok (.bipush 7, 2) := by decide +kernel
theorem dX7_integrateOther_33 : decode cX7_integrateOther 33 = .ok (.iload 4, 2) := by decide +kernel
theorem dX7_integrateOther_35 : decode cX7_integrateOther 35 = .ok (.isub, 1) := by decide +kernel
theorem dX7_integrateOther_36 : decode cX7_integrateOther 36 = .ok (.iload_n 2, 1) := by decide +kernel
theorem dX7_integrateOther_37 : decode cX7_integrateOther 37 = .ok (.iload 5, 2) := by decide +kernel
theorem dX7_integrateOther_39 : decode cX7_integrateOther 39 = .ok (.iload 4, 2) := by decide +kernel
theorem dX7_integrateOther_41 : decode cX7_integrateOther 41 = .ok (.iconst 3, 1) := by decide +kernel
theorem dX7_integrateOther_42 : decode cX7_integrateOther 42 = .ok (.if_icmp .ne 9, 3) := by decide +kernel
theorem dX7_integrateOther_45 : decode cX7_integrateOther 45 = .ok (.ldc2_w 182, 3) := by decide +kernel
theorem dX7_integrateOther_48 : decode cX7_integrateOther 48 = .ok (.goto 4, 3) := by decide +kernel
theorem dX7_integrateOther_51 : decode cX7_integrateOther 51 = .ok (.lconst 1, 1) := by decide +kernel
theorem dX7_integrateOther_52 : decode cX7_integrateOther 52 = .ok (.iload_n 2, 1) := by decide +kernel
theorem dX7_integrateOther_53 : decode cX7_integrateOther 53 = .ok (.i2l, 1) := by decide +kernel
theorem dX7_integrateOther_54 : decode cX7_integrateOther 54 = .ok (.invokevirtual 179, 3) := by decide +kernel
theorem dX7_integrateOther_57 : decode cX7_integrateOther 57 = .ok (.aload_n 0, 1) := by decide +kernel
theorem dX7_integrateOther_58 : decode cX7_integrateOther 58 = .ok (.iload 4, 2) := by decide +kernel
theorem dX7_integrateOther_60 : decode cX7_integrateOther 60 = .ok (.iconst 3, 1) := by decide +kernel
theorem dX7_integrateOther_61 : decode cX7_integrateOther 61 = .ok (.if_icmp .ne 9, 3) := by decide +kernel
theorem dX7_integrateOther_64 : decode cX7_integrateOther 64 = .ok (.iload 5, 2) := by decide +kernel
theorem dX7_integrateOther_66 : decode cX7_integrateOther 66 = .ok (.i2l, 1) := by decide +kernel
theorem dX7_integrateOther_67 : decode cX7_integrateOther 67 = .ok (.goto 7, 3) := by decide +kernel
theorem dX7_integrateOther_70 : decode cX7_integrateOther 70 = .ok (.iload 5, 2) := by decide +kernel
theorem dX7_integrateOther_72 : decode cX7_integrateOther 72 = .ok (.ineg, 1) := by decide +kernel
theorem dX7_integrateOther_73 : decode cX7_integrateOther 73 = .ok (.i2l, 1) := by decide +kernel
theorem dX7_integrateOther_74 : decode cX7_integrateOther 74 = .ok (.iload_n 2, 1) := by decide +kernel
theorem dX7_integrateOther_75 : decode cX7_integrateOther 75 = .ok (.i2l, 1) := by decide +kernel
theorem dX7_integrateOther_76 : decode cX7_integrateOther 76 = .ok (.invokevirtual 175, 3) := by decide +kernel
theorem dX7_integrateOther_79 : decode cX7_integrateOther 79 = .ok (.iload 4, 2) := by decide +kernel
theorem dX7_integrateOther_81 : decode cX7_integrateOther 81 = .ok (.iconst 2, 1) := by decide +kernel
theorem dX7_integrateOther_82 : decode cX7_integrateOther 82 = .ok (.if_icmp .ne 7, 3) := by decide +kernel
theorem dX7_integrateOther_85 : decode cX7_integrateOther 85 = .ok (.iconst 2, 1) := by decide +kernel
theorem dX7_integrateOther_86 : decode cX7_integrateOther 86 = .ok (.goto 8, 3) := by decide +kernel
theorem dX7_integrateOther_89 : decode cX7_integrateOther 89 = .ok (.bipush 7, 2) := by decide +kernel
theorem dX7_integrateOther_91 : decode cX7_integrateOther 91 = .ok (.iload 4, 2) := by decide +kernel
theorem dX7_integrateOther_93 : decode cX7_integrateOther 93 = .ok (.isub, 1) := by decide +kernel
theorem dX7_integrateOther_94 : decode cX7_integrateOther 94 = .ok (.istore 4, 2) := by decide +kernel
theorem dX7_integrateOther_96 : decode cX7_integrateOther 96 = .ok (.iinc 5 (-1), 3) := by decide +kernel
theorem dX7_integrateOther_99 : decode cX7_integrateOther 99 = .ok (.goto (-93), 3) := by decide +kernel
theorem dX7_integrateOther_102 : decode cX7_integrateOther 102 = .ok (.iload 5, 2) := by decide +kernel
theorem dX7_integrateOther_104 : decode cX7_integrateOther 104 = .ok (.iconst (-1), 1) := by decide +kernel
theorem dX7_integrateOther_105 : decode cX7_integrateOther 105 = .ok (.if_icmp .ge 66, 3) := by decide +kernel
theorem dX7_integrateOther_108 : decode cX7_integrateOther 108 = .ok (.aload_n 0, 1) := by decide +kernel
theorem dX7_integrateOther_109 : decode cX7_integrateOther 109 = .ok (.iload 4, 2) := by decide +kernel
theorem dX7_integrateOther_111 : decode cX7_integrateOther 111 = .ok (.iload_n 2, 1) := by decide +kernel
theorem dX7_integrateOther_112 : decode cX7_integrateOther 112 = .ok (.iload 5, 2) := by decide +kernel
theorem dX7_integrateOther_114 : decode cX7_integrateOther 114 = .ok (.iconst 1, 1) := by decide +kernel
theorem dX7_integrateOther_115 : decode cX7_integrateOther 115 = .ok (.iadd, 1) := by decide +kernel
theorem dX7_integrateOther_116 : decode cX7_integrateOther 116 = .ok (.lconst 1, 1) := by decide +kernel
theorem dX7_integrateOther_117 : decode cX7_integrateOther 117 = .ok (.iload 5, 2) := by decide +kernel
theorem dX7_integrateOther_119 : decode cX7_integrateOther 119 = .ok (.i2l, 1) := by decide +kernel
theorem dX7_integrateOther_120 : decode cX7_integrateOther 120 = .ok (.lconst 1, 1) := by decide +kernel
theorem dX7_integrateOther_121 : decode cX7_integrateOther 121 = .ok (.ladd, 1) := by decide +kernel
theorem dX7_integrateOther_122 : decode cX7_integrateOther 122 = .ok (.invokevirtual 179, 3) := by decide +kernel
theorem dX7_integrateOther_125 : decode cX7_integrateOther 125 = .ok (.aload_n 0, 1) := by decide +kernel
theorem dX7_integrateOther_126 : decode cX7_integrateOther 126 = .ok (.iload 4, 2) := by decide +kernel
theorem dX7_integrateOther_128 : decode cX7_integrateOther 128 = .ok (.iconst 4, 1) := by decide +kernel
theorem dX7_integrateOther_129 : decode cX7_integrateOther 129 = .ok (.if_icmp .ne 8, 3) := by decide +kernel
theorem dX7_integrateOther_132 : decode cX7_integrateOther 132 = .ok (.iload_n 2, 1) := by decide +kernel
theorem dX7_integrateOther_133 : decode cX7_integrateOther 133 = .ok (.i2l, 1) := by decide +kernel
theorem dX7_integrateOther_134 : decode cX7_integrateOther 134 = .ok (.goto 6, 3) := by decide +kernel
theorem dX7_integrateOther_137 : decode cX7_integrateOther 137 = .ok (.iload_n 2, 1) := by decide +kernel
theorem dX7_integrateOther_138 : decode cX7_integrateOther 138 = .ok (.ineg, 1) := by decide +kernel
theorem dX7_integrateOther_139 : decode cX7_integrateOther 139 = .ok (.i2l, 1) := by decide +kernel
theorem dX7_integrateOther_140 : decode cX7_integrateOther 140 = .ok (.iload 5, 2) := by decide +kernel
theorem dX7_integrateOther_142 : decode cX7_integrateOther 142 = .ok (.i2l, 1) := by decide +kernel
theorem dX7_integrateOther_143 : decode cX7_integrateOther 143 = .ok (.lconst 1, 1) := by decide +kernel
theorem dX7_integrateOther_144 : decode cX7_integrateOther 144 = .ok (.ladd, 1) := by decide +kernel
theorem dX7_integrateOther_145 : decode cX7_integrateOther 145 = .ok (.invokevirtual 175, 3) := by decide +kernel
theorem dX7_integrateOther_148 : decode cX7_integrateOther 148 = .ok (.iload 4, 2) := by decide +kernel
theorem dX7_integrateOther_150 : decode cX7_integrateOther 150 = .ok (.iconst 2, 1) := by decide +kernel
theorem dX7_integrateOther_151 : decode cX7_integrateOther 151 = .ok (.if_icmp .ne 7, 3) := by decide +kernel
theorem dX7_integrateOther_154 : decode cX7_integrateOther 154 = .ok (.iconst 2, 1) := by decide +kernel
theorem dX7_integrateOther_155 : decode cX7_integrateOther 155 = .ok (.goto 8, 3) := by decide +kernel
theorem dX7_integrateOther_158 : decode cX7_integrateOther 158 = .ok (.bipush 7, 2) := by decide +kernel
theorem dX7_integrateOther_160 : decode cX7_integrateOther 160 = .ok (.iload 4, 2) := by decide +kernel
theorem dX7_integrateOther_162 : decode cX7_integrateOther 162 = .ok (.isub, 1) := by decide +kernel
theorem dX7_integrateOther_163 : decode cX7_integrateOther 163 = .ok (.istore 4, 2) := by decide +kernel
theorem dX7_integrateOther_165 : decode cX7_integrateOther 165 = .ok (.iinc 5 1, 3) := by decide +kernel
theorem dX7_integrateOther_168 : decode cX7_integrateOther 168 = .ok (.goto (-66), 3) := by decide +kernel
theorem dX7_integrateOther_171 : decode cX7_integrateOther 171 = .ok (.iload_n 3, 1) := by decide +kernel
theorem dX7_integrateOther_172 : decode cX7_integrateOther 172 = .ok (.ifCond .ge 21, 3) := by decide +kernel
theorem dX7_integrateOther_175 : decode cX7_integrateOther 175 = .ok (.aload_n 0, 1) := by decide +kernel
theorem dX7_integrateOther_176 : decode cX7_integrateOther 176 = .ok (.bipush 9, 2) := by decide +kernel
theorem dX7_integrateOther_178 : decode cX7_integrateOther 178 = .ok (.iload 4, 2) := by decide +kernel
theorem dX7_integrateOther_180 : decode cX7_integrateOther 180 = .ok (.iload_n 2, 1) := by decide +kernel
theorem dX7_integrateOther_181 : decode cX7_integrateOther 181 = .ok (.iconst (-1), 1) := by decide +kernel
theorem dX7_integrateOther_182 : decode cX7_integrateOther 182 = .ok (.aload_n 0, 1) := by decide +kernel
theorem dX7_integrateOther_183 : decode cX7_integrateOther 183 = .ok (.getfield 168, 3) := by decide +kernel
theorem dX7_integrateOther_186 : decode cX7_integrateOther 186 = .ok (.aload_n 0, 1) := by decide +kernel
theorem dX7_integrateOther_187 : decode cX7_integrateOther 187 = .ok (.getfield 172, 3) := by decide +kernel
theorem dX7_integrateOther_190 : decode cX7_integrateOther 190 = .ok (.invokevirtual 108, 3) := by decide +kernel
theorem dX7_integrateOther_193 : decode cX7_integrateOther 193 = .ok (.return_, 1) := by decide +kernel
theorem dX7_integrate_0 : decode cX7_integrate 0 = .ok (.iload_n 1, 1) := by decide +kernel
theorem dX7_integrate_1 : decode cX7_integrate 1 = .ok (.invokestatic 115, 3) := by decide +kernel
theorem dX7_integrate_4 : decode cX7_integrate 4 = .ok (.ifCond .eq 21, 3) := by decide +kernel
theorem dX7_integrate_7 : decode cX7_integrate 7 = .ok (.iload_n 2, 1) := by decide +kernel
theorem dX7_integrate_8 : decode cX7_integrate 8 = .ok (.invokestatic 115, 3) := by decide +kernel
theorem dX7_integrate_11 : decode cX7_integrate 11 = .ok (.ifCond .eq 14, 3) := by decide +kernel
theorem dX7_integrate_14 : decode cX7_integrate 14 = .ok (.iload_n 3, 1) := by decide +kernel
theorem dX7_integrate_15 : decode cX7_integrate 15 = .ok (.invokestatic 115, 3) := by decide +kernel
theorem dX7_integrate_18 : decode cX7_integrate 18 = .ok (.ifCond .eq 7, 3) := by decide +kernel
theorem dX7_integrate_21 : decode cX7_integrate 21 = .ok (.iconst 1, 1) := by decide +kernel
theorem dX7_integrate_22 : decode cX7_integrate 22 = .ok (.goto 4, 3) := by decide +kernel
theorem dX7_integrate_25 : decode cX7_integrate 25 = .ok (.iconst 0, 1) := by decide +kernel
theorem dX7_integrate_26 : decode cX7_integrate 26 = .ok (.istore 4, 2) := by decide +kernel
theorem dX7_integrate_28 : decode cX7_integrate 28 = .ok (.aload_n 0, 1) := by decide +kernel
theorem dX7_integrate_29 : decode cX7_integrate 29 = .ok (.iload 4, 2) := by decide +kernel
theorem dX7_integrate_31 : decode cX7_integrate 31 = .ok (.ifCond .ne 7, 3) := by decide +kernel
theorem dX7_integrate_34 : decode cX7_integrate 34 = .ok (.iconst 1, 1) := by decide +kernel
theorem dX7_integrate_35 : decode cX7_integrate 35 = .ok (.goto 16, 3) := by decide +kernel
theorem dX7_integrate_38 : decode cX7_integrate 38 = .ok (.aload_n 0, 1) := by decide +kernel
theorem dX7_integrate_39 : decode cX7_integrate 39 = .ok (.iload_n 3, 1) := by decide +kernel
theorem dX7_integrate_40 : decode cX7_integrate 40 = .ok (.invokevirtual 155, 3) := by decide +kernel
theorem dX7_integrate_43 : decode cX7_integrate 43 = .ok (.ifCond .ne 7, 3) := by decide +kernel
theorem dX7_integrate_46 : decode cX7_integrate 46 = .ok (.iconst 2, 1) := by decide +kernel
theorem dX7_integrate_47 : decode cX7_integrate 47 = .ok (.goto 4, 3) := by decide +kernel
theorem dX7_integrate_50 : decode cX7_integrate 50 = .ok (.iconst 0, 1) := by decide +kernel
theorem dX7_integrate_51 : decode cX7_integrate 51 = .ok (.invokevirtual 78, 3) := by decide +kernel
theorem dX7_integrate_54 : decode cX7_integrate 54 = .ok (.ifCond .eq 5, 3) := by decide +kernel
theorem dX7_integrate_57 : decode cX7_integrate 57 = .ok (.iconst 0, 1) := by decide +kernel
theorem dX7_integrate_58 : decode cX7_integrate 58 = .ok (.ireturn, 1) := by decide +kernel
theorem dX7_integrate_59 : decode cX7_integrate 59 = .ok (.aload_n 0, 1) := by decide +kernel
theorem dX7_integrate_60 : decode cX7_integrate 60 = .ok (.iconst 0, 1) := by decide +kernel
theorem dX7_integrate_61 : decode cX7_integrate 61 = .ok (.putfield 30, 3) := by decide +kernel
theorem dX7_integrate_64 : decode cX7_integrate 64 = .ok (.aload_n 0, 1) := by decide +kernel
theorem dX7_integrate_65 : decode cX7_integrate 65 = .ok (.bipush 8, 2) := by decide +kernel
theorem dX7_integrate_67 : decode cX7_integrate 67 = .ok (.invokevirtual 118, 3) := by decide +kernel
theorem dX7_integrate_70 : decode cX7_integrate 70 = .ok (.aload_n 0, 1) := by decide +kernel
theorem dX7_integrate_71 : decode cX7_integrate 71 = .ok (.bipush 9, 2) := by decide +kernel
theorem dX7_integrate_73 : decode cX7_integrate 73 = .ok (.invokevirtual 118, 3) := by decide +kernel
theorem dX7_integrate_76 : decode cX7_integrate 76 = .ok (.iconst 0, 1) := by decide +kernel
theorem dX7_integrate_77 : decode cX7_integrate 77 = .ok (.istore 5, 2) := by decide +kernel
theorem dX7_integrate_79 : decode cX7_integrate 79 = .ok (.iload 5, 2) := by decide +kernel
theorem dX7_integrate_81 : decode cX7_integrate 81 = .ok (.sipush 1150, 3) := by decide +kernel
theorem dX7_integrate_84 : decode cX7_integrate 84 = .ok (.if_icmp .ge 109, 3) := by decide +kernel
theorem dX7_integrate_87 : decode cX7_integrate 87 = .ok (.aload_n 0, 1) := by decide +kernel
theorem dX7_integrate_88 : decode cX7_integrate 88 = .ok (.aload_n 0, 1) := by decide +kernel
theorem dX7_integrate_89 : decode cX7_integrate 89 = .ok (.getfield 20, 3) := by decide +kernel
theorem dX7_integrate_92 : decode cX7_integrate 92 = .ok (.sipush 1150, 3) := by decide +kernel
theorem dX7_integrate_95 : decode cX7_integrate 95 = .ok (.iload_n 3, 1) := by decide +kernel
theorem dX7_integrate_96 : decode cX7_integrate 96 = .ok (.imul, 1) := by decide +kernel
theorem dX7_integrate_97 : decode cX7_integrate 97 = .ok (.iload 5, 2) := by decide +kernel
theorem dX7_integrate_99 : decode cX7_integrate 99 = .ok (.iadd, 1) := by decide +kernel
theorem dX7_integrate_100 : decode cX7_integrate 100 = .ok (.laload, 1) := by decide +kernel
theorem dX7_integrate_101 : decode cX7_integrate 101 = .ok (.putfield 168, 3) := by decide +kernel
theorem dX7_integrate_104 : decode cX7_integrate 104 = .ok (.aload_n 0, 1) := by decide +kernel
theorem dX7_integrate_105 : decode cX7_integrate 105 = .ok (.aload_n 0, 1) := by decide +kernel
theorem dX7_integrate_106 : decode cX7_integrate 106 = .ok (.getfield 24, 3) := by decide +kernel
theorem dX7_integrate_109 : decode cX7_integrate 109 = .ok (.sipush 1150, 3) := by decide +kernel
theorem dX7_integrate_112 : decode cX7_integrate 112 = .ok (.iload_n 3, 1) := by decide +kernel
theorem dX7_integrate_113 : decode cX7_integrate 113 = .ok (.imul, 1) := by decide +kernel
theorem dX7_integrate_114 : decode cX7_integrate 114 = .ok (.iload 5, 2) := by decide +kernel
theorem dX7_integrate_116 : decode cX7_integrate 116 = .ok (.iadd, 1) := by decide +kernel
theorem dX7_integrate_117 : decode cX7_integrate 117 = .ok (.laload, 1) := by decide +kernel
theorem dX7_integrate_118 : decode cX7_integrate 118 = .ok (.putfield 172, 3) := by decide +kernel
theorem dX7_integrate_121 : decode cX7_integrate 121 = .ok (.aload_n 0, 1) := by decide +kernel
theorem dX7_integrate_122 : decode cX7_integrate 122 = .ok (.getfield 168, 3) := by decide +kernel
theorem dX7_integrate_125 : decode cX7_integrate 125 = .ok (.lconst 0, 1) := by decide +kernel
theorem dX7_integrate_126 : decode cX7_integrate 126 = .ok (.lcmp, 1) := by decide +kernel
theorem dX7_integrate_127 : decode cX7_integrate 127 = .ok (.ifCond .ne 6, 3) := by decide +kernel
theorem dX7_integrate_130 : decode cX7_integrate 130 = .ok (.goto 57, 3) := by decide +kernel
theorem dX7_integrate_133 : decode cX7_integrate 133 = .ok (.iload 5, 2) := by decide +kernel
theorem dX7_integrate_135 : decode cX7_integrate 135 = .ok (.bipush 25, 2) := by decide +kernel
theorem dX7_integrate_137 : decode cX7_integrate 137 = .ok (.idiv, 1) := by decide +kernel
theorem dX7_integrate_138 : decode cX7_integrate 138 = .ok (.istore 6, 2) := by decide +kernel
theorem dX7_integrate_140 : decode cX7_integrate 140 = .ok (.iload 5, 2) := by decide +kernel
theorem dX7_integrate_142 : decode cX7_integrate 142 = .ok (.bipush 25, 2) := by decide +kernel
theorem dX7_integrate_144 : decode cX7_integrate 144 = .ok (.irem, 1) := by decide +kernel
theorem dX7_integrate_145 : decode cX7_integrate 145 = .ok (.bipush 12, 2) := by decide +kernel
theorem dX7_integrate_147 : decode cX7_integrate 147 = .ok (.isub, 1) := by decide +kernel
theorem dX7_integrate_148 : decode cX7_integrate 148 = .ok (.istore 7, 2) := by decide +kernel
theorem dX7_integrate_150 : decode cX7_integrate 150 = .ok (.iload 6, 2) := by decide +kernel
theorem dX7_integrate_152 : decode cX7_integrate 152 = .ok (.bipush 10, 2) := by decide +kernel
theorem dX7_integrate_154 : decode cX7_integrate 154 = .ok (.if_icmp .ge 17, 3) := by decide +kernel
theorem dX7_integrate_157 : decode cX7_integrate 157 = .ok (.aload_n 0, 1) := by decide +kernel
theorem dX7_integrate_158 : decode cX7_integrate 158 = .ok (.iload 6, 2) := by decide +kernel
theorem dX7_integrate_160 : decode cX7_integrate 160 = .ok (.invokestatic 63, 3) := by decide +kernel
theorem dX7_integrate_163 : decode cX7_integrate 163 = .ok (.iload 7, 2) := by decide +kernel
theorem dX7_integrate_165 : decode cX7_integrate 165 = .ok (.invokevirtual 184, 3) := by decide +kernel
theorem dX7_integrate_168 : decode cX7_integrate 168 = .ok (.goto 19, 3) := by decide +kernel
theorem dX7_integrate_171 : decode cX7_integrate 171 = .ok (.aload_n 0, 1) := by decide +kernel
theorem dX7_integrate_172 : decode cX7_integrate 172 = .ok (.iload 6, 2) := by decide +kernel
theorem dX7_integrate_174 : decode cX7_integrate 174 = .ok (.invokestatic 141, 3) := by decide +kernel
theorem dX7_integrate_177 : decode cX7_integrate 177 = .ok (.iload 6, 2) := by decide +kernel
theorem dX7_integrate_179 : decode cX7_integrate 179 = .ok (.invokestatic 63, 3) := by decide +kernel
theorem dX7_integrate_182 : decode cX7_integrate 182 = .ok (.iload 7, 2) := by decide +kernel
theorem dX7_integrate_184 : decode cX7_integrate 184 = .ok (.invokevirtual 187, 3) := by decide +kernel
theorem dX7_integrate_187 : decode cX7_integrate 187 = .ok (.iinc 5 1, 3) := by decide +kernel
theorem dX7_integrate_190 : decode cX7_integrate 190 = .ok (.goto (-111), 3) := by decide +kernel
theorem dX7_integrate_193 : decode cX7_integrate 193 = .ok (.aload_n 0, 1) := by decide +kernel
theorem dX7_integrate_194 : decode cX7_integrate 194 = .ok (.bipush 8, 2) := by decide +kernel
theorem dX7_integrate_196 : decode cX7_integrate 196 = .ok (.invokevirtual 56, 3) := by decide +kernel
theorem dX7_integrate_199 : decode cX7_integrate 199 = .ok (.ifCond .eq 12, 3) := by decide +kernel
theorem dX7_integrate_202 : decode cX7_integrate 202 = .ok (.aload_n 0, 1) := by decide +kernel
theorem dX7_integrate_203 : decode cX7_integrate 203 = .ok (.bipush 9, 2) := by decide +kernel
theorem dX7_integrate_205 : decode cX7_integrate 205 = .ok (.invokevirtual 56, 3) := by decide +kernel
theorem dX7_integrate_208 : decode cX7_integrate 208 = .ok (.ifCond .ne 6, 3) := by decide +kernel
theorem dX7_integrate_211 : decode cX7_integrate 211 = .ok (.bipush (-4), 2) := by decide +kernel
theorem dX7_integrate_213 : decode cX7_integrate 213 = .ok (.ireturn, 1) := by decide +kernel
theorem dX7_integrate_214 : decode cX7_integrate 214 = .ok (.aload_n 0, 1) := by decide +kernel
theorem dX7_integrate_215 : decode cX7_integrate 215 = .ok (.iload_n 1, 1) := by decide +kernel
theorem dX7_integrate_216 : decode cX7_integrate 216 = .ok (.bipush 8, 2) := by decide +kernel
theorem dX7_integrate_218 : decode cX7_integrate 218 = .ok (.invokevirtual 59, 3) := by decide +kernel
theorem dX7_integrate_221 : decode cX7_integrate 221 = .ok (.aload_n 0, 1) := by decide +kernel
theorem dX7_integrate_222 : decode cX7_integrate 222 = .ok (.iload_n 2, 1) := by decide +kernel
theorem dX7_integrate_223 : decode cX7_integrate 223 = .ok (.bipush 9, 2) := by decide +kernel
theorem dX7_integrate_225 : decode cX7_integrate 225 = .ok (.invokevirtual 59, 3) := by decide +kernel
theorem dX7_integrate_228 : decode cX7_integrate 228 = .ok (.aload_n 0, 1) := by decide +kernel
theorem dX7_integrate_229 : decode cX7_integrate 229 = .ok (.bipush 9, 2) := by decide +kernel
theorem dX7_integrate_231 : decode cX7_integrate 231 = .ok (.invokevirtual 48, 3) := by decide +kernel
theorem dX7_integrate_234 : decode cX7_integrate 234 = .ok (.ireturn, 1) := by decide +kernel
theorem dX7_same_0 : decode cX7_same 0 = .ok (.aload_n 0, 1) := by decide +kernel
theorem dX7_same_1 : decode cX7_same 1 = .ok (.iload_n 1, 1) := by decide +kernel
theorem dX7_same_2 : decode cX7_same 2 = .ok (.invokestatic 115, 3) := by decide +kernel
theorem dX7_same_5 : decode cX7_same 5 = .ok (.ifCond .eq 14, 3) := by decide +kernel
theorem dX7_same_8 : decode cX7_same 8 = .ok (.iload_n 2, 1) := by decide +kernel
theorem dX7_same_9 : decode cX7_same 9 = .ok (.invokestatic 115, 3) := by decide +kernel
theorem dX7_same_12 : decode cX7_same 12 = .ok (.ifCond .eq 7, 3) := by decide +kernel
theorem dX7_same_15 : decode cX7_same 15 = .ok (.iconst 0, 1) := by decide +kernel
theorem dX7_same_16 : decode cX7_same 16 = .ok (.goto 4, 3) := by decide +kernel
theorem dX7_same_19 : decode cX7_same 19 = .ok (.iconst 1, 1) := by decide +kernel
theorem dX7_same_20 : decode cX7_same 20 = .ok (.invokevirtual 78, 3) := by decide +kernel
theorem dX7_same_23 : decode cX7_same 23 = .ok (.ifCond .eq 5, 3) := by decide +kernel
theorem dX7_same_26 : decode cX7_same 26 = .ok (.iconst 0, 1) := by decide +kernel
theorem dX7_same_27 : decode cX7_same 27 = .ok (.ireturn, 1) := by decide +kernel
theorem dX7_same_28 : decode cX7_same 28 = .ok (.iconst 1, 1) := by decide +kernel
theorem dX7_same_29 : decode cX7_same 29 = .ok (.istore_n 3, 1) := by decide +kernel
theorem dX7_same_30 : decode cX7_same 30 = .ok (.iconst 0, 1) := by decide +kernel
theorem dX7_same_31 : decode cX7_same 31 = .ok (.istore 4, 2) := by decide +kernel
theorem dX7_same_33 : decode cX7_same 33 = .ok (.iload 4, 2) := by decide +kernel
theorem dX7_same_35 : decode cX7_same 35 = .ok (.sipush 1150, 3) := by decide +kernel
theorem dX7_same_38 : decode cX7_same 38 = .ok (.if_icmp .ge 79, 3) := by decide +kernel
theorem dX7_same_41 : decode cX7_same 41 = .ok (.iload_n 3, 1) := by decide +kernel
theorem dX7_same_42 : decode cX7_same 42 = .ok (.ifCond .eq 67, 3) := by decide +kernel
theorem dX7_same_45 : decode cX7_same 45 = .ok (.aload_n 0, 1) := by decide +kernel
theorem dX7_same_46 : decode cX7_same 46 = .ok (.getfield 20, 3) := by decide +kernel
theorem dX7_same_49 : decode cX7_same 49 = .ok (.sipush 1150, 3) := by decide +kernel
theorem dX7_same_52 : decode cX7_same 52 = .ok (.iload_n 1, 1) := by decide +kernel
theorem dX7_same_53 : decode cX7_same 53 = .ok (.imul, 1) := by decide +kernel
theorem dX7_same_54 : decode cX7_same 54 = .ok (.iload 4, 2) := by decide +kernel
theorem dX7_same_56 : decode cX7_same 56 = .ok (.iadd, 1) := by decide +kernel
theorem dX7_same_57 : decode cX7_same 57 = .ok (.laload, 1) := by decide +kernel
theorem dX7_same_58 : decode cX7_same 58 = .ok (.aload_n 0, 1) := by decide +kernel
theorem dX7_same_59 : decode cX7_same 59 = .ok (.getfield 20, 3) := by decide +kernel
theorem dX7_same_62 : decode cX7_same 62 = .ok (.sipush 1150, 3) := by decide +kernel
theorem dX7_same_65 : decode cX7_same 65 = .ok (.iload_n 2, 1) := by decide +kernel
theorem dX7_same_66 : decode cX7_same 66 = .ok (.imul, 1) := by decide +kernel
theorem dX7_same_67 : decode cX7_same 67 = .ok (.iload 4, 2) := by decide +kernel
theorem dX7_same_69 : decode cX7_same 69 = .ok (.iadd, 1) := by decide +kernel
theorem dX7_same_70 : decode cX7_same 70 = .ok (.laload, 1) := by decide +kernel
theorem dX7_same_71 : decode cX7_same 71 = .ok (.lcmp, 1) := by decide +kernel
theorem dX7_same_72 : decode cX7_same 72 = .ok (.ifCond .ne 37, 3) := by decide +kernel
theorem dX7_same_75 : decode cX7_same 75 = .ok (.aload_n 0, 1) := by decide +kernel
theorem dX7_same_76 : decode cX7_same 76 = .ok (.getfield 24, 3) := by decide +kernel
theorem dX7_same_79 : decode cX7_same 79 = .ok (.sipush 1150, 3) := by decide +kernel
theorem dX7_same_82 : decode cX7_same 82 = .ok (.iload_n 1, 1) := by decide +kernel
theorem dX7_same_83 : decode cX7_same 83 = .ok (.imul, 1) := by decide +kernel
theorem dX7_same_84 : decode cX7_same 84 = .ok (.iload 4, 2) := by decide +kernel
theorem dX7_same_86 : decode cX7_same 86 = .ok (.iadd, 1) := by decide +kernel
theorem dX7_same_87 : decode cX7_same 87 = .ok (.laload, 1) := by decide +kernel
theorem dX7_same_88 : decode cX7_same 88 = .ok (.aload_n 0, 1) := by decide +kernel
theorem dX7_same_89 : decode cX7_same 89 = .ok (.getfield 24, 3) := by decide +kernel
theorem dX7_same_92 : decode cX7_same 92 = .ok (.sipush 1150, 3) := by decide +kernel
theorem dX7_same_95 : decode cX7_same 95 = .ok (.iload_n 2, 1) := by decide +kernel
theorem dX7_same_96 : decode cX7_same 96 = .ok (.imul, 1) := by decide +kernel
theorem dX7_same_97 : decode cX7_same 97 = .ok (.iload 4, 2) := by decide +kernel
theorem dX7_same_99 : decode cX7_same 99 = .ok (.iadd, 1) := by decide +kernel
theorem dX7_same_100 : decode cX7_same 100 = .ok (.laload, 1) := by decide +kernel
theorem dX7_same_101 : decode cX7_same 101 = .ok (.lcmp, 1) := by decide +kernel
theorem dX7_same_102 : decode cX7_same 102 = .ok (.ifCond .ne 7, 3) := by decide +kernel
theorem dX7_same_105 : decode cX7_same 105 = .ok (.iconst 1, 1) := by decide +kernel
theorem dX7_same_106 : decode cX7_same 106 = .ok (.goto 4, 3) := by decide +kernel
theorem dX7_same_109 : decode cX7_same 109 = .ok (.iconst 0, 1) := by decide +kernel
theorem dX7_same_110 : decode cX7_same 110 = .ok (.istore_n 3, 1) := by decide +kernel
theorem dX7_same_111 : decode cX7_same 111 = .ok (.iinc 4 1, 3) := by decide +kernel
theorem dX7_same_114 : decode cX7_same 114 = .ok (.goto (-81), 3) := by decide +kernel
theorem dX7_same_117 : decode cX7_same 117 = .ok (.iload_n 3, 1) := by decide +kernel
theorem dX7_same_118 : decode cX7_same 118 = .ok (.ireturn, 1) := by decide +kernel
theorem dX7_terms_0 : decode cX7_terms 0 = .ok (.aload_n 0, 1) := by decide +kernel
theorem dX7_terms_1 : decode cX7_terms 1 = .ok (.iload_n 1, 1) := by decide +kernel
theorem dX7_terms_2 : decode cX7_terms 2 = .ok (.invokestatic 115, 3) := by decide +kernel
theorem dX7_terms_5 : decode cX7_terms 5 = .ok (.ifCond .eq 7, 3) := by decide +kernel
theorem dX7_terms_8 : decode cX7_terms 8 = .ok (.iconst 0, 1) := by decide +kernel
theorem dX7_terms_9 : decode cX7_terms 9 = .ok (.goto 4, 3) := by decide +kernel
theorem dX7_terms_12 : decode cX7_terms 12 = .ok (.iconst 1, 1) := by decide +kernel
theorem dX7_terms_13 : decode cX7_terms 13 = .ok (.invokevirtual 78, 3) := by decide +kernel
theorem dX7_terms_16 : decode cX7_terms 16 = .ok (.ifCond .eq 5, 3) := by decide +kernel
theorem dX7_terms_19 : decode cX7_terms 19 = .ok (.iconst 0, 1) := by decide +kernel
theorem dX7_terms_20 : decode cX7_terms 20 = .ok (.ireturn, 1) := by decide +kernel
theorem dX7_terms_21 : decode cX7_terms 21 = .ok (.aload_n 0, 1) := by decide +kernel
theorem dX7_terms_22 : decode cX7_terms 22 = .ok (.iload_n 1, 1) := by decide +kernel
theorem dX7_terms_23 : decode cX7_terms 23 = .ok (.invokevirtual 48, 3) := by decide +kernel
theorem dX7_terms_26 : decode cX7_terms 26 = .ok (.ireturn, 1) := by decide +kernel
theorem dX7_term_0 : decode cX7_term 0 = .ok (.aload_n 0, 1) := by decide +kernel
theorem dX7_term_1 : decode cX7_term 1 = .ok (.iload_n 1, 1) := by decide +kernel
theorem dX7_term_2 : decode cX7_term 2 = .ok (.invokestatic 115, 3) := by decide +kernel
theorem dX7_term_5 : decode cX7_term 5 = .ok (.ifCond .eq 16, 3) := by decide +kernel
theorem dX7_term_8 : decode cX7_term 8 = .ok (.iload_n 3, 1) := by decide +kernel
theorem dX7_term_9 : decode cX7_term 9 = .ok (.ifCond .lt 12, 3) := by decide +kernel
theorem dX7_term_12 : decode cX7_term 12 = .ok (.iload_n 3, 1) := by decide +kernel
theorem dX7_term_13 : decode cX7_term 13 = .ok (.iconst 4, 1) := by decide +kernel
theorem dX7_term_14 : decode cX7_term 14 = .ok (.if_icmp .gt 7, 3) := by decide +kernel
theorem dX7_term_17 : decode cX7_term 17 = .ok (.iconst 0, 1) := by decide +kernel
theorem dX7_term_18 : decode cX7_term 18 = .ok (.goto 4, 3) := by decide +kernel
theorem dX7_term_21 : decode cX7_term 21 = .ok (.iconst 1, 1) := by decide +kernel
theorem dX7_term_22 : decode cX7_term 22 = .ok (.invokevirtual 78, 3) := by decide +kernel
theorem dX7_term_25 : decode cX7_term 25 = .ok (.ifCond .eq 5, 3) := by decide +kernel
theorem dX7_term_28 : decode cX7_term 28 = .ok (.lconst 0, 1) := by decide +kernel
theorem dX7_term_29 : decode cX7_term 29 = .ok (.lreturn, 1) := by decide +kernel
theorem dX7_term_30 : decode cX7_term 30 = .ok (.iload_n 2, 1) := by decide +kernel
theorem dX7_term_31 : decode cX7_term 31 = .ok (.istore 4, 2) := by decide +kernel
theorem dX7_term_33 : decode cX7_term 33 = .ok (.iconst 0, 1) := by decide +kernel
theorem dX7_term_34 : decode cX7_term 34 = .ok (.istore 5, 2) := by decide +kernel
theorem dX7_term_36 : decode cX7_term 36 = .ok (.iload 5, 2) := by decide +kernel
theorem dX7_term_38 : decode cX7_term 38 = .ok (.bipush 46, 2) := by decide +kernel
theorem dX7_term_40 : decode cX7_term 40 = .ok (.if_icmp .ge 133, 3) := by decide +kernel
theorem dX7_term_43 : decode cX7_term 43 = .ok (.iload_n 2, 1) := by decide +kernel
theorem dX7_term_44 : decode cX7_term 44 = .ok (.ifCond .lt 129, 3) := by decide +kernel
theorem dX7_term_47 : decode cX7_term 47 = .ok (.bipush 12, 2) := by decide +kernel
theorem dX7_term_49 : decode cX7_term 49 = .ok (.istore 6, 2) := by decide +kernel
theorem dX7_term_51 : decode cX7_term 51 = .ok (.iload 6, 2) := by decide +kernel
theorem dX7_term_53 : decode cX7_term 53 = .ok (.bipush (-13), 2) := by decide +kernel
theorem dX7_term_55 : decode cX7_term 55 = .ok (.if_icmp .le 112, 3) := by decide +kernel
theorem dX7_term_58 : decode cX7_term 58 = .ok (.sipush 1150, 3) := by decide +kernel
theorem dX7_term_61 : decode cX7_term 61 = .ok (.iload_n 1, 1) := by decide +kernel
theorem dX7_term_62 : decode cX7_term 62 = .ok (.imul, 1) := by decide +kernel
theorem dX7_term_63 : decode cX7_term 63 = .ok (.bipush 25, 2) := by decide +kernel
theorem dX7_term_65 : decode cX7_term 65 = .ok (.iload 5, 2) := by decide +kernel
theorem dX7_term_67 : decode cX7_term 67 = .ok (.imul, 1) := by decide +kernel
theorem dX7_term_68 : decode cX7_term 68 = .ok (.iadd, 1) := by decide +kernel
theorem dX7_term_69 : decode cX7_term 69 = .ok (.iload 6, 2) := by decide +kernel
theorem dX7_term_71 : decode cX7_term 71 = .ok (.iadd, 1) := by decide +kernel
theorem dX7_term_72 : decode cX7_term 72 = .ok (.bipush 12, 2) := by decide +kernel
theorem dX7_term_74 : decode cX7_term 74 = .ok (.iadd, 1) := by decide +kernel
theorem dX7_term_75 : decode cX7_term 75 = .ok (.istore 7, 2) := by decide +kernel
theorem dX7_term_77 : decode cX7_term 77 = .ok (.aload_n 0, 1) := by decide +kernel
theorem dX7_term_78 : decode cX7_term 78 = .ok (.getfield 20, 3) := by decide +kernel
theorem dX7_term_81 : decode cX7_term 81 = .ok (.iload 7, 2) := by decide +kernel
theorem dX7_term_83 : decode cX7_term 83 = .ok (.laload, 1) := by decide +kernel
theorem dX7_term_84 : decode cX7_term 84 = .ok (.lconst 0, 1) := by decide +kernel
theorem dX7_term_85 : decode cX7_term 85 = .ok (.lcmp, 1) := by decide +kernel
theorem dX7_term_86 : decode cX7_term 86 = .ok (.ifCond .ne 6, 3) := by decide +kernel
theorem dX7_term_89 : decode cX7_term 89 = .ok (.goto 72, 3) := by decide +kernel
theorem dX7_term_92 : decode cX7_term 92 = .ok (.iload 4, 2) := by decide +kernel
theorem dX7_term_94 : decode cX7_term 94 = .ok (.ifCond .ne 64, 3) := by decide +kernel
theorem dX7_term_97 : decode cX7_term 97 = .ok (.iload_n 3, 1) := by decide +kernel
theorem dX7_term_98 : decode cX7_term 98 = .ok (.ifCond .ne 13, 3) := by decide +kernel
theorem dX7_term_101 : decode cX7_term 101 = .ok (.aload_n 0, 1) := by decide +kernel
theorem dX7_term_102 : decode cX7_term 102 = .ok (.getfield 20, 3) := by decide +kernel
theorem dX7_term_105 : decode cX7_term 105 = .ok (.iload 7, 2) := by decide +kernel
theorem dX7_term_107 : decode cX7_term 107 = .ok (.laload, 1) := by decide +kernel
theorem dX7_term_108 : decode cX7_term 108 = .ok (.goto 49, 3) := by decide +kernel
theorem dX7_term_111 : decode cX7_term 111 = .ok (.iload_n 3, 1) := by decide +kernel
theorem dX7_term_112 : decode cX7_term 112 = .ok (.iconst 1, 1) := by decide +kernel
theorem dX7_term_113 : decode cX7_term 113 = .ok (.if_icmp .ne 13, 3) := by decide +kernel
theorem dX7_term_116 : decode cX7_term 116 = .ok (.aload_n 0, 1) := by decide +kernel
theorem dX7_term_117 : decode cX7_term 117 = .ok (.getfield 24, 3) := by decide +kernel
theorem dX7_term_120 : decode cX7_term 120 = .ok (.iload 7, 2) := by decide +kernel
theorem dX7_term_122 : decode cX7_term 122 = .ok (.laload, 1) := by decide +kernel
theorem dX7_term_123 : decode cX7_term 123 = .ok (.goto 34, 3) := by decide +kernel
theorem dX7_term_126 : decode cX7_term 126 = .ok (.iload_n 3, 1) := by decide +kernel
theorem dX7_term_127 : decode cX7_term 127 = .ok (.iconst 2, 1) := by decide +kernel
theorem dX7_term_128 : decode cX7_term 128 = .ok (.if_icmp .ne 12, 3) := by decide +kernel
theorem dX7_term_131 : decode cX7_term 131 = .ok (.iload 5, 2) := by decide +kernel
theorem dX7_term_133 : decode cX7_term 133 = .ok (.invokestatic 141, 3) := by decide +kernel
theorem dX7_term_136 : decode cX7_term 136 = .ok (.i2l, 1) := by decide +kernel
theorem dX7_term_137 : decode cX7_term 137 = .ok (.goto 20, 3) := by decide +kernel
theorem dX7_term_140 : decode cX7_term 140 = .ok (.iload_n 3, 1) := by decide +kernel
theorem dX7_term_141 : decode cX7_term 141 = .ok (.iconst 3, 1) := by decide +kernel
theorem dX7_term_142 : decode cX7_term 142 = .ok (.if_icmp .ne 12, 3) := by decide +kernel
theorem dX7_term_145 : decode cX7_term 145 = .ok (.iload 5, 2) := by decide +kernel
theorem dX7_term_147 : decode cX7_term 147 = .ok (.invokestatic 63, 3) := by decide +kernel
theorem dX7_term_150 : decode cX7_term 150 = .ok (.i2l, 1) := by decide +kernel
theorem dX7_term_151 : decode cX7_term 151 = .ok (.goto 6, 3) := by decide +kernel
theorem dX7_term_154 : decode cX7_term 154 = .ok (.iload 6, 2) := by decide +kernel
theorem dX7_term_156 : decode cX7_term 156 = .ok (.i2l, 1) := by decide +kernel
theorem dX7_term_157 : decode cX7_term 157 = .ok (.lreturn, 1) := by decide +kernel
theorem dX7_term_158 : decode cX7_term 158 = .ok (.iinc 4 (-1), 3) := by decide +kernel
theorem dX7_term_161 : decode cX7_term 161 = .ok (.iinc 6 (-1), 3) := by decide +kernel
theorem dX7_term_164 : decode cX7_term 164 = .ok (.goto (-113), 3) := by decide +kernel
theorem dX7_term_167 : decode cX7_term 167 = .ok (.iinc 5 1, 3) := by decide +kernel
theorem dX7_term_170 : decode cX7_term 170 = .ok (.goto (-134), 3) := by decide +kernel
theorem dX7_term_173 : decode cX7_term 173 = .ok (.lconst 0, 1) := by decide +kernel
theorem dX7_term_174 : decode cX7_term 174 = .ok (.lreturn, 1) := by decide +kernel
