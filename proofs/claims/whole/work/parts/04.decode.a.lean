theorem dX0_turned_0 : decode cX0_turned 0 = .ok (.iload_n 0, 1) := by decide +kernel
theorem dX0_turned_1 : decode cX0_turned 1 = .ok (.iconst 3, 1) := by decide +kernel
theorem dX0_turned_2 : decode cX0_turned 2 = .ok (.if_icmp .ne 7, 3) := by decide +kernel
theorem dX0_turned_5 : decode cX0_turned 5 = .ok (.iconst 4, 1) := by decide +kernel
theorem dX0_turned_6 : decode cX0_turned 6 = .ok (.goto 13, 3) := by decide +kernel
theorem dX0_turned_9 : decode cX0_turned 9 = .ok (.iload_n 0, 1) := by decide +kernel
theorem dX0_turned_10 : decode cX0_turned 10 = .ok (.iconst 4, 1) := by decide +kernel
theorem dX0_turned_11 : decode cX0_turned 11 = .ok (.if_icmp .ne 7, 3) := by decide +kernel
theorem dX0_turned_14 : decode cX0_turned 14 = .ok (.iconst 3, 1) := by decide +kernel
theorem dX0_turned_15 : decode cX0_turned 15 = .ok (.goto 4, 3) := by decide +kernel
theorem dX0_turned_18 : decode cX0_turned 18 = .ok (.iload_n 0, 1) := by decide +kernel
theorem dX0_turned_19 : decode cX0_turned 19 = .ok (.ireturn, 1) := by decide +kernel
theorem dX0_signDerived_0 : decode cX0_signDerived 0 = .ok (.iload_n 0, 1) := by decide +kernel
theorem dX0_signDerived_1 : decode cX0_signDerived 1 = .ok (.iconst 4, 1) := by decide +kernel
theorem dX0_signDerived_2 : decode cX0_signDerived 2 = .ok (.if_icmp .ne 7, 3) := by decide +kernel
theorem dX0_signDerived_5 : decode cX0_signDerived 5 = .ok (.iconst (-1), 1) := by decide +kernel
theorem dX0_signDerived_6 : decode cX0_signDerived 6 = .ok (.goto 4, 3) := by decide +kernel
theorem dX0_signDerived_9 : decode cX0_signDerived 9 = .ok (.iconst 1, 1) := by decide +kernel
theorem dX0_signDerived_10 : decode cX0_signDerived 10 = .ok (.ireturn, 1) := by decide +kernel
theorem dX0_signIntegrated_0 : decode cX0_signIntegrated 0 = .ok (.iload_n 0, 1) := by decide +kernel
theorem dX0_signIntegrated_1 : decode cX0_signIntegrated 1 = .ok (.iconst 3, 1) := by decide +kernel
theorem dX0_signIntegrated_2 : decode cX0_signIntegrated 2 = .ok (.if_icmp .ne 7, 3) := by decide +kernel
theorem dX0_signIntegrated_5 : decode cX0_signIntegrated 5 = .ok (.iconst (-1), 1) := by decide +kernel
theorem dX0_signIntegrated_6 : decode cX0_signIntegrated 6 = .ok (.goto 4, 3) := by decide +kernel
theorem dX0_signIntegrated_9 : decode cX0_signIntegrated 9 = .ok (.iconst 1, 1) := by decide +kernel
theorem dX0_signIntegrated_10 : decode cX0_signIntegrated 10 = .ok (.ireturn, 1) := by decide +kernel
theorem dX0_putDerivative_0 : decode cX0_putDerivative 0 = .ok (.iconst 0, 1) := by decide +kernel
theorem dX0_putDerivative_1 : decode cX0_putDerivative 1 = .ok (.istore_n 2, 1) := by decide +kernel
theorem dX0_putDerivative_2 : decode cX0_putDerivative 2 = .ok (.iload_n 2, 1) := by decide +kernel
theorem dX0_putDerivative_3 : decode cX0_putDerivative 3 = .ok (.aload_n 1, 1) := by decide +kernel
theorem dX0_putDerivative_4 : decode cX0_putDerivative 4 = .ok (.invokevirtual 9, 3) := by decide +kernel
theorem dX0_putDerivative_7 : decode cX0_putDerivative 7 = .ok (.if_icmp .ge 121, 3) := by decide +kernel
theorem dX0_putDerivative_10 : decode cX0_putDerivative 10 = .ok (.aload_n 1, 1) := by decide +kernel
theorem dX0_putDerivative_11 : decode cX0_putDerivative 11 = .ok (.iload_n 2, 1) := by decide +kernel
theorem dX0_putDerivative_12 : decode cX0_putDerivative 12 = .ok (.invokevirtual 15, 3) := by decide +kernel
theorem dX0_putDerivative_15 : decode cX0_putDerivative 15 = .ok (.istore_n 3, 1) := by decide +kernel
theorem dX0_putDerivative_16 : decode cX0_putDerivative 16 = .ok (.aload_n 1, 1) := by decide +kernel
theorem dX0_putDerivative_17 : decode cX0_putDerivative 17 = .ok (.iload_n 2, 1) := by decide +kernel
theorem dX0_putDerivative_18 : decode cX0_putDerivative 18 = .ok (.invokevirtual 19, 3) := by decide +kernel
theorem dX0_putDerivative_21 : decode cX0_putDerivative 21 = .ok (.istore 4, 2) := by decide +kernel
theorem dX0_putDerivative_23 : decode cX0_putDerivative 23 = .ok (.aload_n 1, 1) := by decide +kernel
theorem dX0_putDerivative_24 : decode cX0_putDerivative 24 = .ok (.iload_n 2, 1) := by decide +kernel
theorem dX0_putDerivative_25 : decode cX0_putDerivative 25 = .ok (.invokevirtual 22, 3) := by decide +kernel
theorem dX0_putDerivative_28 : decode cX0_putDerivative 28 = .ok (.istore 5, 2) := by decide +kernel
theorem dX0_putDerivative_30 : decode cX0_putDerivative 30 = .ok (.aload_n 1, 1) := by decide +kernel
theorem dX0_putDerivative_31 : decode cX0_putDerivative 31 = .ok (.iload_n 2, 1) := by decide +kernel
theorem dX0_putDerivative_32 : decode cX0_putDerivative 32 = .ok (.invokevirtual 25, 3) := by decide +kernel
theorem dX0_putDerivative_35 : decode cX0_putDerivative 35 = .ok (.lstore 6, 2) := by decide +kernel
theorem dX0_putDerivative_37 : decode cX0_putDerivative 37 = .ok (.aload_n 1, 1) := by decide +kernel
theorem dX0_putDerivative_38 : decode cX0_putDerivative 38 = .ok (.iload_n 2, 1) := by decide +kernel
theorem dX0_putDerivative_39 : decode cX0_putDerivative 39 = .ok (.invokevirtual 29, 3) := by decide +kernel
theorem dX0_putDerivative_42 : decode cX0_putDerivative 42 = .ok (.lstore 8, 2) := by decide +kernel
theorem dX0_putDerivative_44 : decode cX0_putDerivative 44 = .ok (.aload_n 0, 1) := by decide +kernel
theorem dX0_putDerivative_45 : decode cX0_putDerivative 45 = .ok (.iload_n 3, 1) := by decide +kernel
theorem dX0_putDerivative_46 : decode cX0_putDerivative 46 = .ok (.iload 4, 2) := by decide +kernel
theorem dX0_putDerivative_48 : decode cX0_putDerivative 48 = .ok (.iload 5, 2) := by decide +kernel
theorem dX0_putDerivative_50 : decode cX0_putDerivative 50 = .ok (.iconst 1, 1) := by decide +kernel
theorem dX0_putDerivative_51 : decode cX0_putDerivative 51 = .ok (.isub, 1) := by decide +kernel
theorem dX0_putDerivative_52 : decode cX0_putDerivative 52 = .ok (.lload 6, 2) := by decide +kernel
theorem dX0_putDerivative_54 : decode cX0_putDerivative 54 = .ok (.iload 5, 2) := by decide +kernel
theorem dX0_putDerivative_56 : decode cX0_putDerivative 56 = .ok (.i2l, 1) := by decide +kernel
theorem dX0_putDerivative_57 : decode cX0_putDerivative 57 = .ok (.lmul, 1) := by decide +kernel
theorem dX0_putDerivative_58 : decode cX0_putDerivative 58 = .ok (.lload 8, 2) := by decide +kernel
theorem dX0_putDerivative_60 : decode cX0_putDerivative 60 = .ok (.invokevirtual 32, 3) := by decide +kernel
theorem dX0_putDerivative_63 : decode cX0_putDerivative 63 = .ok (.iload_n 3, 1) := by decide +kernel
theorem dX0_putDerivative_64 : decode cX0_putDerivative 64 = .ok (.iconst 1, 1) := by decide +kernel
theorem dX0_putDerivative_65 : decode cX0_putDerivative 65 = .ok (.if_icmp .ne 27, 3) := by decide +kernel
theorem dX0_putDerivative_68 : decode cX0_putDerivative 68 = .ok (.aload_n 0, 1) := by decide +kernel
theorem dX0_putDerivative_69 : decode cX0_putDerivative 69 = .ok (.iconst 1, 1) := by decide +kernel
theorem dX0_putDerivative_70 : decode cX0_putDerivative 70 = .ok (.iload 4, 2) := by decide +kernel
theorem dX0_putDerivative_72 : decode cX0_putDerivative 72 = .ok (.iconst 1, 1) := by decide +kernel
theorem dX0_putDerivative_73 : decode cX0_putDerivative 73 = .ok (.isub, 1) := by decide +kernel
theorem dX0_putDerivative_74 : decode cX0_putDerivative 74 = .ok (.iload 5, 2) := by decide +kernel
theorem dX0_putDerivative_76 : decode cX0_putDerivative 76 = .ok (.iconst 1, 1) := by decide +kernel
theorem dX0_putDerivative_77 : decode cX0_putDerivative 77 = .ok (.isub, 1) := by decide +kernel
theorem dX0_putDerivative_78 : decode cX0_putDerivative 78 = .ok (.lload 6, 2) := by decide +kernel
theorem dX0_putDerivative_80 : decode cX0_putDerivative 80 = .ok (.iload 4, 2) := by decide +kernel
theorem dX0_putDerivative_82 : decode cX0_putDerivative 82 = .ok (.i2l, 1) := by decide +kernel
theorem dX0_putDerivative_83 : decode cX0_putDerivative 83 = .ok (.lmul, 1) := by decide +kernel
theorem dX0_putDerivative_84 : decode cX0_putDerivative 84 = .ok (.lload 8, 2) := by decide +kernel
theorem dX0_putDerivative_86 : decode cX0_putDerivative 86 = .ok (.invokevirtual 32, 3) := by decide +kernel
theorem dX0_putDerivative_89 : decode cX0_putDerivative 89 = .ok (.goto 33, 3) := by decide +kernel
theorem dX0_putDerivative_92 : decode cX0_putDerivative 92 = .ok (.iload_n 3, 1) := by decide +kernel
theorem dX0_putDerivative_93 : decode cX0_putDerivative 93 = .ok (.ifCond .eq 29, 3) := by decide +kernel
theorem dX0_putDerivative_96 : decode cX0_putDerivative 96 = .ok (.aload_n 0, 1) := by decide +kernel
theorem dX0_putDerivative_97 : decode cX0_putDerivative 97 = .ok (.iload_n 3, 1) := by decide +kernel
theorem dX0_putDerivative_98 : decode cX0_putDerivative 98 = .ok (.invokestatic 36, 3) := by decide +kernel
theorem dX0_putDerivative_101 : decode cX0_putDerivative 101 = .ok (.iload 4, 2) := by decide +kernel
theorem dX0_putDerivative_103 : decode cX0_putDerivative 103 = .ok (.iload 5, 2) := by decide +kernel
theorem dX0_putDerivative_105 : decode cX0_putDerivative 105 = .ok (.lload 6, 2) := by decide +kernel
theorem dX0_putDerivative_107 : decode cX0_putDerivative 107 = .ok (.iload 4, 2) := by decide +kernel
theorem dX0_putDerivative_109 : decode cX0_putDerivative 109 = .ok (.i2l, 1) := by decide +kernel
theorem dX0_putDerivative_110 : decode cX0_putDerivative 110 = .ok (.lmul, 1) := by decide +kernel
theorem dX0_putDerivative_111 : decode cX0_putDerivative 111 = .ok (.iload_n 3, 1) := by decide +kernel
theorem dX0_putDerivative_112 : decode cX0_putDerivative 112 = .ok (.invokestatic 41, 3) := by decide +kernel
theorem dX0_putDerivative_115 : decode cX0_putDerivative 115 = .ok (.i2l, 1) := by decide +kernel
theorem dX0_putDerivative_116 : decode cX0_putDerivative 116 = .ok (.lmul, 1) := by decide +kernel
theorem dX0_putDerivative_117 : decode cX0_putDerivative 117 = .ok (.lload 8, 2) := by decide +kernel
theorem dX0_putDerivative_119 : decode cX0_putDerivative 119 = .ok (.invokevirtual 32, 3) := by decide +kernel
theorem dX0_putDerivative_122 : decode cX0_putDerivative 122 = .ok (.iinc 2 1, 3) := by decide +kernel
theorem dX0_putDerivative_125 : decode cX0_putDerivative 125 = .ok (.goto (-123), 3) := by decide +kernel
theorem dX0_putDerivative_128 : decode cX0_putDerivative 128 = .ok (.return_, 1) := by decide +kernel
theorem dX0_putIntegral_0 : decode cX0_putIntegral 0 = .ok (.iconst 0, 1) := by decide +kernel
theorem dX0_putIntegral_1 : decode cX0_putIntegral 1 = .ok (.istore_n 3, 1) := by decide +kernel
theorem dX0_putIntegral_2 : decode cX0_putIntegral 2 = .ok (.iload_n 3, 1) := by decide +kernel
theorem dX0_putIntegral_3 : decode cX0_putIntegral 3 = .ok (.aload_n 2, 1) := by decide +kernel
theorem dX0_putIntegral_4 : decode cX0_putIntegral 4 = .ok (.invokevirtual 9, 3) := by decide +kernel
theorem dX0_putIntegral_7 : decode cX0_putIntegral 7 = .ok (.if_icmp .ge 107, 3) := by decide +kernel
theorem dX0_putIntegral_10 : decode cX0_putIntegral 10 = .ok (.aload_n 2, 1) := by decide +kernel
theorem dX0_putIntegral_11 : decode cX0_putIntegral 11 = .ok (.iload_n 3, 1) := by decide +kernel
theorem dX0_putIntegral_12 : decode cX0_putIntegral 12 = .ok (.invokevirtual 15, 3) := by decide +kernel
theorem dX0_putIntegral_15 : decode cX0_putIntegral 15 = .ok (.istore 4, 2) := by decide +kernel
theorem dX0_putIntegral_17 : decode cX0_putIntegral 17 = .ok (.aload_n 2, 1) := by decide +kernel
theorem dX0_putIntegral_18 : decode cX0_putIntegral 18 = .ok (.iload_n 3, 1) := by decide +kernel
theorem dX0_putIntegral_19 : decode cX0_putIntegral 19 = .ok (.invokevirtual 19, 3) := by decide +kernel
theorem dX0_putIntegral_22 : decode cX0_putIntegral 22 = .ok (.istore 5, 2) := by decide +kernel
theorem dX0_putIntegral_24 : decode cX0_putIntegral 24 = .ok (.aload_n 2, 1) := by decide +kernel
theorem dX0_putIntegral_25 : decode cX0_putIntegral 25 = .ok (.iload_n 3, 1) := by decide +kernel
theorem dX0_putIntegral_26 : decode cX0_putIntegral 26 = .ok (.invokevirtual 22, 3) := by decide +kernel
theorem dX0_putIntegral_29 : decode cX0_putIntegral 29 = .ok (.istore 6, 2) := by decide +kernel
theorem dX0_putIntegral_31 : decode cX0_putIntegral 31 = .ok (.aload_n 2, 1) := by decide +kernel
theorem dX0_putIntegral_32 : decode cX0_putIntegral 32 = .ok (.iload_n 3, 1) := by decide +kernel
theorem dX0_putIntegral_33 : decode cX0_putIntegral 33 = .ok (.invokevirtual 25, 3) := by decide +kernel
theorem dX0_putIntegral_36 : decode cX0_putIntegral 36 = .ok (.lstore 7, 2) := by decide +kernel
theorem dX0_putIntegral_38 : decode cX0_putIntegral 38 = .ok (.aload_n 2, 1) := by decide +kernel
theorem dX0_putIntegral_39 : decode cX0_putIntegral 39 = .ok (.iload_n 3, 1) := by decide +kernel
theorem dX0_putIntegral_40 : decode cX0_putIntegral 40 = .ok (.invokevirtual 29, 3) := by decide +kernel
theorem dX0_putIntegral_43 : decode cX0_putIntegral 43 = .ok (.lstore 9, 2) := by decide +kernel
theorem dX0_putIntegral_45 : decode cX0_putIntegral 45 = .ok (.iload 4, 2) := by decide +kernel
theorem dX0_putIntegral_47 : decode cX0_putIntegral 47 = .ok (.ifCond .eq 9, 3) := by decide +kernel
theorem dX0_putIntegral_50 : decode cX0_putIntegral 50 = .ok (.iload 4, 2) := by decide +kernel
theorem dX0_putIntegral_52 : decode cX0_putIntegral 52 = .ok (.iconst 1, 1) := by decide +kernel
theorem dX0_putIntegral_53 : decode cX0_putIntegral 53 = .ok (.if_icmp .ne 18, 3) := by decide +kernel
theorem dX0_putIntegral_56 : decode cX0_putIntegral 56 = .ok (.aload_n 0, 1) := by decide +kernel
theorem dX0_putIntegral_57 : decode cX0_putIntegral 57 = .ok (.iload 5, 2) := by decide +kernel
theorem dX0_putIntegral_59 : decode cX0_putIntegral 59 = .ok (.iload 6, 2) := by decide +kernel
theorem dX0_putIntegral_61 : decode cX0_putIntegral 61 = .ok (.lload 7, 2) := by decide +kernel
theorem dX0_putIntegral_63 : decode cX0_putIntegral 63 = .ok (.lload 9, 2) := by decide +kernel
theorem dX0_putIntegral_65 : decode cX0_putIntegral 65 = .ok (.invokestatic 44, 3) := by decide +kernel
theorem dX0_putIntegral_68 : decode cX0_putIntegral 68 = .ok (.goto 40, 3) := by decide +kernel
theorem dX0_putIntegral_71 : decode cX0_putIntegral 71 = .ok (.iload 6, 2) := by decide +kernel
theorem dX0_putIntegral_73 : decode cX0_putIntegral 73 = .ok (.ifCond .lt 20, 3) := by decide +kernel
theorem dX0_putIntegral_76 : decode cX0_putIntegral 76 = .ok (.aload_n 0, 1) := by decide +kernel
theorem dX0_putIntegral_77 : decode cX0_putIntegral 77 = .ok (.iload 4, 2) := by decide +kernel
theorem dX0_putIntegral_79 : decode cX0_putIntegral 79 = .ok (.iload 5, 2) := by decide +kernel
theorem dX0_putIntegral_81 : decode cX0_putIntegral 81 = .ok (.iload 6, 2) := by decide +kernel
theorem dX0_putIntegral_83 : decode cX0_putIntegral 83 = .ok (.lload 7, 2) := by decide +kernel
theorem dX0_putIntegral_85 : decode cX0_putIntegral 85 = .ok (.lload 9, 2) := by decide +kernel
theorem dX0_putIntegral_87 : decode cX0_putIntegral 87 = .ok (.invokestatic 48, 3) := by decide +kernel
theorem dX0_putIntegral_90 : decode cX0_putIntegral 90 = .ok (.goto 18, 3) := by decide +kernel
theorem dX0_putIntegral_93 : decode cX0_putIntegral 93 = .ok (.aload_n 0, 1) := by decide +kernel
theorem dX0_putIntegral_94 : decode cX0_putIntegral 94 = .ok (.aload_n 1, 1) := by decide +kernel
theorem dX0_putIntegral_95 : decode cX0_putIntegral 95 = .ok (.iload 4, 2) := by decide +kernel
theorem dX0_putIntegral_97 : decode cX0_putIntegral 97 = .ok (.iload 5, 2) := by decide +kernel
theorem dX0_putIntegral_99 : decode cX0_putIntegral 99 = .ok (.iload 6, 2) := by decide +kernel
theorem dX0_putIntegral_101 : decode cX0_putIntegral 101 = .ok (.lload 7, 2) := by decide +kernel
theorem dX0_putIntegral_103 : decode cX0_putIntegral 103 = .ok (.lload 9, 2) := by decide +kernel
theorem dX0_putIntegral_105 : decode cX0_putIntegral 105 = .ok (.invokestatic 52, 3) := by decide +kernel
theorem dX0_putIntegral_108 : decode cX0_putIntegral 108 = .ok (.iinc 3 1, 3) := by decide +kernel
theorem dX0_putIntegral_111 : decode cX0_putIntegral 111 = .ok (.goto (-109), 3) := by decide +kernel
theorem dX0_putIntegral_114 : decode cX0_putIntegral 114 = .ok (.return_, 1) := by decide +kernel
theorem dX0_integrateLog_0 : decode cX0_integrateLog 0 = .ok (.iload_n 2, 1) := by decide +kernel
theorem dX0_integrateLog_1 : decode cX0_integrateLog 1 = .ok (.iconst (-1), 1) := by decide +kernel
theorem dX0_integrateLog_2 : decode cX0_integrateLog 2 = .ok (.if_icmp .ne 21, 3) := by decide +kernel
theorem dX0_integrateLog_5 : decode cX0_integrateLog 5 = .ok (.aload_n 0, 1) := by decide +kernel
theorem dX0_integrateLog_6 : decode cX0_integrateLog 6 = .ok (.iconst 1, 1) := by decide +kernel
theorem dX0_integrateLog_7 : decode cX0_integrateLog 7 = .ok (.iload_n 1, 1) := by decide +kernel
theorem dX0_integrateLog_8 : decode cX0_integrateLog 8 = .ok (.iconst 1, 1) := by decide +kernel
theorem dX0_integrateLog_9 : decode cX0_integrateLog 9 = .ok (.iadd, 1) := by decide +kernel
theorem dX0_integrateLog_10 : decode cX0_integrateLog 10 = .ok (.iconst 0, 1) := by decide +kernel
theorem dX0_integrateLog_11 : decode cX0_integrateLog 11 = .ok (.lload_n 3, 1) := by decide +kernel
theorem dX0_integrateLog_12 : decode cX0_integrateLog 12 = .ok (.lload 5, 2) := by decide +kernel
theorem dX0_integrateLog_14 : decode cX0_integrateLog 14 = .ok (.iload_n 1, 1) := by decide +kernel
theorem dX0_integrateLog_15 : decode cX0_integrateLog 15 = .ok (.iconst 1, 1) := by decide +kernel
theorem dX0_integrateLog_16 : decode cX0_integrateLog 16 = .ok (.iadd, 1) := by decide +kernel
theorem dX0_integrateLog_17 : decode cX0_integrateLog 17 = .ok (.i2l, 1) := by decide +kernel
theorem dX0_integrateLog_18 : decode cX0_integrateLog 18 = .ok (.lmul, 1) := by decide +kernel
theorem dX0_integrateLog_19 : decode cX0_integrateLog 19 = .ok (.invokevirtual 32, 3) := by decide +kernel
theorem dX0_integrateLog_22 : decode cX0_integrateLog 22 = .ok (.return_, 1) := by decide +kernel
theorem dX0_integrateLog_23 : decode cX0_integrateLog 23 = .ok (.lload_n 3, 1) := by decide +kernel
theorem dX0_integrateLog_24 : decode cX0_integrateLog 24 = .ok (.lstore 7, 2) := by decide +kernel
theorem dX0_integrateLog_26 : decode cX0_integrateLog 26 = .ok (.lload 5, 2) := by decide +kernel
theorem dX0_integrateLog_28 : decode cX0_integrateLog 28 = .ok (.lstore 9, 2) := by decide +kernel
theorem dX0_integrateLog_30 : decode cX0_integrateLog 30 = .ok (.iload_n 1, 1) := by decide +kernel
theorem dX0_integrateLog_31 : decode cX0_integrateLog 31 = .ok (.istore 11, 2) := by decide +kernel
theorem dX0_integrateLog_33 : decode cX0_integrateLog 33 = .ok (.iload 11, 2) := by decide +kernel
theorem dX0_integrateLog_35 : decode cX0_integrateLog 35 = .ok (.ifCond .lt 41, 3) := by decide +kernel
theorem dX0_integrateLog_38 : decode cX0_integrateLog 38 = .ok (.lload 9, 2) := by decide +kernel
theorem dX0_integrateLog_40 : decode cX0_integrateLog 40 = .ok (.iload_n 2, 1) := by decide +kernel
theorem dX0_integrateLog_41 : decode cX0_integrateLog 41 = .ok (.iconst 1, 1) := by decide +kernel
theorem dX0_integrateLog_42 : decode cX0_integrateLog 42 = .ok (.iadd, 1) := by decide +kernel
theorem dX0_integrateLog_43 : decode cX0_integrateLog 43 = .ok (.i2l, 1) := by decide +kernel
theorem dX0_integrateLog_44 : decode cX0_integrateLog 44 = .ok (.lmul, 1) := by decide +kernel
theorem dX0_integrateLog_45 : decode cX0_integrateLog 45 = .ok (.lstore 9, 2) := by decide +kernel
theorem dX0_integrateLog_47 : decode cX0_integrateLog 47 = .ok (.aload_n 0, 1) := by decide +kernel
theorem dX0_integrateLog_48 : decode cX0_integrateLog 48 = .ok (.iconst 1, 1) := by decide +kernel
theorem dX0_integrateLog_49 : decode cX0_integrateLog 49 = .ok (.iload 11, 2) := by decide +kernel
theorem dX0_integrateLog_51 : decode cX0_integrateLog 51 = .ok (.iload_n 2, 1) := by decide +kernel
theorem dX0_integrateLog_52 : decode cX0_integrateLog 52 = .ok (.iconst 1, 1) := by decide +kernel
theorem dX0_integrateLog_53 : decode cX0_integrateLog 53 = .ok (.iadd, 1) := by decide +kernel
theorem dX0_integrateLog_54 : decode cX0_integrateLog 54 = .ok (.lload 7, 2) := by decide +kernel
theorem dX0_integrateLog_56 : decode cX0_integrateLog 56 = .ok (.lload 9, 2) := by decide +kernel
theorem dX0_integrateLog_58 : decode cX0_integrateLog 58 = .ok (.invokevirtual 32, 3) := by decide +kernel
theorem dX0_integrateLog_61 : decode cX0_integrateLog 61 = .ok (.lload 7, 2) := by decide +kernel
theorem dX0_integrateLog_63 : decode cX0_integrateLog 63 = .ok (.iload 11, 2) := by decide +kernel
theorem dX0_integrateLog_65 : decode cX0_integrateLog 65 = .ok (.ineg, 1) := by decide +kernel
theorem dX0_integrateLog_66 : decode cX0_integrateLog 66 = .ok (.i2l, 1) := by decide +kernel
theorem dX0_integrateLog_67 : decode cX0_integrateLog 67 = .ok (.lmul, 1) := by decide +kernel
theorem dX0_integrateLog_68 : decode cX0_integrateLog 68 = .ok (.lstore 7, 2) := by decide +kernel
theorem dX0_integrateLog_70 : decode cX0_integrateLog 70 = .ok (.iinc 11 (-1), 3) := by decide +kernel
theorem dX0_integrateLog_73 : decode cX0_integrateLog 73 = .ok (.goto (-40), 3) := by decide +kernel
theorem dX0_integrateLog_76 : decode cX0_integrateLog 76 = .ok (.return_, 1) := by decide +kernel
theorem dX0_lowerPower_0 : decode cX0_lowerPower 0 = .ok (.iload_n 1, 1) := by decide +kernel
theorem dX0_lowerPower_1 : decode cX0_lowerPower 1 = .ok (.istore 8, 2) := by decide +kernel
theorem dX0_lowerPower_3 : decode cX0_lowerPower 3 = .ok (.lload 4, 2) := by decide +kernel
theorem dX0_lowerPower_5 : decode cX0_lowerPower 5 = .ok (.lstore 9, 2) := by decide +kernel
theorem dX0_lowerPower_7 : decode cX0_lowerPower 7 = .ok (.lload 6, 2) := by decide +kernel
theorem dX0_lowerPower_9 : decode cX0_lowerPower 9 = .ok (.lstore 11, 2) := by decide +kernel
theorem dX0_lowerPower_11 : decode cX0_lowerPower 11 = .ok (.iload_n 3, 1) := by decide +kernel
theorem dX0_lowerPower_12 : decode cX0_lowerPower 12 = .ok (.istore 13, 2) := by decide +kernel
theorem dX0_lowerPower_14 : decode cX0_lowerPower 14 = .ok (.iload 13, 2) := by decide +kernel
theorem dX0_lowerPower_16 : decode cX0_lowerPower 16 = .ok (.ifCond .lt 56, 3) := by decide +kernel
theorem dX0_lowerPower_19 : decode cX0_lowerPower 19 = .ok (.lload 9, 2) := by decide +kernel
theorem dX0_lowerPower_21 : decode cX0_lowerPower 21 = .ok (.iload 8, 2) := by decide +kernel
theorem dX0_lowerPower_23 : decode cX0_lowerPower 23 = .ok (.invokestatic 56, 3) := by decide +kernel
theorem dX0_lowerPower_26 : decode cX0_lowerPower 26 = .ok (.i2l, 1) := by decide +kernel
theorem dX0_lowerPower_27 : decode cX0_lowerPower 27 = .ok (.lmul, 1) := by decide +kernel
theorem dX0_lowerPower_28 : decode cX0_lowerPower 28 = .ok (.lstore 9, 2) := by decide +kernel
theorem dX0_lowerPower_30 : decode cX0_lowerPower 30 = .ok (.lload 11, 2) := by decide +kernel
theorem dX0_lowerPower_32 : decode cX0_lowerPower 32 = .ok (.iload_n 2, 1) := by decide +kernel
theorem dX0_lowerPower_33 : decode cX0_lowerPower 33 = .ok (.i2l, 1) := by decide +kernel
theorem dX0_lowerPower_34 : decode cX0_lowerPower 34 = .ok (.lmul, 1) := by decide +kernel
theorem dX0_lowerPower_35 : decode cX0_lowerPower 35 = .ok (.lstore 11, 2) := by decide +kernel
theorem dX0_lowerPower_37 : decode cX0_lowerPower 37 = .ok (.iload 8, 2) := by decide +kernel
theorem dX0_lowerPower_39 : decode cX0_lowerPower 39 = .ok (.invokestatic 36, 3) := by decide +kernel
theorem dX0_lowerPower_42 : decode cX0_lowerPower 42 = .ok (.istore 8, 2) := by decide +kernel
theorem dX0_lowerPower_44 : decode cX0_lowerPower 44 = .ok (.aload_n 0, 1) := by decide +kernel
theorem dX0_lowerPower_45 : decode cX0_lowerPower 45 = .ok (.iload 8, 2) := by decide +kernel
theorem dX0_lowerPower_47 : decode cX0_lowerPower 47 = .ok (.iload_n 2, 1) := by decide +kernel
theorem dX0_lowerPower_48 : decode cX0_lowerPower 48 = .ok (.iload 13, 2) := by decide +kernel
theorem dX0_lowerPower_50 : decode cX0_lowerPower 50 = .ok (.lload 9, 2) := by decide +kernel
theorem dX0_lowerPower_52 : decode cX0_lowerPower 52 = .ok (.lload 11, 2) := by decide +kernel
theorem dX0_lowerPower_54 : decode cX0_lowerPower 54 = .ok (.invokevirtual 32, 3) := by decide +kernel
theorem dX0_lowerPower_57 : decode cX0_lowerPower 57 = .ok (.lload 9, 2) := by decide +kernel
theorem dX0_lowerPower_59 : decode cX0_lowerPower 59 = .ok (.iload 13, 2) := by decide +kernel
theorem dX0_lowerPower_61 : decode cX0_lowerPower 61 = .ok (.ineg, 1) := by decide +kernel
theorem dX0_lowerPower_62 : decode cX0_lowerPower 62 = .ok (.i2l, 1) := by decide +kernel
theorem dX0_lowerPower_63 : decode cX0_lowerPower 63 = .ok (.lmul, 1) := by decide +kernel
theorem dX0_lowerPower_64 : decode cX0_lowerPower 64 = .ok (.lstore 9, 2) := by decide +kernel
theorem dX0_lowerPower_66 : decode cX0_lowerPower 66 = .ok (.iinc 13 (-1), 3) := by decide +kernel
theorem dX0_lowerPower_69 : decode cX0_lowerPower 69 = .ok (.goto (-55), 3) := by decide +kernel
theorem dX0_lowerPower_72 : decode cX0_lowerPower 72 = .ok (.return_, 1) := by decide +kernel
theorem dX0_raisePower_0 : decode cX0_raisePower 0 = .ok (.iload_n 2, 1) := by decide +kernel
theorem dX0_raisePower_1 : decode cX0_raisePower 1 = .ok (.istore 9, 2) := by decide +kernel
theorem dX0_raisePower_3 : decode cX0_raisePower 3 = .ok (.lload 5, 2) := by decide +kernel
theorem dX0_raisePower_5 : decode cX0_raisePower 5 = .ok (.lstore 10, 2) := by decide +kernel
theorem dX0_raisePower_7 : decode cX0_raisePower 7 = .ok (.lload 7, 2) := by decide +kernel
theorem dX0_raisePower_9 : decode cX0_raisePower 9 = .ok (.lstore 12, 2) := by decide +kernel
theorem dX0_raisePower_11 : decode cX0_raisePower 11 = .ok (.iload 4, 2) := by decide +kernel
theorem dX0_raisePower_13 : decode cX0_raisePower 13 = .ok (.istore 14, 2) := by decide +kernel
theorem dX0_raisePower_15 : decode cX0_raisePower 15 = .ok (.iload 14, 2) := by decide +kernel
theorem dX0_raisePower_17 : decode cX0_raisePower 17 = .ok (.iconst (-1), 1) := by decide +kernel
theorem dX0_raisePower_18 : decode cX0_raisePower 18 = .ok (.if_icmp .ge 55, 3) := by decide +kernel
theorem dX0_raisePower_21 : decode cX0_raisePower 21 = .ok (.lload 12, 2) := by decide +kernel
theorem dX0_raisePower_23 : decode cX0_raisePower 23 = .ok (.iload 14, 2) := by decide +kernel
theorem dX0_raisePower_25 : decode cX0_raisePower 25 = .ok (.iconst 1, 1) := by decide +kernel
theorem dX0_raisePower_26 : decode cX0_raisePower 26 = .ok (.iadd, 1) := by decide +kernel
theorem dX0_raisePower_27 : decode cX0_raisePower 27 = .ok (.i2l, 1) := by decide +kernel
theorem dX0_raisePower_28 : decode cX0_raisePower 28 = .ok (.lmul, 1) := by decide +kernel
theorem dX0_raisePower_29 : decode cX0_raisePower 29 = .ok (.lstore 12, 2) := by decide +kernel
theorem dX0_raisePower_31 : decode cX0_raisePower 31 = .ok (.aload_n 0, 1) := by decide +kernel
theorem dX0_raisePower_32 : decode cX0_raisePower 32 = .ok (.iload 9, 2) := by decide +kernel
theorem dX0_raisePower_34 : decode cX0_raisePower 34 = .ok (.iload_n 3, 1) := by decide +kernel
theorem dX0_raisePower_35 : decode cX0_raisePower 35 = .ok (.iload 14, 2) := by decide +kernel
theorem dX0_raisePower_37 : decode cX0_raisePower 37 = .ok (.iconst 1, 1) := by decide +kernel
theorem dX0_raisePower_38 : decode cX0_raisePower 38 = .ok (.iadd, 1) := by decide +kernel
theorem dX0_raisePower_39 : decode cX0_raisePower 39 = .ok (.lload 10, 2) := by decide +kernel
theorem dX0_raisePower_41 : decode cX0_raisePower 41 = .ok (.lload 12, 2) := by decide +kernel
theorem dX0_raisePower_43 : decode cX0_raisePower 43 = .ok (.invokevirtual 32, 3) := by decide +kernel
theorem dX0_raisePower_46 : decode cX0_raisePower 46 = .ok (.lload 10, 2) := by decide +kernel
theorem dX0_raisePower_48 : decode cX0_raisePower 48 = .ok (.iload_n 3, 1) := by decide +kernel
theorem dX0_raisePower_49 : decode cX0_raisePower 49 = .ok (.ineg, 1) := by decide +kernel
theorem dX0_raisePower_50 : decode cX0_raisePower 50 = .ok (.iload 9, 2) := by decide +kernel
theorem dX0_raisePower_52 : decode cX0_raisePower 52 = .ok (.invokestatic 41, 3) := by decide +kernel
theorem dX0_raisePower_55 : decode cX0_raisePower 55 = .ok (.imul, 1) := by decide +kernel
theorem dX0_raisePower_56 : decode cX0_raisePower 56 = .ok (.i2l, 1) := by decide +kernel
theorem dX0_raisePower_57 : decode cX0_raisePower 57 = .ok (.lmul, 1) := by decide +kernel
theorem dX0_raisePower_58 : decode cX0_raisePower 58 = .ok (.lstore 10, 2) := by decide +kernel
theorem dX0_raisePower_60 : decode cX0_raisePower 60 = .ok (.iload 9, 2) := by decide +kernel
theorem dX0_raisePower_62 : decode cX0_raisePower 62 = .ok (.invokestatic 36, 3) := by decide +kernel
theorem dX0_raisePower_65 : decode cX0_raisePower 65 = .ok (.istore 9, 2) := by decide +kernel
theorem dX0_raisePower_67 : decode cX0_raisePower 67 = .ok (.iinc 14 1, 3) := by decide +kernel
theorem dX0_raisePower_70 : decode cX0_raisePower 70 = .ok (.goto (-55), 3) := by decide +kernel
theorem dX0_raisePower_73 : decode cX0_raisePower 73 = .ok (.aload_n 1, 1) := by decide +kernel
theorem dX0_raisePower_74 : decode cX0_raisePower 74 = .ok (.iload 9, 2) := by decide +kernel
theorem dX0_raisePower_76 : decode cX0_raisePower 76 = .ok (.iload_n 3, 1) := by decide +kernel
theorem dX0_raisePower_77 : decode cX0_raisePower 77 = .ok (.iconst (-1), 1) := by decide +kernel
theorem dX0_raisePower_78 : decode cX0_raisePower 78 = .ok (.lload 10, 2) := by decide +kernel
theorem dX0_raisePower_80 : decode cX0_raisePower 80 = .ok (.lload 12, 2) := by decide +kernel
theorem dX0_raisePower_82 : decode cX0_raisePower 82 = .ok (.invokevirtual 32, 3) := by decide +kernel
theorem dX0_raisePower_85 : decode cX0_raisePower 85 = .ok (.return_, 1) := by decide +kernel
theorem dX1_init_0 : decode cX1_init 0 = .ok (.aload_n 0, 1) := by decide +kernel
theorem dX1_init_1 : decode cX1_init 1 = .ok (.invokespecial 3, 3) := by decide +kernel
theorem dX1_init_4 : decode cX1_init 4 = .ok (.aload_n 0, 1) := by decide +kernel
theorem dX1_init_5 : decode cX1_init 5 = .ok (.bipush 100, 2) := by decide +kernel
theorem dX1_init_7 : decode cX1_init 7 = .ok (.newarray .char, 2) := by decide +kernel
theorem dX1_init_9 : decode cX1_init 9 = .ok (.putfield 9, 3) := by decide +kernel
theorem dX1_init_12 : decode cX1_init 12 = .ok (.aload_n 0, 1) := by decide +kernel
theorem dX1_init_13 : decode cX1_init 13 = .ok (.iconst 0, 1) := by decide +kernel
theorem dX1_init_14 : decode cX1_init 14 = .ok (.putfield 15, 3) := by decide +kernel
theorem dX1_init_17 : decode cX1_init 17 = .ok (.return_, 1) := by decide +kernel
theorem dX1_charactersIn_0 : decode cX1_charactersIn 0 = .ok (.iconst 0, 1) := by decide +kernel
theorem dX1_charactersIn_1 : decode cX1_charactersIn 1 = .ok (.istore_n 1, 1) := by decide +kernel
theorem dX1_charactersIn_2 : decode cX1_charactersIn 2 = .ok (.bipush 24, 2) := by decide +kernel
theorem dX1_charactersIn_4 : decode cX1_charactersIn 4 = .ok (.istore_n 2, 1) := by decide +kernel
theorem dX1_charactersIn_5 : decode cX1_charactersIn 5 = .ok (.iload_n 2, 1) := by decide +kernel
theorem dX1_charactersIn_6 : decode cX1_charactersIn 6 = .ok (.ifCond .lt 22, 3) := by decide +kernel
theorem dX1_charactersIn_9 : decode cX1_charactersIn 9 = .ok (.iload_n 0, 1) := by decide +kernel
theorem dX1_charactersIn_10 : decode cX1_charactersIn 10 = .ok (.iload_n 2, 1) := by decide +kernel
theorem dX1_charactersIn_11 : decode cX1_charactersIn 11 = .ok (.iushr, 1) := by decide +kernel
theorem dX1_charactersIn_12 : decode cX1_charactersIn 12 = .ok (.sipush 255, 3) := by decide +kernel
theorem dX1_charactersIn_15 : decode cX1_charactersIn 15 = .ok (.iand, 1) := by decide +kernel
theorem dX1_charactersIn_16 : decode cX1_charactersIn 16 = .ok (.ifCond .eq 6, 3) := by decide +kernel
theorem dX1_charactersIn_19 : decode cX1_charactersIn 19 = .ok (.iinc 1 1, 3) := by decide +kernel
theorem dX1_charactersIn_22 : decode cX1_charactersIn 22 = .ok (.iinc 2 (-8), 3) := by decide +kernel
theorem dX1_charactersIn_25 : decode cX1_charactersIn 25 = .ok (.goto (-20), 3) := by decide +kernel
theorem dX1_charactersIn_28 : decode cX1_charactersIn 28 = .ok (.iload_n 1, 1) := by decide +kernel
theorem dX1_charactersIn_29 : decode cX1_charactersIn 29 = .ok (.ireturn, 1) := by decide +kernel
theorem dX1_append_0 : decode cX1_append 0 = .ok (.bipush 24, 2) := by decide +kernel
theorem dX1_append_2 : decode cX1_append 2 = .ok (.istore_n 2, 1) := by decide +kernel
theorem dX1_append_3 : decode cX1_append 3 = .ok (.iload_n 2, 1) := by decide +kernel
theorem dX1_append_4 : decode cX1_append 4 = .ok (.ifCond .lt 51, 3) := by decide +kernel
theorem dX1_append_7 : decode cX1_append 7 = .ok (.iload_n 1, 1) := by decide +kernel
theorem dX1_append_8 : decode cX1_append 8 = .ok (.iload_n 2, 1) := by decide +kernel
theorem dX1_append_9 : decode cX1_append 9 = .ok (.iushr, 1) := by decide +kernel
theorem dX1_append_10 : decode cX1_append 10 = .ok (.sipush 255, 3) := by decide +kernel
theorem dX1_append_13 : decode cX1_append 13 = .ok (.iand, 1) := by decide +kernel
theorem dX1_append_14 : decode cX1_append 14 = .ok (.istore_n 3, 1) := by decide +kernel
theorem dX1_append_15 : decode cX1_append 15 = .ok (.iload_n 3, 1) := by decide +kernel
theorem dX1_append_16 : decode cX1_append 16 = .ok (.ifCond .eq 33, 3) := by decide +kernel
theorem dX1_append_19 : decode cX1_append 19 = .ok (.aload_n 0, 1) := by decide +kernel
theorem dX1_append_20 : decode cX1_append 20 = .ok (.getfield 15, 3) := by decide +kernel
theorem dX1_append_23 : decode cX1_append 23 = .ok (.bipush 100, 2) := by decide +kernel
theorem dX1_append_25 : decode cX1_append 25 = .ok (.if_icmp .ge 24, 3) := by decide +kernel
theorem dX1_append_28 : decode cX1_append 28 = .ok (.aload_n 0, 1) := by decide +kernel
theorem dX1_append_29 : decode cX1_append 29 = .ok (.getfield 9, 3) := by decide +kernel
theorem dX1_append_32 : decode cX1_append 32 = .ok (.aload_n 0, 1) := by decide +kernel
theorem dX1_append_33 : decode cX1_append 33 = .ok (.getfield 15, 3) := by decide +kernel
theorem dX1_append_36 : decode cX1_append 36 = .ok (.iload_n 3, 1) := by decide +kernel
theorem dX1_append_37 : decode cX1_append 37 = .ok (.i2c, 1) := by decide +kernel
theorem dX1_append_38 : decode cX1_append 38 = .ok (.castore, 1) := by decide +kernel
theorem dX1_append_39 : decode cX1_append 39 = .ok (.aload_n 0, 1) := by decide +kernel
theorem dX1_append_40 : decode cX1_append 40 = .ok (.dup, 1) := by decide +kernel
theorem dX1_append_41 : decode cX1_append 41 = .ok (.getfield 15, 3) := by decide +kernel
theorem dX1_append_44 : decode cX1_append 44 = .ok (.iconst 1, 1) := by decide +kernel
theorem dX1_append_45 : decode cX1_append 45 = .ok (.iadd, 1) := by decide +kernel
theorem dX1_append_46 : decode cX1_append 46 = .ok (.putfield 15, 3) := by decide +kernel
theorem dX1_append_49 : decode cX1_append 49 = .ok (.iinc 2 (-8), 3) := by decide +kernel
theorem dX1_append_52 : decode cX1_append 52 = .ok (.goto (-49), 3) := by decide +kernel
theorem dX1_append_55 : decode cX1_append 55 = .ok (.return_, 1) := by decide +kernel
theorem dX1_clear_0 : decode cX1_clear 0 = .ok (.aload_n 0, 1) := by decide +kernel
theorem dX1_clear_1 : decode cX1_clear 1 = .ok (.iconst 0, 1) := by decide +kernel
theorem dX1_clear_2 : decode cX1_clear 2 = .ok (.putfield 15, 3) := by decide +kernel
theorem dX1_clear_5 : decode cX1_clear 5 = .ok (.return_, 1) := by decide +kernel
theorem dX1_length_0 : decode cX1_length 0 = .ok (.aload_n 0, 1) := by decide +kernel
theorem dX1_length_1 : decode cX1_length 1 = .ok (.getfield 15, 3) := by decide +kernel
theorem dX1_length_4 : decode cX1_length 4 = .ok (.ireturn, 1) := by decide +kernel
theorem dX1_charAt_0 : decode cX1_charAt 0 = .ok (.iload_n 1, 1) := by decide +kernel
theorem dX1_charAt_1 : decode cX1_charAt 1 = .ok (.ifCond .lt 20, 3) := by decide +kernel
theorem dX1_charAt_4 : decode cX1_charAt 4 = .ok (.iload_n 1, 1) := by decide +kernel
theorem dX1_charAt_5 : decode cX1_charAt 5 = .ok (.aload_n 0, 1) := by decide +kernel
theorem dX1_charAt_6 : decode cX1_charAt 6 = .ok (.getfield 15, 3) := by decide +kernel
theorem dX1_charAt_9 : decode cX1_charAt 9 = .ok (.if_icmp .ge 12, 3) := by decide +kernel
theorem dX1_charAt_12 : decode cX1_charAt 12 = .ok (.aload_n 0, 1) := by decide +kernel
theorem dX1_charAt_13 : decode cX1_charAt 13 = .ok (.getfield 9, 3) := by decide +kernel
theorem dX1_charAt_16 : decode cX1_charAt 16 = .ok (.iload_n 1, 1) := by decide +kernel
theorem dX1_charAt_17 : decode cX1_charAt 17 = .ok (.caload, 1) := by decide +kernel
theorem dX1_charAt_18 : decode cX1_charAt 18 = .ok (.goto 4, 3) := by decide +kernel
theorem dX1_charAt_21 : decode cX1_charAt 21 = .ok (.iconst 0, 1) := by decide +kernel
theorem dX1_charAt_22 : decode cX1_charAt 22 = .ok (.ireturn, 1) := by decide +kernel
theorem dX2_canBeTold_0 : decode cX2_canBeTold 0 = .ok (.iconst 0, 1) := by decide +kernel
theorem dX2_canBeTold_1 : decode cX2_canBeTold 1 = .ok (.istore_n 2, 1) := by decide +kernel
theorem dX2_canBeTold_2 : decode cX2_canBeTold 2 = .ok (.iload_n 2, 1) := by decide +kernel
theorem dX2_canBeTold_3 : decode cX2_canBeTold 3 = .ok (.aload_n 0, 1) := by decide +kernel
theorem dX2_canBeTold_4 : decode cX2_canBeTold 4 = .ok (.invokevirtual 9, 3) := by decide +kernel
theorem dX2_canBeTold_7 : decode cX2_canBeTold 7 = .ok (.if_icmp .ge 43, 3) := by decide +kernel
theorem dX2_canBeTold_10 : decode cX2_canBeTold 10 = .ok (.iconst 0, 1) := by decide +kernel
theorem dX2_canBeTold_11 : decode cX2_canBeTold 11 = .ok (.istore_n 3, 1) := by decide +kernel
theorem dX2_canBeTold_12 : decode cX2_canBeTold 12 = .ok (.iload_n 3, 1) := by decide +kernel
theorem dX2_canBeTold_13 : decode cX2_canBeTold 13 = .ok (.aload_n 1, 1) := by decide +kernel
theorem dX2_canBeTold_14 : decode cX2_canBeTold 14 = .ok (.invokevirtual 9, 3) := by decide +kernel
theorem dX2_canBeTold_17 : decode cX2_canBeTold 17 = .ok (.if_icmp .ge 27, 3) := by decide +kernel
theorem dX2_canBeTold_20 : decode cX2_canBeTold 20 = .ok (.aload_n 0, 1) := by decide +kernel
theorem dX2_canBeTold_21 : decode cX2_canBeTold 21 = .ok (.iload_n 2, 1) := by decide +kernel
theorem dX2_canBeTold_22 : decode cX2_canBeTold 22 = .ok (.invokevirtual 15, 3) := by decide +kernel
theorem dX2_canBeTold_25 : decode cX2_canBeTold 25 = .ok (.aload_n 1, 1) := by decide +kernel
theorem dX2_canBeTold_26 : decode cX2_canBeTold 26 = .ok (.iload_n 3, 1) := by decide +kernel
theorem dX2_canBeTold_27 : decode cX2_canBeTold 27 = .ok (.invokevirtual 15, 3) := by decide +kernel
theorem dX2_canBeTold_30 : decode cX2_canBeTold 30 = .ok (.invokestatic 19, 3) := by decide +kernel
theorem dX2_canBeTold_33 : decode cX2_canBeTold 33 = .ok (.ifCond .ne 5, 3) := by decide +kernel
theorem dX2_canBeTold_36 : decode cX2_canBeTold 36 = .ok (.iconst 0, 1) := by decide +kernel
theorem dX2_canBeTold_37 : decode cX2_canBeTold 37 = .ok (.ireturn, 1) := by decide +kernel
theorem dX2_canBeTold_38 : decode cX2_canBeTold 38 = .ok (.iinc 3 1, 3) := by decide +kernel
theorem dX2_canBeTold_41 : decode cX2_canBeTold 41 = .ok (.goto (-29), 3) := by decide +kernel
theorem dX2_canBeTold_44 : decode cX2_canBeTold 44 = .ok (.iinc 2 1, 3) := by decide +kernel
theorem dX2_canBeTold_47 : decode cX2_canBeTold 47 = .ok (.goto (-45), 3) := by decide +kernel
theorem dX2_canBeTold_50 : decode cX2_canBeTold 50 = .ok (.iconst 1, 1) := by decide +kernel
theorem dX2_canBeTold_51 : decode cX2_canBeTold 51 = .ok (.ireturn, 1) := by decide +kernel
theorem dX2_canMeet_0 : decode cX2_canMeet 0 = .ok (.iload_n 0, 1) := by decide +kernel
theorem dX2_canMeet_1 : decode cX2_canMeet 1 = .ok (.iload_n 1, 1) := by decide +kernel
theorem dX2_canMeet_2 : decode cX2_canMeet 2 = .ok (.if_icmp .eq 25, 3) := by decide +kernel
theorem dX2_canMeet_5 : decode cX2_canMeet 5 = .ok (.iload_n 0, 1) := by decide +kernel
theorem dX2_canMeet_6 : decode cX2_canMeet 6 = .ok (.ifCond .eq 21, 3) := by decide +kernel
theorem dX2_canMeet_9 : decode cX2_canMeet 9 = .ok (.iload_n 1, 1) := by decide +kernel
theorem dX2_canMeet_10 : decode cX2_canMeet 10 = .ok (.ifCond .eq 17, 3) := by decide +kernel
theorem dX2_canMeet_13 : decode cX2_canMeet 13 = .ok (.iload_n 0, 1) := by decide +kernel
theorem dX2_canMeet_14 : decode cX2_canMeet 14 = .ok (.invokestatic 25, 3) := by decide +kernel
theorem dX2_canMeet_17 : decode cX2_canMeet 17 = .ok (.ifCond .eq 14, 3) := by decide +kernel
theorem dX2_canMeet_20 : decode cX2_canMeet 20 = .ok (.iload_n 1, 1) := by decide +kernel
theorem dX2_canMeet_21 : decode cX2_canMeet 21 = .ok (.invokestatic 25, 3) := by decide +kernel
theorem dX2_canMeet_24 : decode cX2_canMeet 24 = .ok (.ifCond .eq 7, 3) := by decide +kernel
theorem dX2_canMeet_27 : decode cX2_canMeet 27 = .ok (.iconst 1, 1) := by decide +kernel
theorem dX2_canMeet_28 : decode cX2_canMeet 28 = .ok (.goto 4, 3) := by decide +kernel
theorem dX2_canMeet_31 : decode cX2_canMeet 31 = .ok (.iconst 0, 1) := by decide +kernel
theorem dX2_canMeet_32 : decode cX2_canMeet 32 = .ok (.ireturn, 1) := by decide +kernel
theorem dX2_isWave_0 : decode cX2_isWave 0 = .ok (.iload_n 0, 1) := by decide +kernel
theorem dX2_isWave_1 : decode cX2_isWave 1 = .ok (.iconst 3, 1) := by decide +kernel
theorem dX2_isWave_2 : decode cX2_isWave 2 = .ok (.if_icmp .eq 8, 3) := by decide +kernel
theorem dX2_isWave_5 : decode cX2_isWave 5 = .ok (.iload_n 0, 1) := by decide +kernel
theorem dX2_isWave_6 : decode cX2_isWave 6 = .ok (.iconst 4, 1) := by decide +kernel
theorem dX2_isWave_7 : decode cX2_isWave 7 = .ok (.if_icmp .ne 7, 3) := by decide +kernel
theorem dX2_isWave_10 : decode cX2_isWave 10 = .ok (.iconst 1, 1) := by decide +kernel
theorem dX2_isWave_11 : decode cX2_isWave 11 = .ok (.goto 4, 3) := by decide +kernel
theorem dX2_isWave_14 : decode cX2_isWave 14 = .ok (.iconst 0, 1) := by decide +kernel
theorem dX2_isWave_15 : decode cX2_isWave 15 = .ok (.ireturn, 1) := by decide +kernel
theorem dX2_putProduct_0 : decode cX2_putProduct 0 = .ok (.iconst 0, 1) := by decide +kernel
theorem dX2_putProduct_1 : decode cX2_putProduct 1 = .ok (.istore_n 3, 1) := by decide +kernel
theorem dX2_putProduct_2 : decode cX2_putProduct 2 = .ok (.iload_n 3, 1) := by decide +kernel
theorem dX2_putProduct_3 : decode cX2_putProduct 3 = .ok (.aload_n 1, 1) := by decide +kernel
theorem dX2_putProduct_4 : decode cX2_putProduct 4 = .ok (.invokevirtual 9, 3) := by decide +kernel
theorem dX2_putProduct_7 : decode cX2_putProduct 7 = .ok (.if_icmp .ge 71, 3) := by decide +kernel
theorem dX2_putProduct_10 : decode cX2_putProduct 10 = .ok (.iconst 0, 1) := by decide +kernel
theorem dX2_putProduct_11 : decode cX2_putProduct 11 = .ok (.istore 4, 2) := by decide +kernel
theorem dX2_putProduct_13 : decode cX2_putProduct 13 = .ok (.iload 4, 2) := by decide +kernel
theorem dX2_putProduct_15 : decode cX2_putProduct 15 = .ok (.aload_n 2, 1) := by decide +kernel
theorem dX2_putProduct_16 : decode cX2_putProduct 16 = .ok (.invokevirtual 9, 3) := by decide +kernel
theorem dX2_putProduct_19 : decode cX2_putProduct 19 = .ok (.if_icmp .ge 53, 3) := by decide +kernel
theorem dX2_putProduct_22 : decode cX2_putProduct 22 = .ok (.aload_n 1, 1) := by decide +kernel
theorem dX2_putProduct_23 : decode cX2_putProduct 23 = .ok (.iload_n 3, 1) := by decide +kernel
theorem dX2_putProduct_24 : decode cX2_putProduct 24 = .ok (.invokevirtual 15, 3) := by decide +kernel
theorem dX2_putProduct_27 : decode cX2_putProduct 27 = .ok (.invokestatic 25, 3) := by decide +kernel
theorem dX2_putProduct_30 : decode cX2_putProduct 30 = .ok (.ifCond .eq 27, 3) := by decide +kernel
theorem dX2_putProduct_33 : decode cX2_putProduct 33 = .ok (.aload_n 2, 1) := by decide +kernel
theorem dX2_putProduct_34 : decode cX2_putProduct 34 = .ok (.iload 4, 2) := by decide +kernel
theorem dX2_putProduct_36 : decode cX2_putProduct 36 = .ok (.invokevirtual 15, 3) := by decide +kernel
theorem dX2_putProduct_39 : decode cX2_putProduct 39 = .ok (.invokestatic 25, 3) := by decide +kernel
theorem dX2_putProduct_42 : decode cX2_putProduct 42 = .ok (.ifCond .eq 15, 3) := by decide +kernel
theorem dX2_putProduct_45 : decode cX2_putProduct 45 = .ok (.aload_n 0, 1) := by decide +kernel
theorem dX2_putProduct_46 : decode cX2_putProduct 46 = .ok (.aload_n 1, 1) := by decide +kernel
theorem dX2_putProduct_47 : decode cX2_putProduct 47 = .ok (.iload_n 3, 1) := by decide +kernel
theorem dX2_putProduct_48 : decode cX2_putProduct 48 = .ok (.aload_n 2, 1) := by decide +kernel
theorem dX2_putProduct_49 : decode cX2_putProduct 49 = .ok (.iload 4, 2) := by decide +kernel
theorem dX2_putProduct_51 : decode cX2_putProduct 51 = .ok (.invokestatic 29, 3) := by decide +kernel
theorem dX2_putProduct_54 : decode cX2_putProduct 54 = .ok (.goto 12, 3) := by decide +kernel
theorem dX2_putProduct_57 : decode cX2_putProduct 57 = .ok (.aload_n 0, 1) := by decide +kernel
theorem dX2_putProduct_58 : decode cX2_putProduct 58 = .ok (.aload_n 1, 1) := by decide +kernel
theorem dX2_putProduct_59 : decode cX2_putProduct 59 = .ok (.iload_n 3, 1) := by decide +kernel
theorem dX2_putProduct_60 : decode cX2_putProduct 60 = .ok (.aload_n 2, 1) := by decide +kernel
theorem dX2_putProduct_61 : decode cX2_putProduct 61 = .ok (.iload 4, 2) := by decide +kernel
theorem dX2_putProduct_63 : decode cX2_putProduct 63 = .ok (.invokestatic 33, 3) := by decide +kernel
theorem dX2_putProduct_66 : decode cX2_putProduct 66 = .ok (.iinc 4 1, 3) := by decide +kernel
theorem dX2_putProduct_69 : decode cX2_putProduct 69 = .ok (.goto (-56), 3) := by decide +kernel
theorem dX2_putProduct_72 : decode cX2_putProduct 72 = .ok (.iinc 3 1, 3) := by decide +kernel
theorem dX2_putProduct_75 : decode cX2_putProduct 75 = .ok (.goto (-73), 3) := by decide +kernel
theorem dX2_putProduct_78 : decode cX2_putProduct 78 = .ok (.return_, 1) := by decide +kernel
theorem dX2_putJoined_0 : decode cX2_putJoined 0 = .ok (.aload_n 0, 1) := by decide +kernel
theorem dX2_putJoined_1 : decode cX2_putJoined 1 = .ok (.aload_n 1, 1) := by decide +kernel
theorem dX2_putJoined_2 : decode cX2_putJoined 2 = .ok (.iload_n 2, 1) := by decide +kernel
theorem dX2_putJoined_3 : decode cX2_putJoined 3 = .ok (.invokevirtual 15, 3) := by decide +kernel
theorem dX2_putJoined_6 : decode cX2_putJoined 6 = .ok (.aload_n 3, 1) := by decide +kernel
theorem dX2_putJoined_7 : decode cX2_putJoined 7 = .ok (.iload 4, 2) := by decide +kernel
theorem dX2_putJoined_9 : decode cX2_putJoined 9 = .ok (.invokevirtual 15, 3) := by decide +kernel
theorem dX2_putJoined_12 : decode cX2_putJoined 12 = .ok (.invokestatic 36, 3) := by decide +kernel
theorem dX2_putJoined_15 : decode cX2_putJoined 15 = .ok (.aload_n 1, 1) := by decide +kernel
theorem dX2_putJoined_16 : decode cX2_putJoined 16 = .ok (.iload_n 2, 1) := by decide +kernel
theorem dX2_putJoined_17 : decode cX2_putJoined 17 = .ok (.invokevirtual 42, 3) := by decide +kernel
theorem dX2_putJoined_20 : decode cX2_putJoined 20 = .ok (.aload_n 3, 1) := by decide +kernel
theorem dX2_putJoined_21 : decode cX2_putJoined 21 = .ok (.iload 4, 2) := by decide +kernel
theorem dX2_putJoined_23 : decode cX2_putJoined 23 = .ok (.invokevirtual 42, 3) := by decide +kernel
theorem dX2_putJoined_26 : decode cX2_putJoined 26 = .ok (.iadd, 1) := by decide +kernel
theorem dX2_putJoined_27 : decode cX2_putJoined 27 = .ok (.aload_n 1, 1) := by decide +kernel
theorem dX2_putJoined_28 : decode cX2_putJoined 28 = .ok (.iload_n 2, 1) := by decide +kernel
theorem dX2_putJoined_29 : decode cX2_putJoined 29 = .ok (.invokevirtual 45, 3) := by decide +kernel
theorem dX2_putJoined_32 : decode cX2_putJoined 32 = .ok (.aload_n 3, 1) := by decide +kernel
theorem dX2_putJoined_33 : decode cX2_putJoined 33 = .ok (.iload 4, 2) := by decide +kernel
theorem dX2_putJoined_35 : decode cX2_putJoined 35 = .ok (.invokevirtual 45, 3) := by decide +kernel
theorem dX2_putJoined_38 : decode cX2_putJoined 38 = .ok (.iadd, 1) := by decide +kernel
theorem dX2_putJoined_39 : decode cX2_putJoined 39 = .ok (.aload_n 1, 1) := by decide +kernel
theorem dX2_putJoined_40 : decode cX2_putJoined 40 = .ok (.iload_n 2, 1) := by decide +kernel
theorem dX2_putJoined_41 : decode cX2_putJoined 41 = .ok (.invokevirtual 48, 3) := by decide +kernel
theorem dX2_putJoined_44 : decode cX2_putJoined 44 = .ok (.aload_n 3, 1) := by decide +kernel
theorem dX2_putJoined_45 : decode cX2_putJoined 45 = .ok (.iload 4, 2) := by decide +kernel
theorem dX2_putJoined_47 : decode cX2_putJoined 47 = .ok (.invokevirtual 48, 3) := by decide +kernel
theorem dX2_putJoined_50 : decode cX2_putJoined 50 = .ok (.lmul, 1) := by decide +kernel
theorem dX2_putJoined_51 : decode cX2_putJoined 51 = .ok (.aload_n 1, 1) := by decide +kernel
theorem dX2_putJoined_52 : decode cX2_putJoined 52 = .ok (.iload_n 2, 1) := by decide +kernel
theorem dX2_putJoined_53 : decode cX2_putJoined 53 = .ok (.invokevirtual 52, 3) := by decide +kernel
theorem dX2_putJoined_56 : decode cX2_putJoined 56 = .ok (.aload_n 3, 1) := by decide +kernel
theorem dX2_putJoined_57 : decode cX2_putJoined 57 = .ok (.iload 4, 2) := by decide +kernel
theorem dX2_putJoined_59 : decode cX2_putJoined 59 = .ok (.invokevirtual 52, 3) := by decide +kernel
theorem dX2_putJoined_62 : decode cX2_putJoined 62 = .ok (.lmul, 1) := by decide +kernel
theorem dX2_putJoined_63 : decode cX2_putJoined 63 = .ok (.invokevirtual 55, 3) := by decide +kernel
theorem dX2_putJoined_66 : decode cX2_putJoined 66 = .ok (.return_, 1) := by decide +kernel
theorem dX2_putWaves_0 : decode cX2_putWaves 0 = .ok (.aload_n 1, 1) := by decide +kernel
theorem dX2_putWaves_1 : decode cX2_putWaves 1 = .ok (.iload_n 2, 1) := by decide +kernel
theorem dX2_putWaves_2 : decode cX2_putWaves 2 = .ok (.invokevirtual 15, 3) := by decide +kernel
theorem dX2_putWaves_5 : decode cX2_putWaves 5 = .ok (.istore 5, 2) := by decide +kernel
theorem dX2_putWaves_7 : decode cX2_putWaves 7 = .ok (.aload_n 3, 1) := by decide +kernel
theorem dX2_putWaves_8 : decode cX2_putWaves 8 = .ok (.iload 4, 2) := by decide +kernel
theorem dX2_putWaves_10 : decode cX2_putWaves 10 = .ok (.invokevirtual 15, 3) := by decide +kernel
theorem dX2_putWaves_13 : decode cX2_putWaves 13 = .ok (.istore 6, 2) := by decide +kernel
theorem dX2_putWaves_15 : decode cX2_putWaves 15 = .ok (.iload 5, 2) := by decide +kernel
theorem dX2_putWaves_17 : decode cX2_putWaves 17 = .ok (.iload 6, 2) := by decide +kernel
theorem dX2_putWaves_19 : decode cX2_putWaves 19 = .ok (.if_icmp .ne 7, 3) := by decide +kernel
theorem dX2_putWaves_22 : decode cX2_putWaves 22 = .ok (.iconst 4, 1) := by decide +kernel
theorem dX2_putWaves_23 : decode cX2_putWaves 23 = .ok (.goto 4, 3) := by decide +kernel
theorem dX2_putWaves_26 : decode cX2_putWaves 26 = .ok (.iconst 3, 1) := by decide +kernel
theorem dX2_putWaves_27 : decode cX2_putWaves 27 = .ok (.istore 7, 2) := by decide +kernel
theorem dX2_putWaves_29 : decode cX2_putWaves 29 = .ok (.aload_n 1, 1) := by decide +kernel
theorem dX2_putWaves_30 : decode cX2_putWaves 30 = .ok (.iload_n 2, 1) := by decide +kernel
theorem dX2_putWaves_31 : decode cX2_putWaves 31 = .ok (.invokevirtual 45, 3) := by decide +kernel
theorem dX2_putWaves_34 : decode cX2_putWaves 34 = .ok (.aload_n 3, 1) := by decide +kernel
theorem dX2_putWaves_35 : decode cX2_putWaves 35 = .ok (.iload 4, 2) := by decide +kernel
theorem dX2_putWaves_37 : decode cX2_putWaves 37 = .ok (.invokevirtual 45, 3) := by decide +kernel
theorem dX2_putWaves_40 : decode cX2_putWaves 40 = .ok (.iadd, 1) := by decide +kernel
theorem dX2_putWaves_41 : decode cX2_putWaves 41 = .ok (.istore 8, 2) := by decide +kernel
theorem dX2_putWaves_43 : decode cX2_putWaves 43 = .ok (.aload_n 1, 1) := by decide +kernel
theorem dX2_putWaves_44 : decode cX2_putWaves 44 = .ok (.iload_n 2, 1) := by decide +kernel
theorem dX2_putWaves_45 : decode cX2_putWaves 45 = .ok (.invokevirtual 48, 3) := by decide +kernel
theorem dX2_putWaves_48 : decode cX2_putWaves 48 = .ok (.aload_n 3, 1) := by decide +kernel
theorem dX2_putWaves_49 : decode cX2_putWaves 49 = .ok (.iload 4, 2) := by decide +kernel
theorem dX2_putWaves_51 : decode cX2_putWaves 51 = .ok (.invokevirtual 48, 3) := by decide +kernel
theorem dX2_putWaves_54 : decode cX2_putWaves 54 = .ok (.lmul, 1) := by decide +kernel
theorem dX2_putWaves_55 : decode cX2_putWaves 55 = .ok (.lstore 9, 2) := by decide +kernel
theorem dX2_putWaves_57 : decode cX2_putWaves 57 = .ok (.ldc2_w 59, 3) := by decide +kernel
theorem dX2_putWaves_60 : decode cX2_putWaves 60 = .ok (.aload_n 1, 1) := by decide +kernel
theorem dX2_putWaves_61 : decode cX2_putWaves 61 = .ok (.iload_n 2, 1) := by decide +kernel
theorem dX2_putWaves_62 : decode cX2_putWaves 62 = .ok (.invokevirtual 52, 3) := by decide +kernel
theorem dX2_putWaves_65 : decode cX2_putWaves 65 = .ok (.lmul, 1) := by decide +kernel
theorem dX2_putWaves_66 : decode cX2_putWaves 66 = .ok (.aload_n 3, 1) := by decide +kernel
theorem dX2_putWaves_67 : decode cX2_putWaves 67 = .ok (.iload 4, 2) := by decide +kernel
theorem dX2_putWaves_69 : decode cX2_putWaves 69 = .ok (.invokevirtual 52, 3) := by decide +kernel
theorem dX2_putWaves_72 : decode cX2_putWaves 72 = .ok (.lmul, 1) := by decide +kernel
theorem dX2_putWaves_73 : decode cX2_putWaves 73 = .ok (.lstore 11, 2) := by decide +kernel
theorem dX2_putWaves_75 : decode cX2_putWaves 75 = .ok (.iload 5, 2) := by decide +kernel
theorem dX2_putWaves_77 : decode cX2_putWaves 77 = .ok (.iconst 3, 1) := by decide +kernel
theorem dX2_putWaves_78 : decode cX2_putWaves 78 = .ok (.if_icmp .ne 13, 3) := by decide +kernel
theorem dX2_putWaves_81 : decode cX2_putWaves 81 = .ok (.iload 6, 2) := by decide +kernel
theorem dX2_putWaves_83 : decode cX2_putWaves 83 = .ok (.iconst 3, 1) := by decide +kernel
theorem dX2_putWaves_84 : decode cX2_putWaves 84 = .ok (.if_icmp .ne 7, 3) := by decide +kernel
theorem dX2_putWaves_87 : decode cX2_putWaves 87 = .ok (.iconst 1, 1) := by decide +kernel
theorem dX2_putWaves_88 : decode cX2_putWaves 88 = .ok (.goto 4, 3) := by decide +kernel
theorem dX2_putWaves_91 : decode cX2_putWaves 91 = .ok (.iconst 0, 1) := by decide +kernel
theorem dX2_putWaves_92 : decode cX2_putWaves 92 = .ok (.istore 13, 2) := by decide +kernel
theorem dX2_putWaves_94 : decode cX2_putWaves 94 = .ok (.iload 5, 2) := by decide +kernel
theorem dX2_putWaves_96 : decode cX2_putWaves 96 = .ok (.iconst 4, 1) := by decide +kernel
theorem dX2_putWaves_97 : decode cX2_putWaves 97 = .ok (.if_icmp .ne 13, 3) := by decide +kernel
theorem dX2_putWaves_100 : decode cX2_putWaves 100 = .ok (.iload 6, 2) := by decide +kernel
theorem dX2_putWaves_102 : decode cX2_putWaves 102 = .ok (.iconst 3, 1) := by decide +kernel
theorem dX2_putWaves_103 : decode cX2_putWaves 103 = .ok (.if_icmp .ne 7, 3) := by decide +kernel
theorem dX2_putWaves_106 : decode cX2_putWaves 106 = .ok (.iconst 1, 1) := by decide +kernel
theorem dX2_putWaves_107 : decode cX2_putWaves 107 = .ok (.goto 4, 3) := by decide +kernel
theorem dX2_putWaves_110 : decode cX2_putWaves 110 = .ok (.iconst 0, 1) := by decide +kernel
theorem dX2_putWaves_111 : decode cX2_putWaves 111 = .ok (.istore 14, 2) := by decide +kernel
theorem dX2_putWaves_113 : decode cX2_putWaves 113 = .ok (.aload_n 0, 1) := by decide +kernel
theorem dX2_putWaves_114 : decode cX2_putWaves 114 = .ok (.iload 7, 2) := by decide +kernel
theorem dX2_putWaves_116 : decode cX2_putWaves 116 = .ok (.aload_n 1, 1) := by decide +kernel
theorem dX2_putWaves_117 : decode cX2_putWaves 117 = .ok (.iload_n 2, 1) := by decide +kernel
theorem dX2_putWaves_118 : decode cX2_putWaves 118 = .ok (.invokevirtual 42, 3) := by decide +kernel
theorem dX2_putWaves_121 : decode cX2_putWaves 121 = .ok (.aload_n 3, 1) := by decide +kernel
theorem dX2_putWaves_122 : decode cX2_putWaves 122 = .ok (.iload 4, 2) := by decide +kernel
theorem dX2_putWaves_124 : decode cX2_putWaves 124 = .ok (.invokevirtual 42, 3) := by decide +kernel
theorem dX2_putWaves_127 : decode cX2_putWaves 127 = .ok (.iadd, 1) := by decide +kernel
theorem dX2_putWaves_128 : decode cX2_putWaves 128 = .ok (.iload 8, 2) := by decide +kernel
theorem dX2_putWaves_130 : decode cX2_putWaves 130 = .ok (.iload 13, 2) := by decide +kernel
theorem dX2_putWaves_132 : decode cX2_putWaves 132 = .ok (.ifCond .eq 9, 3) := by decide +kernel
theorem dX2_putWaves_135 : decode cX2_putWaves 135 = .ok (.lload 9, 2) := by decide +kernel
theorem dX2_putWaves_137 : decode cX2_putWaves 137 = .ok (.lneg, 1) := by decide +kernel
theorem dX2_putWaves_138 : decode cX2_putWaves 138 = .ok (.goto 5, 3) := by decide +kernel
theorem dX2_putWaves_141 : decode cX2_putWaves 141 = .ok (.lload 9, 2) := by decide +kernel
theorem dX2_putWaves_143 : decode cX2_putWaves 143 = .ok (.lload 11, 2) := by decide +kernel
theorem dX2_putWaves_145 : decode cX2_putWaves 145 = .ok (.invokevirtual 55, 3) := by decide +kernel
theorem dX2_putWaves_148 : decode cX2_putWaves 148 = .ok (.aload_n 0, 1) := by decide +kernel
theorem dX2_putWaves_149 : decode cX2_putWaves 149 = .ok (.iload 7, 2) := by decide +kernel
theorem dX2_putWaves_151 : decode cX2_putWaves 151 = .ok (.aload_n 1, 1) := by decide +kernel
theorem dX2_putWaves_152 : decode cX2_putWaves 152 = .ok (.iload_n 2, 1) := by decide +kernel
theorem dX2_putWaves_153 : decode cX2_putWaves 153 = .ok (.invokevirtual 42, 3) := by decide +kernel
theorem dX2_putWaves_156 : decode cX2_putWaves 156 = .ok (.aload_n 3, 1) := by decide +kernel
theorem dX2_putWaves_157 : decode cX2_putWaves 157 = .ok (.iload 4, 2) := by decide +kernel
theorem dX2_putWaves_159 : decode cX2_putWaves 159 = .ok (.invokevirtual 42, 3) := by decide +kernel
theorem dX2_putWaves_162 : decode cX2_putWaves 162 = .ok (.isub, 1) := by decide +kernel
theorem dX2_putWaves_163 : decode cX2_putWaves 163 = .ok (.iload 8, 2) := by decide +kernel
theorem dX2_putWaves_165 : decode cX2_putWaves 165 = .ok (.iload 14, 2) := by decide +kernel
theorem dX2_putWaves_167 : decode cX2_putWaves 167 = .ok (.ifCond .eq 9, 3) := by decide +kernel
theorem dX2_putWaves_170 : decode cX2_putWaves 170 = .ok (.lload 9, 2) := by decide +kernel
theorem dX2_putWaves_172 : decode cX2_putWaves 172 = .ok (.lneg, 1) := by decide +kernel
theorem dX2_putWaves_173 : decode cX2_putWaves 173 = .ok (.goto 5, 3) := by decide +kernel
theorem dX2_putWaves_176 : decode cX2_putWaves 176 = .ok (.lload 9, 2) := by decide +kernel
theorem dX2_putWaves_178 : decode cX2_putWaves 178 = .ok (.lload 11, 2) := by decide +kernel
theorem dX2_putWaves_180 : decode cX2_putWaves 180 = .ok (.invokevirtual 55, 3) := by decide +kernel
theorem dX2_putWaves_183 : decode cX2_putWaves 183 = .ok (.return_, 1) := by decide +kernel
theorem dX3_init_0 : decode cX3_init 0 = .ok (.aload_n 0, 1) := by decide +kernel
theorem dX3_init_1 : decode cX3_init 1 = .ok (.invokespecial 3, 3) := by decide +kernel
theorem dX3_init_4 : decode cX3_init 4 = .ok (.aload_n 0, 1) := by decide +kernel
theorem dX3_init_5 : decode cX3_init 5 = .ok (.iconst 0, 1) := by decide +kernel
theorem dX3_init_6 : decode cX3_init 6 = .ok (.putfield 9, 3) := by decide +kernel
theorem dX3_init_9 : decode cX3_init 9 = .ok (.aload_n 0, 1) := by decide +kernel
theorem dX3_init_10 : decode cX3_init 10 = .ok (.iconst 0, 1) := by decide +kernel
theorem dX3_init_11 : decode cX3_init 11 = .ok (.putfield 15, 3) := by decide +kernel
theorem dX3_init_14 : decode cX3_init 14 = .ok (.aload_n 0, 1) := by decide +kernel
theorem dX3_init_15 : decode cX3_init 15 = .ok (.iconst (-1), 1) := by decide +kernel
theorem dX3_init_16 : decode cX3_init 16 = .ok (.putfield 18, 3) := by decide +kernel
theorem dX3_init_19 : decode cX3_init 19 = .ok (.aload_n 0, 1) := by decide +kernel
theorem dX3_init_20 : decode cX3_init 20 = .ok (.lconst 0, 1) := by decide +kernel
theorem dX3_init_21 : decode cX3_init 21 = .ok (.putfield 21, 3) := by decide +kernel
theorem dX3_init_24 : decode cX3_init 24 = .ok (.aload_n 0, 1) := by decide +kernel
theorem dX3_init_25 : decode cX3_init 25 = .ok (.lconst 1, 1) := by decide +kernel
theorem dX3_init_26 : decode cX3_init 26 = .ok (.putfield 25, 3) := by decide +kernel
theorem dX3_init_29 : decode cX3_init 29 = .ok (.aload_n 0, 1) := by decide +kernel
theorem dX3_init_30 : decode cX3_init 30 = .ok (.iconst 0, 1) := by decide +kernel
theorem dX3_init_31 : decode cX3_init 31 = .ok (.putfield 28, 3) := by decide +kernel
theorem dX3_init_34 : decode cX3_init 34 = .ok (.aload_n 0, 1) := by decide +kernel
theorem dX3_init_35 : decode cX3_init 35 = .ok (.iconst 0, 1) := by decide +kernel
theorem dX3_init_36 : decode cX3_init 36 = .ok (.putfield 31, 3) := by decide +kernel
theorem dX3_init_39 : decode cX3_init 39 = .ok (.aload_n 0, 1) := by decide +kernel
theorem dX3_init_40 : decode cX3_init 40 = .ok (.iconst 0, 1) := by decide +kernel
theorem dX3_init_41 : decode cX3_init 41 = .ok (.putfield 34, 3) := by decide +kernel
theorem dX3_init_44 : decode cX3_init 44 = .ok (.aload_n 0, 1) := by decide +kernel
theorem dX3_init_45 : decode cX3_init 45 = .ok (.aload_n 1, 1) := by decide +kernel
theorem dX3_init_46 : decode cX3_init 46 = .ok (.putfield 37, 3) := by decide +kernel
theorem dX3_init_49 : decode cX3_init 49 = .ok (.aload_n 0, 1) := by decide +kernel
theorem dX3_init_50 : decode cX3_init 50 = .ok (.aload_n 2, 1) := by decide +kernel
theorem dX3_init_51 : decode cX3_init 51 = .ok (.putfield 41, 3) := by decide +kernel
theorem dX3_init_54 : decode cX3_init 54 = .ok (.return_, 1) := by decide +kernel
theorem dX3_faultPlace_0 : decode cX3_faultPlace 0 = .ok (.aload_n 0, 1) := by decide +kernel
theorem dX3_faultPlace_1 : decode cX3_faultPlace 1 = .ok (.getfield 18, 3) := by decide +kernel
theorem dX3_faultPlace_4 : decode cX3_faultPlace 4 = .ok (.ireturn, 1) := by decide +kernel
theorem dX3_readLine_0 : decode cX3_readLine 0 = .ok (.aload_n 0, 1) := by decide +kernel
theorem dX3_readLine_1 : decode cX3_readLine 1 = .ok (.iconst 0, 1) := by decide +kernel
theorem dX3_readLine_2 : decode cX3_readLine 2 = .ok (.putfield 9, 3) := by decide +kernel
theorem dX3_readLine_5 : decode cX3_readLine 5 = .ok (.aload_n 0, 1) := by decide +kernel
theorem dX3_readLine_6 : decode cX3_readLine 6 = .ok (.iconst 0, 1) := by decide +kernel
theorem dX3_readLine_7 : decode cX3_readLine 7 = .ok (.putfield 15, 3) := by decide +kernel
theorem dX3_readLine_10 : decode cX3_readLine 10 = .ok (.aload_n 0, 1) := by decide +kernel
theorem dX3_readLine_11 : decode cX3_readLine 11 = .ok (.iconst (-1), 1) := by decide +kernel
theorem dX3_readLine_12 : decode cX3_readLine 12 = .ok (.putfield 18, 3) := by decide +kernel
theorem dX3_readLine_15 : decode cX3_readLine 15 = .ok (.aload_n 0, 1) := by decide +kernel
theorem dX3_readLine_16 : decode cX3_readLine 16 = .ok (.getfield 41, 3) := by decide +kernel
theorem dX3_readLine_19 : decode cX3_readLine 19 = .ok (.invokevirtual 45, 3) := by decide +kernel
theorem dX3_readLine_22 : decode cX3_readLine 22 = .ok (.iconst 0, 1) := by decide +kernel
theorem dX3_readLine_23 : decode cX3_readLine 23 = .ok (.istore_n 1, 1) := by decide +kernel
theorem dX3_readLine_24 : decode cX3_readLine 24 = .ok (.aload_n 0, 1) := by decide +kernel
theorem dX3_readLine_25 : decode cX3_readLine 25 = .ok (.bipush 45, 2) := by decide +kernel
theorem dX3_readLine_27 : decode cX3_readLine 27 = .ok (.invokevirtual 50, 3) := by decide +kernel
theorem dX3_readLine_30 : decode cX3_readLine 30 = .ok (.istore_n 2, 1) := by decide +kernel
theorem dX3_readLine_31 : decode cX3_readLine 31 = .ok (.iconst 0, 1) := by decide +kernel
theorem dX3_readLine_32 : decode cX3_readLine 32 = .ok (.istore_n 3, 1) := by decide +kernel
theorem dX3_readLine_33 : decode cX3_readLine 33 = .ok (.iload_n 3, 1) := by decide +kernel
theorem dX3_readLine_34 : decode cX3_readLine 34 = .ok (.bipush 100, 2) := by decide +kernel
theorem dX3_readLine_36 : decode cX3_readLine 36 = .ok (.if_icmp .ge 85, 3) := by decide +kernel
theorem dX3_readLine_39 : decode cX3_readLine 39 = .ok (.aload_n 0, 1) := by decide +kernel
theorem dX3_readLine_40 : decode cX3_readLine 40 = .ok (.iload_n 2, 1) := by decide +kernel
theorem dX3_readLine_41 : decode cX3_readLine 41 = .ok (.invokevirtual 54, 3) := by decide +kernel
theorem dX3_readLine_44 : decode cX3_readLine 44 = .ok (.ifCond .ne 8, 3) := by decide +kernel
theorem dX3_readLine_47 : decode cX3_readLine 47 = .ok (.aload_n 0, 1) := by decide +kernel
theorem dX3_readLine_48 : decode cX3_readLine 48 = .ok (.getfield 15, 3) := by decide +kernel
theorem dX3_readLine_51 : decode cX3_readLine 51 = .ok (.ireturn, 1) := by decide +kernel
theorem dX3_readLine_52 : decode cX3_readLine 52 = .ok (.iload_n 1, 1) := by decide +kernel
theorem dX3_readLine_53 : decode cX3_readLine 53 = .ok (.ifCond .ne 10, 3) := by decide +kernel
theorem dX3_readLine_56 : decode cX3_readLine 56 = .ok (.aload_n 0, 1) := by decide +kernel
theorem dX3_readLine_57 : decode cX3_readLine 57 = .ok (.invokevirtual 58, 3) := by decide +kernel
theorem dX3_readLine_60 : decode cX3_readLine 60 = .ok (.ifCond .ne 7, 3) := by decide +kernel
theorem dX3_readLine_63 : decode cX3_readLine 63 = .ok (.iconst 1, 1) := by decide +kernel
theorem dX3_readLine_64 : decode cX3_readLine 64 = .ok (.goto 4, 3) := by decide +kernel
theorem dX3_readLine_67 : decode cX3_readLine 67 = .ok (.iconst 0, 1) := by decide +kernel
theorem dX3_readLine_68 : decode cX3_readLine 68 = .ok (.istore_n 1, 1) := by decide +kernel
theorem dX3_readLine_69 : decode cX3_readLine 69 = .ok (.aload_n 0, 1) := by decide +kernel
theorem dX3_readLine_70 : decode cX3_readLine 70 = .ok (.invokevirtual 62, 3) := by decide +kernel
theorem dX3_readLine_73 : decode cX3_readLine 73 = .ok (.ifCond .ne 6, 3) := by decide +kernel
theorem dX3_readLine_76 : decode cX3_readLine 76 = .ok (.goto 45, 3) := by decide +kernel
theorem dX3_readLine_79 : decode cX3_readLine 79 = .ok (.aload_n 0, 1) := by decide +kernel
theorem dX3_readLine_80 : decode cX3_readLine 80 = .ok (.bipush 45, 2) := by decide +kernel
theorem dX3_readLine_82 : decode cX3_readLine 82 = .ok (.invokevirtual 50, 3) := by decide +kernel
theorem dX3_readLine_85 : decode cX3_readLine 85 = .ok (.istore_n 2, 1) := by decide +kernel
theorem dX3_readLine_86 : decode cX3_readLine 86 = .ok (.iload_n 2, 1) := by decide +kernel
theorem dX3_readLine_87 : decode cX3_readLine 87 = .ok (.ifCond .ne 28, 3) := by decide +kernel
theorem dX3_readLine_90 : decode cX3_readLine 90 = .ok (.aload_n 0, 1) := by decide +kernel
theorem dX3_readLine_91 : decode cX3_readLine 91 = .ok (.bipush 43, 2) := by decide +kernel
theorem dX3_readLine_93 : decode cX3_readLine 93 = .ok (.invokevirtual 50, 3) := by decide +kernel
theorem dX3_readLine_96 : decode cX3_readLine 96 = .ok (.ifCond .ne 19, 3) := by decide +kernel
theorem dX3_readLine_99 : decode cX3_readLine 99 = .ok (.aload_n 0, 1) := by decide +kernel
theorem dX3_readLine_100 : decode cX3_readLine 100 = .ok (.bipush (-2), 2) := by decide +kernel
theorem dX3_readLine_102 : decode cX3_readLine 102 = .ok (.aload_n 0, 1) := by decide +kernel
theorem dX3_readLine_103 : decode cX3_readLine 103 = .ok (.getfield 9, 3) := by decide +kernel
theorem dX3_readLine_106 : decode cX3_readLine 106 = .ok (.invokevirtual 66, 3) := by decide +kernel
theorem dX3_readLine_109 : decode cX3_readLine 109 = .ok (.pop, 1) := by decide +kernel
theorem dX3_readLine_110 : decode cX3_readLine 110 = .ok (.aload_n 0, 1) := by decide +kernel
theorem dX3_readLine_111 : decode cX3_readLine 111 = .ok (.getfield 15, 3) := by decide +kernel
theorem dX3_readLine_114 : decode cX3_readLine 114 = .ok (.ireturn, 1) := by decide +kernel
theorem dX3_readLine_115 : decode cX3_readLine 115 = .ok (.iinc 3 1, 3) := by decide +kernel
theorem dX3_readLine_118 : decode cX3_readLine 118 = .ok (.goto (-85), 3) := by decide +kernel
theorem dX3_readLine_121 : decode cX3_readLine 121 = .ok (.iload_n 1, 1) := by decide +kernel
theorem dX3_readLine_122 : decode cX3_readLine 122 = .ok (.ifCond .eq 8, 3) := by decide +kernel
theorem dX3_readLine_125 : decode cX3_readLine 125 = .ok (.bipush (-4), 2) := by decide +kernel
theorem dX3_readLine_127 : decode cX3_readLine 127 = .ok (.goto 4, 3) := by decide +kernel
theorem dX3_readLine_130 : decode cX3_readLine 130 = .ok (.iconst 0, 1) := by decide +kernel
theorem dX3_readLine_131 : decode cX3_readLine 131 = .ok (.ireturn, 1) := by decide +kernel
theorem dX3_addTerm_0 : decode cX3_addTerm 0 = .ok (.aload_n 0, 1) := by decide +kernel
theorem dX3_addTerm_1 : decode cX3_addTerm 1 = .ok (.getfield 41, 3) := by decide +kernel
theorem dX3_addTerm_4 : decode cX3_addTerm 4 = .ok (.aload_n 0, 1) := by decide +kernel
theorem dX3_addTerm_5 : decode cX3_addTerm 5 = .ok (.getfield 31, 3) := by decide +kernel
theorem dX3_addTerm_8 : decode cX3_addTerm 8 = .ok (.aload_n 0, 1) := by decide +kernel
theorem dX3_addTerm_9 : decode cX3_addTerm 9 = .ok (.getfield 34, 3) := by decide +kernel
theorem dX3_addTerm_12 : decode cX3_addTerm 12 = .ok (.aload_n 0, 1) := by decide +kernel
theorem dX3_addTerm_13 : decode cX3_addTerm 13 = .ok (.getfield 28, 3) := by decide +kernel
theorem dX3_addTerm_16 : decode cX3_addTerm 16 = .ok (.aload_n 0, 1) := by decide +kernel
theorem dX3_addTerm_17 : decode cX3_addTerm 17 = .ok (.getfield 21, 3) := by decide +kernel
theorem dX3_addTerm_20 : decode cX3_addTerm 20 = .ok (.aload_n 0, 1) := by decide +kernel
theorem dX3_addTerm_21 : decode cX3_addTerm 21 = .ok (.getfield 25, 3) := by decide +kernel
theorem dX3_addTerm_24 : decode cX3_addTerm 24 = .ok (.invokevirtual 70, 3) := by decide +kernel
theorem dX3_addTerm_27 : decode cX3_addTerm 27 = .ok (.aload_n 0, 1) := by decide +kernel
theorem dX3_addTerm_28 : decode cX3_addTerm 28 = .ok (.getfield 41, 3) := by decide +kernel
theorem dX3_addTerm_31 : decode cX3_addTerm 31 = .ok (.invokevirtual 74, 3) := by decide +kernel
theorem dX3_addTerm_34 : decode cX3_addTerm 34 = .ok (.ireturn, 1) := by decide +kernel
theorem dX3_readTerm_0 : decode cX3_readTerm 0 = .ok (.aload_n 0, 1) := by decide +kernel
theorem dX3_readTerm_1 : decode cX3_readTerm 1 = .ok (.lconst 1, 1) := by decide +kernel
theorem dX3_readTerm_2 : decode cX3_readTerm 2 = .ok (.putfield 21, 3) := by decide +kernel
theorem dX3_readTerm_5 : decode cX3_readTerm 5 = .ok (.aload_n 0, 1) := by decide +kernel
theorem dX3_readTerm_6 : decode cX3_readTerm 6 = .ok (.lconst 1, 1) := by decide +kernel
theorem dX3_readTerm_7 : decode cX3_readTerm 7 = .ok (.putfield 25, 3) := by decide +kernel
theorem dX3_readTerm_10 : decode cX3_readTerm 10 = .ok (.aload_n 0, 1) := by decide +kernel
theorem dX3_readTerm_11 : decode cX3_readTerm 11 = .ok (.iconst 0, 1) := by decide +kernel
theorem dX3_readTerm_12 : decode cX3_readTerm 12 = .ok (.putfield 28, 3) := by decide +kernel
theorem dX3_readTerm_15 : decode cX3_readTerm 15 = .ok (.aload_n 0, 1) := by decide +kernel
theorem dX3_readTerm_16 : decode cX3_readTerm 16 = .ok (.iconst 0, 1) := by decide +kernel
theorem dX3_readTerm_17 : decode cX3_readTerm 17 = .ok (.putfield 31, 3) := by decide +kernel
theorem dX3_readTerm_20 : decode cX3_readTerm 20 = .ok (.aload_n 0, 1) := by decide +kernel
theorem dX3_readTerm_21 : decode cX3_readTerm 21 = .ok (.iconst 0, 1) := by decide +kernel
theorem dX3_readTerm_22 : decode cX3_readTerm 22 = .ok (.putfield 34, 3) := by decide +kernel
theorem dX3_readTerm_25 : decode cX3_readTerm 25 = .ok (.aload_n 0, 1) := by decide +kernel
theorem dX3_readTerm_26 : decode cX3_readTerm 26 = .ok (.invokevirtual 62, 3) := by decide +kernel
theorem dX3_readTerm_29 : decode cX3_readTerm 29 = .ok (.pop, 1) := by decide +kernel
theorem dX3_readTerm_30 : decode cX3_readTerm 30 = .ok (.aload_n 0, 1) := by decide +kernel
theorem dX3_readTerm_31 : decode cX3_readTerm 31 = .ok (.getfield 9, 3) := by decide +kernel
theorem dX3_readTerm_34 : decode cX3_readTerm 34 = .ok (.istore_n 2, 1) := by decide +kernel
theorem dX3_readTerm_35 : decode cX3_readTerm 35 = .ok (.aload_n 0, 1) := by decide +kernel
theorem dX3_readTerm_36 : decode cX3_readTerm 36 = .ok (.invokevirtual 77, 3) := by decide +kernel
theorem dX3_readTerm_39 : decode cX3_readTerm 39 = .ok (.ifCond .eq 17, 3) := by decide +kernel
theorem dX3_readTerm_42 : decode cX3_readTerm 42 = .ok (.aload_n 0, 1) := by decide +kernel
theorem dX3_readTerm_43 : decode cX3_readTerm 43 = .ok (.invokevirtual 80, 3) := by decide +kernel
theorem dX3_readTerm_46 : decode cX3_readTerm 46 = .ok (.ifCond .eq 10, 3) := by decide +kernel
theorem dX3_readTerm_49 : decode cX3_readTerm 49 = .ok (.aload_n 0, 1) := by decide +kernel
theorem dX3_readTerm_50 : decode cX3_readTerm 50 = .ok (.invokevirtual 83, 3) := by decide +kernel
theorem dX3_readTerm_53 : decode cX3_readTerm 53 = .ok (.ifCond .ne 5, 3) := by decide +kernel
theorem dX3_readTerm_56 : decode cX3_readTerm 56 = .ok (.iconst 0, 1) := by decide +kernel
theorem dX3_readTerm_57 : decode cX3_readTerm 57 = .ok (.ireturn, 1) := by decide +kernel
theorem dX3_readTerm_58 : decode cX3_readTerm 58 = .ok (.aload_n 0, 1) := by decide +kernel
theorem dX3_readTerm_59 : decode cX3_readTerm 59 = .ok (.iload_n 1, 1) := by decide +kernel
theorem dX3_readTerm_60 : decode cX3_readTerm 60 = .ok (.ifCond .eq 11, 3) := by decide +kernel
theorem dX3_readTerm_63 : decode cX3_readTerm 63 = .ok (.aload_n 0, 1) := by decide +kernel
theorem dX3_readTerm_64 : decode cX3_readTerm 64 = .ok (.getfield 21, 3) := by decide +kernel
theorem dX3_readTerm_67 : decode cX3_readTerm 67 = .ok (.lneg, 1) := by decide +kernel
theorem dX3_readTerm_68 : decode cX3_readTerm 68 = .ok (.goto 7, 3) := by decide +kernel
theorem dX3_readTerm_71 : decode cX3_readTerm 71 = .ok (.aload_n 0, 1) := by decide +kernel
theorem dX3_readTerm_72 : decode cX3_readTerm 72 = .ok (.getfield 21, 3) := by decide +kernel
theorem dX3_readTerm_75 : decode cX3_readTerm 75 = .ok (.putfield 21, 3) := by decide +kernel
theorem dX3_readTerm_78 : decode cX3_readTerm 78 = .ok (.aload_n 0, 1) := by decide +kernel
theorem dX3_readTerm_79 : decode cX3_readTerm 79 = .ok (.getfield 9, 3) := by decide +kernel
theorem dX3_readTerm_82 : decode cX3_readTerm 82 = .ok (.iload_n 2, 1) := by decide +kernel
theorem dX3_readTerm_83 : decode cX3_readTerm 83 = .ok (.if_icmp .gt 16, 3) := by decide +kernel
theorem dX3_readTerm_86 : decode cX3_readTerm 86 = .ok (.aload_n 0, 1) := by decide +kernel
theorem dX3_readTerm_87 : decode cX3_readTerm 87 = .ok (.bipush (-2), 2) := by decide +kernel
theorem dX3_readTerm_89 : decode cX3_readTerm 89 = .ok (.aload_n 0, 1) := by decide +kernel
theorem dX3_readTerm_90 : decode cX3_readTerm 90 = .ok (.getfield 9, 3) := by decide +kernel
theorem dX3_readTerm_93 : decode cX3_readTerm 93 = .ok (.invokevirtual 66, 3) := by decide +kernel
theorem dX3_readTerm_96 : decode cX3_readTerm 96 = .ok (.ifCond .eq 7, 3) := by decide +kernel
theorem dX3_readTerm_99 : decode cX3_readTerm 99 = .ok (.iconst 1, 1) := by decide +kernel
theorem dX3_readTerm_100 : decode cX3_readTerm 100 = .ok (.goto 4, 3) := by decide +kernel
theorem dX3_readTerm_103 : decode cX3_readTerm 103 = .ok (.iconst 0, 1) := by decide +kernel
theorem dX3_readTerm_104 : decode cX3_readTerm 104 = .ok (.ireturn, 1) := by decide +kernel
theorem dX3_readCoefficient_0 : decode cX3_readCoefficient 0 = .ok (.aload_n 0, 1) := by decide +kernel
theorem dX3_readCoefficient_1 : decode cX3_readCoefficient 1 = .ok (.invokevirtual 62, 3) := by decide +kernel
theorem dX3_readCoefficient_4 : decode cX3_readCoefficient 4 = .ok (.invokestatic 86, 3) := by decide +kernel
theorem dX3_readCoefficient_7 : decode cX3_readCoefficient 7 = .ok (.ifCond .ne 5, 3) := by decide +kernel
theorem dX3_readCoefficient_10 : decode cX3_readCoefficient 10 = .ok (.iconst 1, 1) := by decide +kernel
theorem dX3_readCoefficient_11 : decode cX3_readCoefficient 11 = .ok (.ireturn, 1) := by decide +kernel
theorem dX3_readCoefficient_12 : decode cX3_readCoefficient 12 = .ok (.aload_n 0, 1) := by decide +kernel
theorem dX3_readCoefficient_13 : decode cX3_readCoefficient 13 = .ok (.aload_n 0, 1) := by decide +kernel
theorem dX3_readCoefficient_14 : decode cX3_readCoefficient 14 = .ok (.iconst 0, 1) := by decide +kernel
theorem dX3_readCoefficient_15 : decode cX3_readCoefficient 15 = .ok (.sipush 999, 3) := by decide +kernel
theorem dX3_readCoefficient_18 : decode cX3_readCoefficient 18 = .ok (.invokevirtual 89, 3) := by decide +kernel
theorem dX3_readCoefficient_21 : decode cX3_readCoefficient 21 = .ok (.i2l, 1) := by decide +kernel
theorem dX3_readCoefficient_22 : decode cX3_readCoefficient 22 = .ok (.putfield 21, 3) := by decide +kernel
theorem dX3_readCoefficient_25 : decode cX3_readCoefficient 25 = .ok (.aload_n 0, 1) := by decide +kernel
theorem dX3_readCoefficient_26 : decode cX3_readCoefficient 26 = .ok (.bipush 47, 2) := by decide +kernel
theorem dX3_readCoefficient_28 : decode cX3_readCoefficient 28 = .ok (.invokevirtual 50, 3) := by decide +kernel
theorem dX3_readCoefficient_31 : decode cX3_readCoefficient 31 = .ok (.ifCond .eq 25, 3) := by decide +kernel
theorem dX3_readCoefficient_34 : decode cX3_readCoefficient 34 = .ok (.aload_n 0, 1) := by decide +kernel
theorem dX3_readCoefficient_35 : decode cX3_readCoefficient 35 = .ok (.iconst 1, 1) := by decide +kernel
theorem dX3_readCoefficient_36 : decode cX3_readCoefficient 36 = .ok (.sipush 999, 3) := by decide +kernel
theorem dX3_readCoefficient_39 : decode cX3_readCoefficient 39 = .ok (.invokevirtual 89, 3) := by decide +kernel
theorem dX3_readCoefficient_42 : decode cX3_readCoefficient 42 = .ok (.istore_n 1, 1) := by decide +kernel
theorem dX3_readCoefficient_43 : decode cX3_readCoefficient 43 = .ok (.iload_n 1, 1) := by decide +kernel
theorem dX3_readCoefficient_44 : decode cX3_readCoefficient 44 = .ok (.iconst (-1), 1) := by decide +kernel
theorem dX3_readCoefficient_45 : decode cX3_readCoefficient 45 = .ok (.if_icmp .ne 5, 3) := by decide +kernel
theorem dX3_readCoefficient_48 : decode cX3_readCoefficient 48 = .ok (.iconst 0, 1) := by decide +kernel
theorem dX3_readCoefficient_49 : decode cX3_readCoefficient 49 = .ok (.ireturn, 1) := by decide +kernel
theorem dX3_readCoefficient_50 : decode cX3_readCoefficient 50 = .ok (.aload_n 0, 1) := by decide +kernel
theorem dX3_readCoefficient_51 : decode cX3_readCoefficient 51 = .ok (.iload_n 1, 1) := by decide +kernel
theorem dX3_readCoefficient_52 : decode cX3_readCoefficient 52 = .ok (.i2l, 1) := by decide +kernel
theorem dX3_readCoefficient_53 : decode cX3_readCoefficient 53 = .ok (.putfield 25, 3) := by decide +kernel
theorem dX3_readCoefficient_56 : decode cX3_readCoefficient 56 = .ok (.iconst 1, 1) := by decide +kernel
theorem dX3_readCoefficient_57 : decode cX3_readCoefficient 57 = .ok (.ireturn, 1) := by decide +kernel
theorem dX3_readPower_0 : decode cX3_readPower 0 = .ok (.aload_n 0, 1) := by decide +kernel
theorem dX3_readPower_1 : decode cX3_readPower 1 = .ok (.bipush 120, 2) := by decide +kernel
theorem dX3_readPower_3 : decode cX3_readPower 3 = .ok (.invokevirtual 50, 3) := by decide +kernel
theorem dX3_readPower_6 : decode cX3_readPower 6 = .ok (.ifCond .ne 5, 3) := by decide +kernel
theorem dX3_readPower_9 : decode cX3_readPower 9 = .ok (.iconst 1, 1) := by decide +kernel
theorem dX3_readPower_10 : decode cX3_readPower 10 = .ok (.ireturn, 1) := by decide +kernel
theorem dX3_readPower_11 : decode cX3_readPower 11 = .ok (.aload_n 0, 1) := by decide +kernel
theorem dX3_readPower_12 : decode cX3_readPower 12 = .ok (.iconst 1, 1) := by decide +kernel
theorem dX3_readPower_13 : decode cX3_readPower 13 = .ok (.putfield 28, 3) := by decide +kernel
theorem dX3_readPower_16 : decode cX3_readPower 16 = .ok (.aload_n 0, 1) := by decide +kernel
theorem dX3_readPower_17 : decode cX3_readPower 17 = .ok (.bipush 94, 2) := by decide +kernel
theorem dX3_readPower_19 : decode cX3_readPower 19 = .ok (.invokevirtual 50, 3) := by decide +kernel
theorem dX3_readPower_22 : decode cX3_readPower 22 = .ok (.ifCond .eq 39, 3) := by decide +kernel
theorem dX3_readPower_25 : decode cX3_readPower 25 = .ok (.aload_n 0, 1) := by decide +kernel
theorem dX3_readPower_26 : decode cX3_readPower 26 = .ok (.bipush 45, 2) := by decide +kernel
theorem dX3_readPower_28 : decode cX3_readPower 28 = .ok (.invokevirtual 50, 3) := by decide +kernel
theorem dX3_readPower_31 : decode cX3_readPower 31 = .ok (.istore_n 1, 1) := by decide +kernel
theorem dX3_readPower_32 : decode cX3_readPower 32 = .ok (.aload_n 0, 1) := by decide +kernel
theorem dX3_readPower_33 : decode cX3_readPower 33 = .ok (.iconst 0, 1) := by decide +kernel
theorem dX3_readPower_34 : decode cX3_readPower 34 = .ok (.bipush 12, 2) := by decide +kernel
theorem dX3_readPower_36 : decode cX3_readPower 36 = .ok (.invokevirtual 89, 3) := by decide +kernel
theorem dX3_readPower_39 : decode cX3_readPower 39 = .ok (.istore_n 2, 1) := by decide +kernel
theorem dX3_readPower_40 : decode cX3_readPower 40 = .ok (.iload_n 2, 1) := by decide +kernel
theorem dX3_readPower_41 : decode cX3_readPower 41 = .ok (.iconst (-1), 1) := by decide +kernel
theorem dX3_readPower_42 : decode cX3_readPower 42 = .ok (.if_icmp .ne 5, 3) := by decide +kernel
theorem dX3_readPower_45 : decode cX3_readPower 45 = .ok (.iconst 0, 1) := by decide +kernel
theorem dX3_readPower_46 : decode cX3_readPower 46 = .ok (.ireturn, 1) := by decide +kernel
theorem dX3_readPower_47 : decode cX3_readPower 47 = .ok (.aload_n 0, 1) := by decide +kernel
theorem dX3_readPower_48 : decode cX3_readPower 48 = .ok (.iload_n 1, 1) := by decide +kernel
theorem dX3_readPower_49 : decode cX3_readPower 49 = .ok (.ifCond .eq 8, 3) := by decide +kernel
theorem dX3_readPower_52 : decode cX3_readPower 52 = .ok (.iload_n 2, 1) := by decide +kernel
theorem dX3_readPower_53 : decode cX3_readPower 53 = .ok (.ineg, 1) := by decide +kernel
theorem dX3_readPower_54 : decode cX3_readPower 54 = .ok (.goto 4, 3) := by decide +kernel
theorem dX3_readPower_57 : decode cX3_readPower 57 = .ok (.iload_n 2, 1) := by decide +kernel
theorem dX3_readPower_58 : decode cX3_readPower 58 = .ok (.putfield 28, 3) := by decide +kernel
theorem dX3_readPower_61 : decode cX3_readPower 61 = .ok (.iconst 1, 1) := by decide +kernel
theorem dX3_readPower_62 : decode cX3_readPower 62 = .ok (.ireturn, 1) := by decide +kernel
theorem dX3_readFunction_0 : decode cX3_readFunction 0 = .ok (.aload_n 0, 1) := by decide +kernel
theorem dX3_readFunction_1 : decode cX3_readFunction 1 = .ok (.bipush 108, 2) := by decide +kernel
theorem dX3_readFunction_3 : decode cX3_readFunction 3 = .ok (.invokevirtual 50, 3) := by decide +kernel
theorem dX3_readFunction_6 : decode cX3_readFunction 6 = .ok (.ifCond .eq 13, 3) := by decide +kernel
theorem dX3_readFunction_9 : decode cX3_readFunction 9 = .ok (.aload_n 0, 1) := by decide +kernel
theorem dX3_readFunction_10 : decode cX3_readFunction 10 = .ok (.iconst 1, 1) := by decide +kernel
theorem dX3_readFunction_11 : decode cX3_readFunction 11 = .ok (.putfield 31, 3) := by decide +kernel
theorem dX3_readFunction_14 : decode cX3_readFunction 14 = .ok (.aload_n 0, 1) := by decide +kernel
theorem dX3_readFunction_15 : decode cX3_readFunction 15 = .ok (.invokevirtual 93, 3) := by decide +kernel
theorem dX3_readFunction_18 : decode cX3_readFunction 18 = .ok (.ireturn, 1) := by decide +kernel
theorem dX3_readFunction_19 : decode cX3_readFunction 19 = .ok (.aload_n 0, 1) := by decide +kernel
theorem dX3_readFunction_20 : decode cX3_readFunction 20 = .ok (.bipush 101, 2) := by decide +kernel
theorem dX3_readFunction_22 : decode cX3_readFunction 22 = .ok (.invokevirtual 50, 3) := by decide +kernel
theorem dX3_readFunction_25 : decode cX3_readFunction 25 = .ok (.ifCond .eq 11, 3) := by decide +kernel
theorem dX3_readFunction_28 : decode cX3_readFunction 28 = .ok (.aload_n 0, 1) := by decide +kernel
theorem dX3_readFunction_29 : decode cX3_readFunction 29 = .ok (.iconst 2, 1) := by decide +kernel
theorem dX3_readFunction_30 : decode cX3_readFunction 30 = .ok (.putfield 31, 3) := by decide +kernel
theorem dX3_readFunction_33 : decode cX3_readFunction 33 = .ok (.goto 39, 3) := by decide +kernel
theorem dX3_readFunction_36 : decode cX3_readFunction 36 = .ok (.aload_n 0, 1) := by decide +kernel
theorem dX3_readFunction_37 : decode cX3_readFunction 37 = .ok (.bipush 115, 2) := by decide +kernel
theorem dX3_readFunction_39 : decode cX3_readFunction 39 = .ok (.invokevirtual 50, 3) := by decide +kernel
theorem dX3_readFunction_42 : decode cX3_readFunction 42 = .ok (.ifCond .eq 11, 3) := by decide +kernel
theorem dX3_readFunction_45 : decode cX3_readFunction 45 = .ok (.aload_n 0, 1) := by decide +kernel
theorem dX3_readFunction_46 : decode cX3_readFunction 46 = .ok (.iconst 3, 1) := by decide +kernel
theorem dX3_readFunction_47 : decode cX3_readFunction 47 = .ok (.putfield 31, 3) := by decide +kernel
theorem dX3_readFunction_50 : decode cX3_readFunction 50 = .ok (.goto 22, 3) := by decide +kernel
theorem dX3_readFunction_53 : decode cX3_readFunction 53 = .ok (.aload_n 0, 1) := by decide +kernel
theorem dX3_readFunction_54 : decode cX3_readFunction 54 = .ok (.bipush 99, 2) := by decide +kernel
theorem dX3_readFunction_56 : decode cX3_readFunction 56 = .ok (.invokevirtual 50, 3) := by decide +kernel
theorem dX3_readFunction_59 : decode cX3_readFunction 59 = .ok (.ifCond .eq 11, 3) := by decide +kernel
theorem dX3_readFunction_62 : decode cX3_readFunction 62 = .ok (.aload_n 0, 1) := by decide +kernel
theorem dX3_readFunction_63 : decode cX3_readFunction 63 = .ok (.iconst 4, 1) := by decide +kernel
theorem dX3_readFunction_64 : decode cX3_readFunction 64 = .ok (.putfield 31, 3) := by decide +kernel
theorem dX3_readFunction_67 : decode cX3_readFunction 67 = .ok (.goto 5, 3) := by decide +kernel
theorem dX3_readFunction_70 : decode cX3_readFunction 70 = .ok (.iconst 1, 1) := by decide +kernel
theorem dX3_readFunction_71 : decode cX3_readFunction 71 = .ok (.ireturn, 1) := by decide +kernel
theorem dX3_readFunction_72 : decode cX3_readFunction 72 = .ok (.aload_n 0, 1) := by decide +kernel
theorem dX3_readFunction_73 : decode cX3_readFunction 73 = .ok (.bipush 40, 2) := by decide +kernel
theorem dX3_readFunction_75 : decode cX3_readFunction 75 = .ok (.invokevirtual 96, 3) := by decide +kernel
theorem dX3_readFunction_78 : decode cX3_readFunction 78 = .ok (.ifCond .eq 32, 3) := by decide +kernel
theorem dX3_readFunction_81 : decode cX3_readFunction 81 = .ok (.aload_n 0, 1) := by decide +kernel
theorem dX3_readFunction_82 : decode cX3_readFunction 82 = .ok (.invokevirtual 99, 3) := by decide +kernel
theorem dX3_readFunction_85 : decode cX3_readFunction 85 = .ok (.ifCond .eq 25, 3) := by decide +kernel
theorem dX3_readFunction_88 : decode cX3_readFunction 88 = .ok (.aload_n 0, 1) := by decide +kernel
theorem dX3_readFunction_89 : decode cX3_readFunction 89 = .ok (.bipush 120, 2) := by decide +kernel
theorem dX3_readFunction_91 : decode cX3_readFunction 91 = .ok (.invokevirtual 96, 3) := by decide +kernel
theorem dX3_readFunction_94 : decode cX3_readFunction 94 = .ok (.ifCond .eq 16, 3) := by decide +kernel
theorem dX3_readFunction_97 : decode cX3_readFunction 97 = .ok (.aload_n 0, 1) := by decide +kernel
theorem dX3_readFunction_98 : decode cX3_readFunction 98 = .ok (.bipush 41, 2) := by decide +kernel
theorem dX3_readFunction_100 : decode cX3_readFunction 100 = .ok (.invokevirtual 96, 3) := by decide +kernel
theorem dX3_readFunction_103 : decode cX3_readFunction 103 = .ok (.ifCond .eq 7, 3) := by decide +kernel
theorem dX3_readFunction_106 : decode cX3_readFunction 106 = .ok (.iconst 1, 1) := by decide +kernel
theorem dX3_readFunction_107 : decode cX3_readFunction 107 = .ok (.goto 4, 3) := by decide +kernel
theorem dX3_readFunction_110 : decode cX3_readFunction 110 = .ok (.iconst 0, 1) := by decide +kernel
theorem dX3_readFunction_111 : decode cX3_readFunction 111 = .ok (.ireturn, 1) := by decide +kernel
theorem dX3_readLogPower_0 : decode cX3_readLogPower 0 = .ok (.aload_n 0, 1) := by decide +kernel
theorem dX3_readLogPower_1 : decode cX3_readLogPower 1 = .ok (.iconst 1, 1) := by decide +kernel
theorem dX3_readLogPower_2 : decode cX3_readLogPower 2 = .ok (.putfield 34, 3) := by decide +kernel
theorem dX3_readLogPower_5 : decode cX3_readLogPower 5 = .ok (.aload_n 0, 1) := by decide +kernel
theorem dX3_readLogPower_6 : decode cX3_readLogPower 6 = .ok (.bipush 94, 2) := by decide +kernel
theorem dX3_readLogPower_8 : decode cX3_readLogPower 8 = .ok (.invokevirtual 50, 3) := by decide +kernel
theorem dX3_readLogPower_11 : decode cX3_readLogPower 11 = .ok (.ifCond .eq 14, 3) := by decide +kernel
theorem dX3_readLogPower_14 : decode cX3_readLogPower 14 = .ok (.aload_n 0, 1) := by decide +kernel
theorem dX3_readLogPower_15 : decode cX3_readLogPower 15 = .ok (.aload_n 0, 1) := by decide +kernel
theorem dX3_readLogPower_16 : decode cX3_readLogPower 16 = .ok (.iconst 0, 1) := by decide +kernel
theorem dX3_readLogPower_17 : decode cX3_readLogPower 17 = .ok (.bipush 9, 2) := by decide +kernel
theorem dX3_readLogPower_19 : decode cX3_readLogPower 19 = .ok (.invokevirtual 89, 3) := by decide +kernel
theorem dX3_readLogPower_22 : decode cX3_readLogPower 22 = .ok (.putfield 34, 3) := by decide +kernel
theorem dX3_readLogPower_25 : decode cX3_readLogPower 25 = .ok (.aload_n 0, 1) := by decide +kernel
theorem dX3_readLogPower_26 : decode cX3_readLogPower 26 = .ok (.getfield 34, 3) := by decide +kernel
theorem dX3_readLogPower_29 : decode cX3_readLogPower 29 = .ok (.iconst (-1), 1) := by decide +kernel
theorem dX3_readLogPower_30 : decode cX3_readLogPower 30 = .ok (.if_icmp .eq 7, 3) := by decide +kernel
theorem dX3_readLogPower_33 : decode cX3_readLogPower 33 = .ok (.iconst 1, 1) := by decide +kernel
theorem dX3_readLogPower_34 : decode cX3_readLogPower 34 = .ok (.goto 4, 3) := by decide +kernel
theorem dX3_readLogPower_37 : decode cX3_readLogPower 37 = .ok (.iconst 0, 1) := by decide +kernel
theorem dX3_readLogPower_38 : decode cX3_readLogPower 38 = .ok (.ireturn, 1) := by decide +kernel
theorem dX3_readMultiple_0 : decode cX3_readMultiple 0 = .ok (.aload_n 0, 1) := by decide +kernel
theorem dX3_readMultiple_1 : decode cX3_readMultiple 1 = .ok (.bipush 45, 2) := by decide +kernel
theorem dX3_readMultiple_3 : decode cX3_readMultiple 3 = .ok (.invokevirtual 50, 3) := by decide +kernel
theorem dX3_readMultiple_6 : decode cX3_readMultiple 6 = .ok (.istore_n 1, 1) := by decide +kernel
theorem dX3_readMultiple_7 : decode cX3_readMultiple 7 = .ok (.iconst 1, 1) := by decide +kernel
theorem dX3_readMultiple_8 : decode cX3_readMultiple 8 = .ok (.istore_n 2, 1) := by decide +kernel
theorem dX3_readMultiple_9 : decode cX3_readMultiple 9 = .ok (.aload_n 0, 1) := by decide +kernel
theorem dX3_readMultiple_10 : decode cX3_readMultiple 10 = .ok (.invokevirtual 62, 3) := by decide +kernel
theorem dX3_readMultiple_13 : decode cX3_readMultiple 13 = .ok (.invokestatic 86, 3) := by decide +kernel
theorem dX3_readMultiple_16 : decode cX3_readMultiple 16 = .ok (.ifCond .eq 18, 3) := by decide +kernel
theorem dX3_readMultiple_19 : decode cX3_readMultiple 19 = .ok (.aload_n 0, 1) := by decide +kernel
theorem dX3_readMultiple_20 : decode cX3_readMultiple 20 = .ok (.iconst 0, 1) := by decide +kernel
theorem dX3_readMultiple_21 : decode cX3_readMultiple 21 = .ok (.bipush 9, 2) := by decide +kernel
theorem dX3_readMultiple_23 : decode cX3_readMultiple 23 = .ok (.invokevirtual 89, 3) := by decide +kernel
theorem dX3_readMultiple_26 : decode cX3_readMultiple 26 = .ok (.istore_n 2, 1) := by decide +kernel
theorem dX3_readMultiple_27 : decode cX3_readMultiple 27 = .ok (.iload_n 2, 1) := by decide +kernel
theorem dX3_readMultiple_28 : decode cX3_readMultiple 28 = .ok (.iconst (-1), 1) := by decide +kernel
theorem dX3_readMultiple_29 : decode cX3_readMultiple 29 = .ok (.if_icmp .ne 5, 3) := by decide +kernel
theorem dX3_readMultiple_32 : decode cX3_readMultiple 32 = .ok (.iconst 0, 1) := by decide +kernel
theorem dX3_readMultiple_33 : decode cX3_readMultiple 33 = .ok (.ireturn, 1) := by decide +kernel
theorem dX3_readMultiple_34 : decode cX3_readMultiple 34 = .ok (.aload_n 0, 1) := by decide +kernel
theorem dX3_readMultiple_35 : decode cX3_readMultiple 35 = .ok (.iload_n 1, 1) := by decide +kernel
theorem dX3_readMultiple_36 : decode cX3_readMultiple 36 = .ok (.ifCond .eq 8, 3) := by decide +kernel
theorem dX3_readMultiple_39 : decode cX3_readMultiple 39 = .ok (.iload_n 2, 1) := by decide +kernel
theorem dX3_readMultiple_40 : decode cX3_readMultiple 40 = .ok (.ineg, 1) := by decide +kernel
theorem dX3_readMultiple_41 : decode cX3_readMultiple 41 = .ok (.goto 4, 3) := by decide +kernel
theorem dX3_readMultiple_44 : decode cX3_readMultiple 44 = .ok (.iload_n 2, 1) := by decide +kernel
theorem dX3_readMultiple_45 : decode cX3_readMultiple 45 = .ok (.putfield 34, 3) := by decide +kernel
theorem dX3_readMultiple_48 : decode cX3_readMultiple 48 = .ok (.iconst 1, 1) := by decide +kernel
theorem dX3_readMultiple_49 : decode cX3_readMultiple 49 = .ok (.ireturn, 1) := by decide +kernel
theorem dX3_readNumber_0 : decode cX3_readNumber 0 = .ok (.aload_n 0, 1) := by decide +kernel
theorem dX3_readNumber_1 : decode cX3_readNumber 1 = .ok (.invokevirtual 62, 3) := by decide +kernel
theorem dX3_readNumber_4 : decode cX3_readNumber 4 = .ok (.invokestatic 86, 3) := by decide +kernel
theorem dX3_readNumber_7 : decode cX3_readNumber 7 = .ok (.ifCond .ne 16, 3) := by decide +kernel
theorem dX3_readNumber_10 : decode cX3_readNumber 10 = .ok (.aload_n 0, 1) := by decide +kernel
theorem dX3_readNumber_11 : decode cX3_readNumber 11 = .ok (.bipush (-2), 2) := by decide +kernel
theorem dX3_readNumber_13 : decode cX3_readNumber 13 = .ok (.aload_n 0, 1) := by decide +kernel
theorem dX3_readNumber_14 : decode cX3_readNumber 14 = .ok (.getfield 9, 3) := by decide +kernel
theorem dX3_readNumber_17 : decode cX3_readNumber 17 = .ok (.invokevirtual 66, 3) := by decide +kernel
theorem dX3_readNumber_20 : decode cX3_readNumber 20 = .ok (.pop, 1) := by decide +kernel
theorem dX3_readNumber_21 : decode cX3_readNumber 21 = .ok (.iconst (-1), 1) := by decide +kernel
theorem dX3_readNumber_22 : decode cX3_readNumber 22 = .ok (.ireturn, 1) := by decide +kernel
theorem dX3_readNumber_23 : decode cX3_readNumber 23 = .ok (.aload_n 0, 1) := by decide +kernel
theorem dX3_readNumber_24 : decode cX3_readNumber 24 = .ok (.getfield 9, 3) := by decide +kernel
theorem dX3_readNumber_27 : decode cX3_readNumber 27 = .ok (.istore_n 3, 1) := by decide +kernel
theorem dX3_readNumber_28 : decode cX3_readNumber 28 = .ok (.iconst 0, 1) := by decide +kernel
theorem dX3_readNumber_29 : decode cX3_readNumber 29 = .ok (.istore 4, 2) := by decide +kernel
theorem dX3_readNumber_31 : decode cX3_readNumber 31 = .ok (.iconst 0, 1) := by decide +kernel
theorem dX3_readNumber_32 : decode cX3_readNumber 32 = .ok (.istore 5, 2) := by decide +kernel
theorem dX3_readNumber_34 : decode cX3_readNumber 34 = .ok (.iload 5, 2) := by decide +kernel
theorem dX3_readNumber_36 : decode cX3_readNumber 36 = .ok (.iconst 3, 1) := by decide +kernel
theorem dX3_readNumber_37 : decode cX3_readNumber 37 = .ok (.if_icmp .ge 58, 3) := by decide +kernel
theorem dX3_readNumber_40 : decode cX3_readNumber 40 = .ok (.aload_n 0, 1) := by decide +kernel
theorem dX3_readNumber_41 : decode cX3_readNumber 41 = .ok (.getfield 37, 3) := by decide +kernel
theorem dX3_readNumber_44 : decode cX3_readNumber 44 = .ok (.aload_n 0, 1) := by decide +kernel
theorem dX3_readNumber_45 : decode cX3_readNumber 45 = .ok (.getfield 9, 3) := by decide +kernel
theorem dX3_readNumber_48 : decode cX3_readNumber 48 = .ok (.invokevirtual 102, 3) := by decide +kernel
theorem dX3_readNumber_51 : decode cX3_readNumber 51 = .ok (.invokestatic 86, 3) := by decide +kernel
theorem dX3_readNumber_54 : decode cX3_readNumber 54 = .ok (.ifCond .eq 41, 3) := by decide +kernel
theorem dX3_readNumber_57 : decode cX3_readNumber 57 = .ok (.bipush 10, 2) := by decide +kernel
theorem dX3_readNumber_59 : decode cX3_readNumber 59 = .ok (.iload 4, 2) := by decide +kernel
theorem dX3_readNumber_61 : decode cX3_readNumber 61 = .ok (.imul, 1) := by decide +kernel
theorem dX3_readNumber_62 : decode cX3_readNumber 62 = .ok (.aload_n 0, 1) := by decide +kernel
theorem dX3_readNumber_63 : decode cX3_readNumber 63 = .ok (.getfield 37, 3) := by decide +kernel
theorem dX3_readNumber_66 : decode cX3_readNumber 66 = .ok (.aload_n 0, 1) := by decide +kernel
theorem dX3_readNumber_67 : decode cX3_readNumber 67 = .ok (.getfield 9, 3) := by decide +kernel
theorem dX3_readNumber_70 : decode cX3_readNumber 70 = .ok (.invokevirtual 102, 3) := by decide +kernel
theorem dX3_readNumber_73 : decode cX3_readNumber 73 = .ok (.bipush 48, 2) := by decide +kernel
theorem dX3_readNumber_75 : decode cX3_readNumber 75 = .ok (.isub, 1) := by decide +kernel
theorem dX3_readNumber_76 : decode cX3_readNumber 76 = .ok (.iadd, 1) := by decide +kernel
theorem dX3_readNumber_77 : decode cX3_readNumber 77 = .ok (.istore 4, 2) := by decide +kernel
theorem dX3_readNumber_79 : decode cX3_readNumber 79 = .ok (.aload_n 0, 1) := by decide +kernel
theorem dX3_readNumber_80 : decode cX3_readNumber 80 = .ok (.dup, 1) := by decide +kernel
theorem dX3_readNumber_81 : decode cX3_readNumber 81 = .ok (.getfield 9, 3) := by decide +kernel
theorem dX3_readNumber_84 : decode cX3_readNumber 84 = .ok (.iconst 1, 1) := by decide +kernel
theorem dX3_readNumber_85 : decode cX3_readNumber 85 = .ok (.iadd, 1) := by decide +kernel
theorem dX3_readNumber_86 : decode cX3_readNumber 86 = .ok (.putfield 9, 3) := by decide +kernel
theorem dX3_readNumber_89 : decode cX3_readNumber 89 = .ok (.iinc 5 1, 3) := by decide +kernel
theorem dX3_readNumber_92 : decode cX3_readNumber 92 = .ok (.goto (-58), 3) := by decide +kernel
theorem dX3_readNumber_95 : decode cX3_readNumber 95 = .ok (.iload 4, 2) := by decide +kernel
theorem dX3_readNumber_97 : decode cX3_readNumber 97 = .ok (.iload_n 1, 1) := by decide +kernel
theorem dX3_readNumber_98 : decode cX3_readNumber 98 = .ok (.if_icmp .lt 9, 3) := by decide +kernel
theorem dX3_readNumber_101 : decode cX3_readNumber 101 = .ok (.iload 4, 2) := by decide +kernel
theorem dX3_readNumber_103 : decode cX3_readNumber 103 = .ok (.iload_n 2, 1) := by decide +kernel
theorem dX3_readNumber_104 : decode cX3_readNumber 104 = .ok (.if_icmp .le 13, 3) := by decide +kernel
theorem dX3_readNumber_107 : decode cX3_readNumber 107 = .ok (.aload_n 0, 1) := by decide +kernel
theorem dX3_readNumber_108 : decode cX3_readNumber 108 = .ok (.bipush (-3), 2) := by decide +kernel
theorem dX3_readNumber_110 : decode cX3_readNumber 110 = .ok (.iload_n 3, 1) := by decide +kernel
theorem dX3_readNumber_111 : decode cX3_readNumber 111 = .ok (.invokevirtual 66, 3) := by decide +kernel
theorem dX3_readNumber_114 : decode cX3_readNumber 114 = .ok (.pop, 1) := by decide +kernel
theorem dX3_readNumber_115 : decode cX3_readNumber 115 = .ok (.iconst (-1), 1) := by decide +kernel
theorem dX3_readNumber_116 : decode cX3_readNumber 116 = .ok (.ireturn, 1) := by decide +kernel
theorem dX3_readNumber_117 : decode cX3_readNumber 117 = .ok (.iload 4, 2) := by decide +kernel
theorem dX3_readNumber_119 : decode cX3_readNumber 119 = .ok (.ireturn, 1) := by decide +kernel
theorem dX3_expect_0 : decode cX3_expect 0 = .ok (.aload_n 0, 1) := by decide +kernel
theorem dX3_expect_1 : decode cX3_expect 1 = .ok (.iload_n 1, 1) := by decide +kernel
theorem dX3_expect_2 : decode cX3_expect 2 = .ok (.invokevirtual 50, 3) := by decide +kernel
theorem dX3_expect_5 : decode cX3_expect 5 = .ok (.ifCond .ne 16, 3) := by decide +kernel
theorem dX3_expect_8 : decode cX3_expect 8 = .ok (.aload_n 0, 1) := by decide +kernel
theorem dX3_expect_9 : decode cX3_expect 9 = .ok (.bipush (-2), 2) := by decide +kernel
theorem dX3_expect_11 : decode cX3_expect 11 = .ok (.aload_n 0, 1) := by decide +kernel
theorem dX3_expect_12 : decode cX3_expect 12 = .ok (.getfield 9, 3) := by decide +kernel
theorem dX3_expect_15 : decode cX3_expect 15 = .ok (.invokevirtual 66, 3) := by decide +kernel
theorem dX3_expect_18 : decode cX3_expect 18 = .ok (.ifCond .eq 7, 3) := by decide +kernel
theorem dX3_expect_21 : decode cX3_expect 21 = .ok (.iconst 1, 1) := by decide +kernel
theorem dX3_expect_22 : decode cX3_expect 22 = .ok (.goto 4, 3) := by decide +kernel
theorem dX3_expect_25 : decode cX3_expect 25 = .ok (.iconst 0, 1) := by decide +kernel
theorem dX3_expect_26 : decode cX3_expect 26 = .ok (.ireturn, 1) := by decide +kernel
theorem dX3_takes_0 : decode cX3_takes 0 = .ok (.aload_n 0, 1) := by decide +kernel
theorem dX3_takes_1 : decode cX3_takes 1 = .ok (.invokevirtual 62, 3) := by decide +kernel
theorem dX3_takes_4 : decode cX3_takes 4 = .ok (.iload_n 1, 1) := by decide +kernel
theorem dX3_takes_5 : decode cX3_takes 5 = .ok (.if_icmp .eq 5, 3) := by decide +kernel
theorem dX3_takes_8 : decode cX3_takes 8 = .ok (.iconst 0, 1) := by decide +kernel
theorem dX3_takes_9 : decode cX3_takes 9 = .ok (.ireturn, 1) := by decide +kernel
theorem dX3_takes_10 : decode cX3_takes 10 = .ok (.aload_n 0, 1) := by decide +kernel
theorem dX3_takes_11 : decode cX3_takes 11 = .ok (.dup, 1) := by decide +kernel
theorem dX3_takes_12 : decode cX3_takes 12 = .ok (.getfield 9, 3) := by decide +kernel
theorem dX3_takes_15 : decode cX3_takes 15 = .ok (.iconst 1, 1) := by decide +kernel
theorem dX3_takes_16 : decode cX3_takes 16 = .ok (.iadd, 1) := by decide +kernel
theorem dX3_takes_17 : decode cX3_takes 17 = .ok (.putfield 9, 3) := by decide +kernel
theorem dX3_takes_20 : decode cX3_takes 20 = .ok (.iconst 1, 1) := by decide +kernel
theorem dX3_takes_21 : decode cX3_takes 21 = .ok (.ireturn, 1) := by decide +kernel
theorem dX3_next_0 : decode cX3_next 0 = .ok (.aload_n 0, 1) := by decide +kernel
theorem dX3_next_1 : decode cX3_next 1 = .ok (.getfield 9, 3) := by decide +kernel
theorem dX3_next_4 : decode cX3_next 4 = .ok (.aload_n 0, 1) := by decide +kernel
theorem dX3_next_5 : decode cX3_next 5 = .ok (.getfield 37, 3) := by decide +kernel
theorem dX3_next_8 : decode cX3_next 8 = .ok (.getfield 108, 3) := by decide +kernel
theorem dX3_next_11 : decode cX3_next 11 = .ok (.if_icmp .ge 33, 3) := by decide +kernel
theorem dX3_next_14 : decode cX3_next 14 = .ok (.aload_n 0, 1) := by decide +kernel
theorem dX3_next_15 : decode cX3_next 15 = .ok (.getfield 37, 3) := by decide +kernel
theorem dX3_next_18 : decode cX3_next 18 = .ok (.getfield 111, 3) := by decide +kernel
theorem dX3_next_21 : decode cX3_next 21 = .ok (.aload_n 0, 1) := by decide +kernel
theorem dX3_next_22 : decode cX3_next 22 = .ok (.getfield 9, 3) := by decide +kernel
theorem dX3_next_25 : decode cX3_next 25 = .ok (.caload, 1) := by decide +kernel
theorem dX3_next_26 : decode cX3_next 26 = .ok (.bipush 32, 2) := by decide +kernel
theorem dX3_next_28 : decode cX3_next 28 = .ok (.if_icmp .ne 16, 3) := by decide +kernel
theorem dX3_next_31 : decode cX3_next 31 = .ok (.aload_n 0, 1) := by decide +kernel
theorem dX3_next_32 : decode cX3_next 32 = .ok (.dup, 1) := by decide +kernel
theorem dX3_next_33 : decode cX3_next 33 = .ok (.getfield 9, 3) := by decide +kernel
theorem dX3_next_36 : decode cX3_next 36 = .ok (.iconst 1, 1) := by decide +kernel
theorem dX3_next_37 : decode cX3_next 37 = .ok (.iadd, 1) := by decide +kernel
theorem dX3_next_38 : decode cX3_next 38 = .ok (.putfield 9, 3) := by decide +kernel
theorem dX3_next_41 : decode cX3_next 41 = .ok (.goto (-41), 3) := by decide +kernel
theorem dX3_next_44 : decode cX3_next 44 = .ok (.aload_n 0, 1) := by decide +kernel
theorem dX3_next_45 : decode cX3_next 45 = .ok (.getfield 9, 3) := by decide +kernel
theorem dX3_next_48 : decode cX3_next 48 = .ok (.aload_n 0, 1) := by decide +kernel
theorem dX3_next_49 : decode cX3_next 49 = .ok (.getfield 37, 3) := by decide +kernel
theorem dX3_next_52 : decode cX3_next 52 = .ok (.getfield 108, 3) := by decide +kernel
theorem dX3_next_55 : decode cX3_next 55 = .ok (.if_icmp .ge 18, 3) := by decide +kernel
theorem dX3_next_58 : decode cX3_next 58 = .ok (.aload_n 0, 1) := by decide +kernel
theorem dX3_next_59 : decode cX3_next 59 = .ok (.getfield 37, 3) := by decide +kernel
theorem dX3_next_62 : decode cX3_next 62 = .ok (.getfield 111, 3) := by decide +kernel
theorem dX3_next_65 : decode cX3_next 65 = .ok (.aload_n 0, 1) := by decide +kernel
theorem dX3_next_66 : decode cX3_next 66 = .ok (.getfield 9, 3) := by decide +kernel
theorem dX3_next_69 : decode cX3_next 69 = .ok (.caload, 1) := by decide +kernel
theorem dX3_next_70 : decode cX3_next 70 = .ok (.goto 4, 3) := by decide +kernel
theorem dX3_next_73 : decode cX3_next 73 = .ok (.iconst 0, 1) := by decide +kernel
theorem dX3_next_74 : decode cX3_next 74 = .ok (.ireturn, 1) := by decide +kernel
theorem dX3_refuse_0 : decode cX3_refuse 0 = .ok (.aload_n 0, 1) := by decide +kernel
theorem dX3_refuse_1 : decode cX3_refuse 1 = .ok (.iload_n 1, 1) := by decide +kernel
theorem dX3_refuse_2 : decode cX3_refuse 2 = .ok (.putfield 15, 3) := by decide +kernel
theorem dX3_refuse_5 : decode cX3_refuse 5 = .ok (.aload_n 0, 1) := by decide +kernel
theorem dX3_refuse_6 : decode cX3_refuse 6 = .ok (.iload_n 2, 1) := by decide +kernel
theorem dX3_refuse_7 : decode cX3_refuse 7 = .ok (.putfield 18, 3) := by decide +kernel
theorem dX3_refuse_10 : decode cX3_refuse 10 = .ok (.iconst 0, 1) := by decide +kernel
theorem dX3_refuse_11 : decode cX3_refuse 11 = .ok (.ireturn, 1) := by decide +kernel
theorem dX3_isDigit_0 : decode cX3_isDigit 0 = .ok (.iload_n 0, 1) := by decide +kernel
theorem dX3_isDigit_1 : decode cX3_isDigit 1 = .ok (.bipush 48, 2) := by decide +kernel
theorem dX3_isDigit_3 : decode cX3_isDigit 3 = .ok (.if_icmp .lt 13, 3) := by decide +kernel
theorem dX3_isDigit_6 : decode cX3_isDigit 6 = .ok (.iload_n 0, 1) := by decide +kernel
theorem dX3_isDigit_7 : decode cX3_isDigit 7 = .ok (.bipush 57, 2) := by decide +kernel
theorem dX3_isDigit_9 : decode cX3_isDigit 9 = .ok (.if_icmp .gt 7, 3) := by decide +kernel
theorem dX3_isDigit_12 : decode cX3_isDigit 12 = .ok (.iconst 1, 1) := by decide +kernel
theorem dX3_isDigit_13 : decode cX3_isDigit 13 = .ok (.goto 4, 3) := by decide +kernel
theorem dX3_isDigit_16 : decode cX3_isDigit 16 = .ok (.iconst 0, 1) := by decide +kernel
theorem dX3_isDigit_17 : decode cX3_isDigit 17 = .ok (.ireturn, 1) := by decide +kernel
theorem dX4_init_0 : decode cX4_init 0 = .ok (.aload_n 0, 1) := by decide +kernel
theorem dX4_init_1 : decode cX4_init 1 = .ok (.invokespecial 3, 3) := by decide +kernel
theorem dX4_init_4 : decode cX4_init 4 = .ok (.aload_n 0, 1) := by decide +kernel
theorem dX4_init_5 : decode cX4_init 5 = .ok (.iload_n 1, 1) := by decide +kernel
theorem dX4_init_6 : decode cX4_init 6 = .ok (.putfield 9, 3) := by decide +kernel
theorem dX4_init_9 : decode cX4_init 9 = .ok (.aload_n 0, 1) := by decide +kernel
theorem dX4_init_10 : decode cX4_init 10 = .ok (.iload_n 1, 1) := by decide +kernel
theorem dX4_init_11 : decode cX4_init 11 = .ok (.newarray .int, 2) := by decide +kernel
theorem dX4_init_13 : decode cX4_init 13 = .ok (.putfield 15, 3) := by decide +kernel
theorem dX4_init_16 : decode cX4_init 16 = .ok (.aload_n 0, 1) := by decide +kernel
theorem dX4_init_17 : decode cX4_init 17 = .ok (.iload_n 1, 1) := by decide +kernel
theorem dX4_init_18 : decode cX4_init 18 = .ok (.newarray .long, 2) := by decide +kernel
theorem dX4_init_20 : decode cX4_init 20 = .ok (.putfield 19, 3) := by decide +kernel
theorem dX4_init_23 : decode cX4_init 23 = .ok (.aload_n 0, 1) := by decide +kernel
theorem dX4_init_24 : decode cX4_init 24 = .ok (.iload_n 1, 1) := by decide +kernel
theorem dX4_init_25 : decode cX4_init 25 = .ok (.newarray .long, 2) := by decide +kernel
theorem dX4_init_27 : decode cX4_init 27 = .ok (.putfield 23, 3) := by decide +kernel
theorem dX4_init_30 : decode cX4_init 30 = .ok (.aload_n 0, 1) := by decide +kernel
theorem dX4_init_31 : decode cX4_init 31 = .ok (.iconst 0, 1) := by decide +kernel
theorem dX4_init_32 : decode cX4_init 32 = .ok (.putfield 26, 3) := by decide +kernel
theorem dX4_init_35 : decode cX4_init 35 = .ok (.aload_n 0, 1) := by decide +kernel
theorem dX4_init_36 : decode cX4_init 36 = .ok (.iconst 0, 1) := by decide +kernel
theorem dX4_init_37 : decode cX4_init 37 = .ok (.putfield 29, 3) := by decide +kernel
theorem dX4_init_40 : decode cX4_init 40 = .ok (.return_, 1) := by decide +kernel
theorem dX4_keyOf_0 : decode cX4_keyOf 0 = .ok (.iload_n 0, 1) := by decide +kernel
theorem dX4_keyOf_1 : decode cX4_keyOf 1 = .ok (.bipush 11, 2) := by decide +kernel
theorem dX4_keyOf_3 : decode cX4_keyOf 3 = .ok (.ishl, 1) := by decide +kernel
theorem dX4_keyOf_4 : decode cX4_keyOf 4 = .ok (.iload_n 1, 1) := by decide +kernel
theorem dX4_keyOf_5 : decode cX4_keyOf 5 = .ok (.bipush 16, 2) := by decide +kernel
theorem dX4_keyOf_7 : decode cX4_keyOf 7 = .ok (.iadd, 1) := by decide +kernel
theorem dX4_keyOf_8 : decode cX4_keyOf 8 = .ok (.bipush 6, 2) := by decide +kernel
theorem dX4_keyOf_10 : decode cX4_keyOf 10 = .ok (.ishl, 1) := by decide +kernel
theorem dX4_keyOf_11 : decode cX4_keyOf 11 = .ok (.ior, 1) := by decide +kernel
theorem dX4_keyOf_12 : decode cX4_keyOf 12 = .ok (.bipush 31, 2) := by decide +kernel
theorem dX4_keyOf_14 : decode cX4_keyOf 14 = .ok (.iload_n 2, 1) := by decide +kernel
theorem dX4_keyOf_15 : decode cX4_keyOf 15 = .ok (.isub, 1) := by decide +kernel
theorem dX4_keyOf_16 : decode cX4_keyOf 16 = .ok (.ior, 1) := by decide +kernel
theorem dX4_keyOf_17 : decode cX4_keyOf 17 = .ok (.ireturn, 1) := by decide +kernel
theorem dX4_clear_0 : decode cX4_clear 0 = .ok (.aload_n 0, 1) := by decide +kernel
theorem dX4_clear_1 : decode cX4_clear 1 = .ok (.iconst 0, 1) := by decide +kernel
theorem dX4_clear_2 : decode cX4_clear 2 = .ok (.putfield 26, 3) := by decide +kernel
theorem dX4_clear_5 : decode cX4_clear 5 = .ok (.aload_n 0, 1) := by decide +kernel
theorem dX4_clear_6 : decode cX4_clear 6 = .ok (.iconst 0, 1) := by decide +kernel
theorem dX4_clear_7 : decode cX4_clear 7 = .ok (.putfield 29, 3) := by decide +kernel
theorem dX4_clear_10 : decode cX4_clear 10 = .ok (.return_, 1) := by decide +kernel
theorem dX4_size_0 : decode cX4_size 0 = .ok (.aload_n 0, 1) := by decide +kernel
theorem dX4_size_1 : decode cX4_size 1 = .ok (.getfield 26, 3) := by decide +kernel
theorem dX4_size_4 : decode cX4_size 4 = .ok (.ireturn, 1) := by decide +kernel
theorem dX4_has_0 : decode cX4_has 0 = .ok (.iload_n 1, 1) := by decide +kernel
theorem dX4_has_1 : decode cX4_has 1 = .ok (.ifCond .lt 15, 3) := by decide +kernel
theorem dX4_has_4 : decode cX4_has 4 = .ok (.iload_n 1, 1) := by decide +kernel
theorem dX4_has_5 : decode cX4_has 5 = .ok (.aload_n 0, 1) := by decide +kernel
theorem dX4_has_6 : decode cX4_has 6 = .ok (.getfield 26, 3) := by decide +kernel
theorem dX4_has_9 : decode cX4_has 9 = .ok (.if_icmp .ge 7, 3) := by decide +kernel
theorem dX4_has_12 : decode cX4_has 12 = .ok (.iconst 1, 1) := by decide +kernel
theorem dX4_has_13 : decode cX4_has 13 = .ok (.goto 4, 3) := by decide +kernel
theorem dX4_has_16 : decode cX4_has 16 = .ok (.iconst 0, 1) := by decide +kernel
theorem dX4_has_17 : decode cX4_has 17 = .ok (.ireturn, 1) := by decide +kernel
theorem dX4_topAt_0 : decode cX4_topAt 0 = .ok (.aload_n 0, 1) := by decide +kernel
theorem dX4_topAt_1 : decode cX4_topAt 1 = .ok (.iload_n 1, 1) := by decide +kernel
theorem dX4_topAt_2 : decode cX4_topAt 2 = .ok (.invokevirtual 33, 3) := by decide +kernel
theorem dX4_topAt_5 : decode cX4_topAt 5 = .ok (.ifCond .eq 12, 3) := by decide +kernel
theorem dX4_topAt_8 : decode cX4_topAt 8 = .ok (.aload_n 0, 1) := by decide +kernel
theorem dX4_topAt_9 : decode cX4_topAt 9 = .ok (.getfield 19, 3) := by decide +kernel
theorem dX4_topAt_12 : decode cX4_topAt 12 = .ok (.iload_n 1, 1) := by decide +kernel
theorem dX4_topAt_13 : decode cX4_topAt 13 = .ok (.laload, 1) := by decide +kernel
theorem dX4_topAt_14 : decode cX4_topAt 14 = .ok (.goto 4, 3) := by decide +kernel
theorem dX4_topAt_17 : decode cX4_topAt 17 = .ok (.lconst 0, 1) := by decide +kernel
theorem dX4_topAt_18 : decode cX4_topAt 18 = .ok (.lreturn, 1) := by decide +kernel
theorem dX4_bottomAt_0 : decode cX4_bottomAt 0 = .ok (.aload_n 0, 1) := by decide +kernel
theorem dX4_bottomAt_1 : decode cX4_bottomAt 1 = .ok (.iload_n 1, 1) := by decide +kernel
theorem dX4_bottomAt_2 : decode cX4_bottomAt 2 = .ok (.invokevirtual 33, 3) := by decide +kernel
theorem dX4_bottomAt_5 : decode cX4_bottomAt 5 = .ok (.ifCond .eq 12, 3) := by decide +kernel
theorem dX4_bottomAt_8 : decode cX4_bottomAt 8 = .ok (.aload_n 0, 1) := by decide +kernel
theorem dX4_bottomAt_9 : decode cX4_bottomAt 9 = .ok (.getfield 23, 3) := by decide +kernel
theorem dX4_bottomAt_12 : decode cX4_bottomAt 12 = .ok (.iload_n 1, 1) := by decide +kernel
theorem dX4_bottomAt_13 : decode cX4_bottomAt 13 = .ok (.laload, 1) := by decide +kernel
theorem dX4_bottomAt_14 : decode cX4_bottomAt 14 = .ok (.goto 4, 3) := by decide +kernel
theorem dX4_bottomAt_17 : decode cX4_bottomAt 17 = .ok (.lconst 1, 1) := by decide +kernel
theorem dX4_bottomAt_18 : decode cX4_bottomAt 18 = .ok (.lreturn, 1) := by decide +kernel
theorem dX4_kindAt_0 : decode cX4_kindAt 0 = .ok (.aload_n 0, 1) := by decide +kernel
theorem dX4_kindAt_1 : decode cX4_kindAt 1 = .ok (.iload_n 1, 1) := by decide +kernel
theorem dX4_kindAt_2 : decode cX4_kindAt 2 = .ok (.invokevirtual 33, 3) := by decide +kernel
theorem dX4_kindAt_5 : decode cX4_kindAt 5 = .ok (.ifCond .eq 15, 3) := by decide +kernel
theorem dX4_kindAt_8 : decode cX4_kindAt 8 = .ok (.aload_n 0, 1) := by decide +kernel
theorem dX4_kindAt_9 : decode cX4_kindAt 9 = .ok (.getfield 15, 3) := by decide +kernel
theorem dX4_kindAt_12 : decode cX4_kindAt 12 = .ok (.iload_n 1, 1) := by decide +kernel
theorem dX4_kindAt_13 : decode cX4_kindAt 13 = .ok (.iaload, 1) := by decide +kernel
theorem dX4_kindAt_14 : decode cX4_kindAt 14 = .ok (.bipush 11, 2) := by decide +kernel
theorem dX4_kindAt_16 : decode cX4_kindAt 16 = .ok (.ishr, 1) := by decide +kernel
theorem dX4_kindAt_17 : decode cX4_kindAt 17 = .ok (.goto 4, 3) := by decide +kernel
theorem dX4_kindAt_20 : decode cX4_kindAt 20 = .ok (.iconst 0, 1) := by decide +kernel
theorem dX4_kindAt_21 : decode cX4_kindAt 21 = .ok (.ireturn, 1) := by decide +kernel
theorem dX4_argumentAt_0 : decode cX4_argumentAt 0 = .ok (.aload_n 0, 1) := by decide +kernel
theorem dX4_argumentAt_1 : decode cX4_argumentAt 1 = .ok (.iload_n 1, 1) := by decide +kernel
theorem dX4_argumentAt_2 : decode cX4_argumentAt 2 = .ok (.invokevirtual 33, 3) := by decide +kernel
theorem dX4_argumentAt_5 : decode cX4_argumentAt 5 = .ok (.ifCond .eq 21, 3) := by decide +kernel
theorem dX4_argumentAt_8 : decode cX4_argumentAt 8 = .ok (.aload_n 0, 1) := by decide +kernel
theorem dX4_argumentAt_9 : decode cX4_argumentAt 9 = .ok (.getfield 15, 3) := by decide +kernel
theorem dX4_argumentAt_12 : decode cX4_argumentAt 12 = .ok (.iload_n 1, 1) := by decide +kernel
theorem dX4_argumentAt_13 : decode cX4_argumentAt 13 = .ok (.iaload, 1) := by decide +kernel
theorem dX4_argumentAt_14 : decode cX4_argumentAt 14 = .ok (.bipush 6, 2) := by decide +kernel
theorem dX4_argumentAt_16 : decode cX4_argumentAt 16 = .ok (.ishr, 1) := by decide +kernel
theorem dX4_argumentAt_17 : decode cX4_argumentAt 17 = .ok (.bipush 31, 2) := by decide +kernel
theorem dX4_argumentAt_19 : decode cX4_argumentAt 19 = .ok (.iand, 1) := by decide +kernel
theorem dX4_argumentAt_20 : decode cX4_argumentAt 20 = .ok (.bipush 16, 2) := by decide +kernel
theorem dX4_argumentAt_22 : decode cX4_argumentAt 22 = .ok (.isub, 1) := by decide +kernel
theorem dX4_argumentAt_23 : decode cX4_argumentAt 23 = .ok (.goto 4, 3) := by decide +kernel
theorem dX4_argumentAt_26 : decode cX4_argumentAt 26 = .ok (.iconst 0, 1) := by decide +kernel
theorem dX4_argumentAt_27 : decode cX4_argumentAt 27 = .ok (.ireturn, 1) := by decide +kernel
theorem dX4_powerAt_0 : decode cX4_powerAt 0 = .ok (.aload_n 0, 1) := by decide +kernel
theorem dX4_powerAt_1 : decode cX4_powerAt 1 = .ok (.iload_n 1, 1) := by decide +kernel
theorem dX4_powerAt_2 : decode cX4_powerAt 2 = .ok (.invokevirtual 33, 3) := by decide +kernel
theorem dX4_powerAt_5 : decode cX4_powerAt 5 = .ok (.ifCond .eq 18, 3) := by decide +kernel
theorem dX4_powerAt_8 : decode cX4_powerAt 8 = .ok (.bipush 31, 2) := by decide +kernel
theorem dX4_powerAt_10 : decode cX4_powerAt 10 = .ok (.aload_n 0, 1) := by decide +kernel
theorem dX4_powerAt_11 : decode cX4_powerAt 11 = .ok (.getfield 15, 3) := by decide +kernel
theorem dX4_powerAt_14 : decode cX4_powerAt 14 = .ok (.iload_n 1, 1) := by decide +kernel
theorem dX4_powerAt_15 : decode cX4_powerAt 15 = .ok (.iaload, 1) := by decide +kernel
theorem dX4_powerAt_16 : decode cX4_powerAt 16 = .ok (.bipush 63, 2) := by decide +kernel
theorem dX4_powerAt_18 : decode cX4_powerAt 18 = .ok (.iand, 1) := by decide +kernel
theorem dX4_powerAt_19 : decode cX4_powerAt 19 = .ok (.isub, 1) := by decide +kernel
theorem dX4_powerAt_20 : decode cX4_powerAt 20 = .ok (.goto 4, 3) := by decide +kernel
theorem dX4_powerAt_23 : decode cX4_powerAt 23 = .ok (.iconst 0, 1) := by decide +kernel
theorem dX4_powerAt_24 : decode cX4_powerAt 24 = .ok (.ireturn, 1) := by decide +kernel
theorem dX4_put_0 : decode cX4_put 0 = .ok (.iload_n 1, 1) := by decide +kernel
theorem dX4_put_1 : decode cX4_put 1 = .ok (.iconst 3, 1) := by decide +kernel
theorem dX4_put_2 : decode cX4_put 2 = .ok (.if_icmp .eq 8, 3) := by decide +kernel
theorem dX4_put_5 : decode cX4_put 5 = .ok (.iload_n 1, 1) := by decide +kernel
theorem dX4_put_6 : decode cX4_put 6 = .ok (.iconst 4, 1) := by decide +kernel
theorem dX4_put_7 : decode cX4_put 7 = .ok (.if_icmp .ne 7, 3) := by decide +kernel
theorem dX4_put_10 : decode cX4_put 10 = .ok (.iconst 1, 1) := by decide +kernel
theorem dX4_put_11 : decode cX4_put 11 = .ok (.goto 4, 3) := by decide +kernel
theorem dX4_put_14 : decode cX4_put 14 = .ok (.iconst 0, 1) := by decide +kernel
theorem dX4_put_15 : decode cX4_put 15 = .ok (.istore 8, 2) := by decide +kernel
theorem dX4_put_17 : decode cX4_put 17 = .ok (.iload_n 2, 1) := by decide +kernel
theorem dX4_put_18 : decode cX4_put 18 = .ok (.ifCond .ne 25, 3) := by decide +kernel
theorem dX4_put_21 : decode cX4_put 21 = .ok (.iload_n 1, 1) := by decide +kernel
theorem dX4_put_22 : decode cX4_put 22 = .ok (.iconst 3, 1) := by decide +kernel
theorem dX4_put_23 : decode cX4_put 23 = .ok (.if_icmp .eq 72, 3) := by decide +kernel
theorem dX4_put_26 : decode cX4_put 26 = .ok (.aload_n 0, 1) := by decide +kernel
theorem dX4_put_27 : decode cX4_put 27 = .ok (.iconst 0, 1) := by decide +kernel
theorem dX4_put_28 : decode cX4_put 28 = .ok (.iconst 0, 1) := by decide +kernel
theorem dX4_put_29 : decode cX4_put 29 = .ok (.iload_n 3, 1) := by decide +kernel
theorem dX4_put_30 : decode cX4_put 30 = .ok (.invokestatic 37, 3) := by decide +kernel
theorem dX4_put_33 : decode cX4_put 33 = .ok (.lload 4, 2) := by decide +kernel
theorem dX4_put_35 : decode cX4_put 35 = .ok (.lload 6, 2) := by decide +kernel
theorem dX4_put_37 : decode cX4_put 37 = .ok (.invokevirtual 41, 3) := by decide +kernel
theorem dX4_put_40 : decode cX4_put 40 = .ok (.goto 55, 3) := by decide +kernel
theorem dX4_put_43 : decode cX4_put 43 = .ok (.iload 8, 2) := by decide +kernel
theorem dX4_put_45 : decode cX4_put 45 = .ok (.ifCond .eq 36, 3) := by decide +kernel
theorem dX4_put_48 : decode cX4_put 48 = .ok (.iload_n 2, 1) := by decide +kernel
theorem dX4_put_49 : decode cX4_put 49 = .ok (.ifCond .ge 32, 3) := by decide +kernel
theorem dX4_put_52 : decode cX4_put 52 = .ok (.aload_n 0, 1) := by decide +kernel
theorem dX4_put_53 : decode cX4_put 53 = .ok (.iload_n 1, 1) := by decide +kernel
theorem dX4_put_54 : decode cX4_put 54 = .ok (.iload_n 2, 1) := by decide +kernel
theorem dX4_put_55 : decode cX4_put 55 = .ok (.ineg, 1) := by decide +kernel
theorem dX4_put_56 : decode cX4_put 56 = .ok (.iload_n 3, 1) := by decide +kernel
theorem dX4_put_57 : decode cX4_put 57 = .ok (.invokestatic 37, 3) := by decide +kernel
theorem dX4_put_60 : decode cX4_put 60 = .ok (.iload_n 1, 1) := by decide +kernel
theorem dX4_put_61 : decode cX4_put 61 = .ok (.iconst 3, 1) := by decide +kernel
theorem dX4_put_62 : decode cX4_put 62 = .ok (.if_icmp .ne 9, 3) := by decide +kernel
theorem dX4_put_65 : decode cX4_put 65 = .ok (.lload 4, 2) := by decide +kernel
theorem dX4_put_67 : decode cX4_put 67 = .ok (.lneg, 1) := by decide +kernel
theorem dX4_put_68 : decode cX4_put 68 = .ok (.goto 5, 3) := by decide +kernel
theorem dX4_put_71 : decode cX4_put 71 = .ok (.lload 4, 2) := by decide +kernel
theorem dX4_put_73 : decode cX4_put 73 = .ok (.lload 6, 2) := by decide +kernel
theorem dX4_put_75 : decode cX4_put 75 = .ok (.invokevirtual 41, 3) := by decide +kernel
theorem dX4_put_78 : decode cX4_put 78 = .ok (.goto 17, 3) := by decide +kernel
theorem dX4_put_81 : decode cX4_put 81 = .ok (.aload_n 0, 1) := by decide +kernel
theorem dX4_put_82 : decode cX4_put 82 = .ok (.iload_n 1, 1) := by decide +kernel
theorem dX4_put_83 : decode cX4_put 83 = .ok (.iload_n 2, 1) := by decide +kernel
theorem dX4_put_84 : decode cX4_put 84 = .ok (.iload_n 3, 1) := by decide +kernel
theorem dX4_put_85 : decode cX4_put 85 = .ok (.invokestatic 37, 3) := by decide +kernel
theorem dX4_put_88 : decode cX4_put 88 = .ok (.lload 4, 2) := by decide +kernel
theorem dX4_put_90 : decode cX4_put 90 = .ok (.lload 6, 2) := by decide +kernel
theorem dX4_put_92 : decode cX4_put 92 = .ok (.invokevirtual 41, 3) := by decide +kernel
theorem dX4_put_95 : decode cX4_put 95 = .ok (.return_, 1) := by decide +kernel
theorem dX4_putAll_0 : decode cX4_putAll 0 = .ok (.iconst 0, 1) := by decide +kernel
theorem dX4_putAll_1 : decode cX4_putAll 1 = .ok (.istore 6, 2) := by decide +kernel
theorem dX4_putAll_3 : decode cX4_putAll 3 = .ok (.iload 6, 2) := by decide +kernel
theorem dX4_putAll_5 : decode cX4_putAll 5 = .ok (.aload_n 1, 1) := by decide +kernel
theorem dX4_putAll_6 : decode cX4_putAll 6 = .ok (.getfield 26, 3) := by decide +kernel
theorem dX4_putAll_9 : decode cX4_putAll 9 = .ok (.if_icmp .ge 39, 3) := by decide +kernel
theorem dX4_putAll_12 : decode cX4_putAll 12 = .ok (.aload_n 0, 1) := by decide +kernel
theorem dX4_putAll_13 : decode cX4_putAll 13 = .ok (.aload_n 1, 1) := by decide +kernel
theorem dX4_putAll_14 : decode cX4_putAll 14 = .ok (.getfield 15, 3) := by decide +kernel
theorem dX4_putAll_17 : decode cX4_putAll 17 = .ok (.iload 6, 2) := by decide +kernel
theorem dX4_putAll_19 : decode cX4_putAll 19 = .ok (.iaload, 1) := by decide +kernel
theorem dX4_putAll_20 : decode cX4_putAll 20 = .ok (.aload_n 1, 1) := by decide +kernel
theorem dX4_putAll_21 : decode cX4_putAll 21 = .ok (.getfield 19, 3) := by decide +kernel
theorem dX4_putAll_24 : decode cX4_putAll 24 = .ok (.iload 6, 2) := by decide +kernel
theorem dX4_putAll_26 : decode cX4_putAll 26 = .ok (.laload, 1) := by decide +kernel
theorem dX4_putAll_27 : decode cX4_putAll 27 = .ok (.lload_n 2, 1) := by decide +kernel
theorem dX4_putAll_28 : decode cX4_putAll 28 = .ok (.lmul, 1) := by decide +kernel
theorem dX4_putAll_29 : decode cX4_putAll 29 = .ok (.aload_n 1, 1) := by decide +kernel
theorem dX4_putAll_30 : decode cX4_putAll 30 = .ok (.getfield 23, 3) := by decide +kernel
theorem dX4_putAll_33 : decode cX4_putAll 33 = .ok (.iload 6, 2) := by decide +kernel
theorem dX4_putAll_35 : decode cX4_putAll 35 = .ok (.laload, 1) := by decide +kernel
theorem dX4_putAll_36 : decode cX4_putAll 36 = .ok (.lload 4, 2) := by decide +kernel
theorem dX4_putAll_38 : decode cX4_putAll 38 = .ok (.lmul, 1) := by decide +kernel
theorem dX4_putAll_39 : decode cX4_putAll 39 = .ok (.invokevirtual 41, 3) := by decide +kernel
theorem dX4_putAll_42 : decode cX4_putAll 42 = .ok (.iinc 6 1, 3) := by decide +kernel
theorem dX4_putAll_45 : decode cX4_putAll 45 = .ok (.goto (-42), 3) := by decide +kernel
theorem dX4_putAll_48 : decode cX4_putAll 48 = .ok (.return_, 1) := by decide +kernel
theorem dX4_addUp_0 : decode cX4_addUp 0 = .ok (.aload_n 0, 1) := by decide +kernel
theorem dX4_addUp_1 : decode cX4_addUp 1 = .ok (.iload_n 1, 1) := by decide +kernel
theorem dX4_addUp_2 : decode cX4_addUp 2 = .ok (.invokevirtual 45, 3) := by decide +kernel
theorem dX4_addUp_5 : decode cX4_addUp 5 = .ok (.istore 6, 2) := by decide +kernel
theorem dX4_addUp_7 : decode cX4_addUp 7 = .ok (.iload 6, 2) := by decide +kernel
theorem dX4_addUp_9 : decode cX4_addUp 9 = .ok (.aload_n 0, 1) := by decide +kernel
theorem dX4_addUp_10 : decode cX4_addUp 10 = .ok (.getfield 26, 3) := by decide +kernel
theorem dX4_addUp_13 : decode cX4_addUp 13 = .ok (.if_icmp .ge 18, 3) := by decide +kernel
theorem dX4_addUp_16 : decode cX4_addUp 16 = .ok (.aload_n 0, 1) := by decide +kernel
theorem dX4_addUp_17 : decode cX4_addUp 17 = .ok (.getfield 15, 3) := by decide +kernel
theorem dX4_addUp_20 : decode cX4_addUp 20 = .ok (.iload 6, 2) := by decide +kernel
theorem dX4_addUp_22 : decode cX4_addUp 22 = .ok (.iaload, 1) := by decide +kernel
theorem dX4_addUp_23 : decode cX4_addUp 23 = .ok (.iload_n 1, 1) := by decide +kernel
theorem dX4_addUp_24 : decode cX4_addUp 24 = .ok (.if_icmp .ne 7, 3) := by decide +kernel
theorem dX4_addUp_27 : decode cX4_addUp 27 = .ok (.iconst 1, 1) := by decide +kernel
theorem dX4_addUp_28 : decode cX4_addUp 28 = .ok (.goto 4, 3) := by decide +kernel
theorem dX4_addUp_31 : decode cX4_addUp 31 = .ok (.iconst 0, 1) := by decide +kernel
theorem dX4_addUp_32 : decode cX4_addUp 32 = .ok (.istore 7, 2) := by decide +kernel
theorem dX4_addUp_34 : decode cX4_addUp 34 = .ok (.iload 7, 2) := by decide +kernel
theorem dX4_addUp_36 : decode cX4_addUp 36 = .ok (.ifCond .eq 26, 3) := by decide +kernel
theorem dX4_addUp_39 : decode cX4_addUp 39 = .ok (.aload_n 0, 1) := by decide +kernel
theorem dX4_addUp_40 : decode cX4_addUp 40 = .ok (.getfield 19, 3) := by decide +kernel
theorem dX4_addUp_43 : decode cX4_addUp 43 = .ok (.iload 6, 2) := by decide +kernel
theorem dX4_addUp_45 : decode cX4_addUp 45 = .ok (.laload, 1) := by decide +kernel
theorem dX4_addUp_46 : decode cX4_addUp 46 = .ok (.lload 4, 2) := by decide +kernel
theorem dX4_addUp_48 : decode cX4_addUp 48 = .ok (.lmul, 1) := by decide +kernel
theorem dX4_addUp_49 : decode cX4_addUp 49 = .ok (.lload_n 2, 1) := by decide +kernel
theorem dX4_addUp_50 : decode cX4_addUp 50 = .ok (.aload_n 0, 1) := by decide +kernel
theorem dX4_addUp_51 : decode cX4_addUp 51 = .ok (.getfield 23, 3) := by decide +kernel
theorem dX4_addUp_54 : decode cX4_addUp 54 = .ok (.iload 6, 2) := by decide +kernel
theorem dX4_addUp_56 : decode cX4_addUp 56 = .ok (.laload, 1) := by decide +kernel
theorem dX4_addUp_57 : decode cX4_addUp 57 = .ok (.lmul, 1) := by decide +kernel
theorem dX4_addUp_58 : decode cX4_addUp 58 = .ok (.ladd, 1) := by decide +kernel
theorem dX4_addUp_59 : decode cX4_addUp 59 = .ok (.goto 4, 3) := by decide +kernel
theorem dX4_addUp_62 : decode cX4_addUp 62 = .ok (.lload_n 2, 1) := by decide +kernel
theorem dX4_addUp_63 : decode cX4_addUp 63 = .ok (.lstore 8, 2) := by decide +kernel
theorem dX4_addUp_65 : decode cX4_addUp 65 = .ok (.iload 7, 2) := by decide +kernel
theorem dX4_addUp_67 : decode cX4_addUp 67 = .ok (.ifCond .eq 16, 3) := by decide +kernel
theorem dX4_addUp_70 : decode cX4_addUp 70 = .ok (.aload_n 0, 1) := by decide +kernel
theorem dX4_addUp_71 : decode cX4_addUp 71 = .ok (.getfield 23, 3) := by decide +kernel
theorem dX4_addUp_74 : decode cX4_addUp 74 = .ok (.iload 6, 2) := by decide +kernel
theorem dX4_addUp_76 : decode cX4_addUp 76 = .ok (.laload, 1) := by decide +kernel
theorem dX4_addUp_77 : decode cX4_addUp 77 = .ok (.lload 4, 2) := by decide +kernel
theorem dX4_addUp_79 : decode cX4_addUp 79 = .ok (.lmul, 1) := by decide +kernel
theorem dX4_addUp_80 : decode cX4_addUp 80 = .ok (.goto 5, 3) := by decide +kernel
theorem dX4_addUp_83 : decode cX4_addUp 83 = .ok (.lload 4, 2) := by decide +kernel
theorem dX4_addUp_85 : decode cX4_addUp 85 = .ok (.lstore 10, 2) := by decide +kernel
theorem dX4_addUp_87 : decode cX4_addUp 87 = .ok (.lload 8, 2) := by decide +kernel
theorem dX4_addUp_89 : decode cX4_addUp 89 = .ok (.lconst 0, 1) := by decide +kernel
theorem dX4_addUp_90 : decode cX4_addUp 90 = .ok (.lcmp, 1) := by decide +kernel
theorem dX4_addUp_91 : decode cX4_addUp 91 = .ok (.ifCond .ne 15, 3) := by decide +kernel
theorem dX4_addUp_94 : decode cX4_addUp 94 = .ok (.iload 7, 2) := by decide +kernel
theorem dX4_addUp_96 : decode cX4_addUp 96 = .ok (.ifCond .eq 9, 3) := by decide +kernel
theorem dX4_addUp_99 : decode cX4_addUp 99 = .ok (.aload_n 0, 1) := by decide +kernel
theorem dX4_addUp_100 : decode cX4_addUp 100 = .ok (.iload 6, 2) := by decide +kernel
theorem dX4_addUp_102 : decode cX4_addUp 102 = .ok (.invokevirtual 49, 3) := by decide +kernel
theorem dX4_addUp_105 : decode cX4_addUp 105 = .ok (.return_, 1) := by decide +kernel
theorem dX4_addUp_106 : decode cX4_addUp 106 = .ok (.iload 7, 2) := by decide +kernel
theorem dX4_addUp_108 : decode cX4_addUp 108 = .ok (.ifCond .ne 18, 3) := by decide +kernel
theorem dX4_addUp_111 : decode cX4_addUp 111 = .ok (.aload_n 0, 1) := by decide +kernel
theorem dX4_addUp_112 : decode cX4_addUp 112 = .ok (.iload 6, 2) := by decide +kernel
theorem dX4_addUp_114 : decode cX4_addUp 114 = .ok (.invokevirtual 53, 3) := by decide +kernel
theorem dX4_addUp_117 : decode cX4_addUp 117 = .ok (.ifCond .ne 9, 3) := by decide +kernel
theorem dX4_addUp_120 : decode cX4_addUp 120 = .ok (.aload_n 0, 1) := by decide +kernel
theorem dX4_addUp_121 : decode cX4_addUp 121 = .ok (.iconst 1, 1) := by decide +kernel
theorem dX4_addUp_122 : decode cX4_addUp 122 = .ok (.putfield 29, 3) := by decide +kernel
theorem dX4_addUp_125 : decode cX4_addUp 125 = .ok (.return_, 1) := by decide +kernel
theorem dX4_addUp_126 : decode cX4_addUp 126 = .ok (.aload_n 0, 1) := by decide +kernel
theorem dX4_addUp_127 : decode cX4_addUp 127 = .ok (.getfield 15, 3) := by decide +kernel
theorem dX4_addUp_130 : decode cX4_addUp 130 = .ok (.iload 6, 2) := by decide +kernel
theorem dX4_addUp_132 : decode cX4_addUp 132 = .ok (.iload_n 1, 1) := by decide +kernel
theorem dX4_addUp_133 : decode cX4_addUp 133 = .ok (.iastore, 1) := by decide +kernel
theorem dX4_addUp_134 : decode cX4_addUp 134 = .ok (.aload_n 0, 1) := by decide +kernel
theorem dX4_addUp_135 : decode cX4_addUp 135 = .ok (.iload 6, 2) := by decide +kernel
theorem dX4_addUp_137 : decode cX4_addUp 137 = .ok (.lload 8, 2) := by decide +kernel
theorem dX4_addUp_139 : decode cX4_addUp 139 = .ok (.lload 10, 2) := by decide +kernel
theorem dX4_addUp_141 : decode cX4_addUp 141 = .ok (.invokevirtual 56, 3) := by decide +kernel
theorem dX4_addUp_144 : decode cX4_addUp 144 = .ok (.return_, 1) := by decide +kernel
theorem dX4_placeFor_0 : decode cX4_placeFor 0 = .ok (.iconst 0, 1) := by decide +kernel
theorem dX4_placeFor_1 : decode cX4_placeFor 1 = .ok (.istore_n 2, 1) := by decide +kernel
theorem dX4_placeFor_2 : decode cX4_placeFor 2 = .ok (.iload_n 2, 1) := by decide +kernel
theorem dX4_placeFor_3 : decode cX4_placeFor 3 = .ok (.aload_n 0, 1) := by decide +kernel
theorem dX4_placeFor_4 : decode cX4_placeFor 4 = .ok (.getfield 26, 3) := by decide +kernel
theorem dX4_placeFor_7 : decode cX4_placeFor 7 = .ok (.if_icmp .ge 19, 3) := by decide +kernel
theorem dX4_placeFor_10 : decode cX4_placeFor 10 = .ok (.aload_n 0, 1) := by decide +kernel
theorem dX4_placeFor_11 : decode cX4_placeFor 11 = .ok (.getfield 15, 3) := by decide +kernel
theorem dX4_placeFor_14 : decode cX4_placeFor 14 = .ok (.iload_n 2, 1) := by decide +kernel
theorem dX4_placeFor_15 : decode cX4_placeFor 15 = .ok (.iaload, 1) := by decide +kernel
theorem dX4_placeFor_16 : decode cX4_placeFor 16 = .ok (.iload_n 1, 1) := by decide +kernel
theorem dX4_placeFor_17 : decode cX4_placeFor 17 = .ok (.if_icmp .ge 9, 3) := by decide +kernel
theorem dX4_placeFor_20 : decode cX4_placeFor 20 = .ok (.iinc 2 1, 3) := by decide +kernel
theorem dX4_placeFor_23 : decode cX4_placeFor 23 = .ok (.goto (-21), 3) := by decide +kernel
theorem dX4_placeFor_26 : decode cX4_placeFor 26 = .ok (.iload_n 2, 1) := by decide +kernel
theorem dX4_placeFor_27 : decode cX4_placeFor 27 = .ok (.ireturn, 1) := by decide +kernel
theorem dX4_openAt_0 : decode cX4_openAt 0 = .ok (.aload_n 0, 1) := by decide +kernel
theorem dX4_openAt_1 : decode cX4_openAt 1 = .ok (.getfield 26, 3) := by decide +kernel
theorem dX4_openAt_4 : decode cX4_openAt 4 = .ok (.aload_n 0, 1) := by decide +kernel
theorem dX4_openAt_5 : decode cX4_openAt 5 = .ok (.getfield 9, 3) := by decide +kernel
theorem dX4_openAt_8 : decode cX4_openAt 8 = .ok (.if_icmp .lt 5, 3) := by decide +kernel
theorem dX4_openAt_11 : decode cX4_openAt 11 = .ok (.iconst 0, 1) := by decide +kernel
theorem dX4_openAt_12 : decode cX4_openAt 12 = .ok (.ireturn, 1) := by decide +kernel
theorem dX4_openAt_13 : decode cX4_openAt 13 = .ok (.aload_n 0, 1) := by decide +kernel
theorem dX4_openAt_14 : decode cX4_openAt 14 = .ok (.getfield 26, 3) := by decide +kernel
theorem dX4_openAt_17 : decode cX4_openAt 17 = .ok (.istore_n 2, 1) := by decide +kernel
theorem dX4_openAt_18 : decode cX4_openAt 18 = .ok (.iload_n 2, 1) := by decide +kernel
theorem dX4_openAt_19 : decode cX4_openAt 19 = .ok (.iload_n 1, 1) := by decide +kernel
theorem dX4_openAt_20 : decode cX4_openAt 20 = .ok (.if_icmp .le 51, 3) := by decide +kernel
theorem dX4_openAt_23 : decode cX4_openAt 23 = .ok (.aload_n 0, 1) := by decide +kernel
theorem dX4_openAt_24 : decode cX4_openAt 24 = .ok (.getfield 15, 3) := by decide +kernel
theorem dX4_openAt_27 : decode cX4_openAt 27 = .ok (.iload_n 2, 1) := by decide +kernel
theorem dX4_openAt_28 : decode cX4_openAt 28 = .ok (.aload_n 0, 1) := by decide +kernel
theorem dX4_openAt_29 : decode cX4_openAt 29 = .ok (.getfield 15, 3) := by decide +kernel
theorem dX4_openAt_32 : decode cX4_openAt 32 = .ok (.iload_n 2, 1) := by decide +kernel
theorem dX4_openAt_33 : decode cX4_openAt 33 = .ok (.iconst 1, 1) := by decide +kernel
theorem dX4_openAt_34 : decode cX4_openAt 34 = .ok (.isub, 1) := by decide +kernel
theorem dX4_openAt_35 : decode cX4_openAt 35 = .ok (.iaload, 1) := by decide +kernel
theorem dX4_openAt_36 : decode cX4_openAt 36 = .ok (.iastore, 1) := by decide +kernel
theorem dX4_openAt_37 : decode cX4_openAt 37 = .ok (.aload_n 0, 1) := by decide +kernel
theorem dX4_openAt_38 : decode cX4_openAt 38 = .ok (.getfield 19, 3) := by decide +kernel
theorem dX4_openAt_41 : decode cX4_openAt 41 = .ok (.iload_n 2, 1) := by decide +kernel
theorem dX4_openAt_42 : decode cX4_openAt 42 = .ok (.aload_n 0, 1) := by decide +kernel
theorem dX4_openAt_43 : decode cX4_openAt 43 = .ok (.getfield 19, 3) := by decide +kernel
theorem dX4_openAt_46 : decode cX4_openAt 46 = .ok (.iload_n 2, 1) := by decide +kernel
theorem dX4_openAt_47 : decode cX4_openAt 47 = .ok (.iconst 1, 1) := by decide +kernel
theorem dX4_openAt_48 : decode cX4_openAt 48 = .ok (.isub, 1) := by decide +kernel
theorem dX4_openAt_49 : decode cX4_openAt 49 = .ok (.laload, 1) := by decide +kernel
theorem dX4_openAt_50 : decode cX4_openAt 50 = .ok (.lastore, 1) := by decide +kernel
theorem dX4_openAt_51 : decode cX4_openAt 51 = .ok (.aload_n 0, 1) := by decide +kernel
theorem dX4_openAt_52 : decode cX4_openAt 52 = .ok (.getfield 23, 3) := by decide +kernel
theorem dX4_openAt_55 : decode cX4_openAt 55 = .ok (.iload_n 2, 1) := by decide +kernel
theorem dX4_openAt_56 : decode cX4_openAt 56 = .ok (.aload_n 0, 1) := by decide +kernel
theorem dX4_openAt_57 : decode cX4_openAt 57 = .ok (.getfield 23, 3) := by decide +kernel
theorem dX4_openAt_60 : decode cX4_openAt 60 = .ok (.iload_n 2, 1) := by decide +kernel
theorem dX4_openAt_61 : decode cX4_openAt 61 = .ok (.iconst 1, 1) := by decide +kernel
theorem dX4_openAt_62 : decode cX4_openAt 62 = .ok (.isub, 1) := by decide +kernel
theorem dX4_openAt_63 : decode cX4_openAt 63 = .ok (.laload, 1) := by decide +kernel
theorem dX4_openAt_64 : decode cX4_openAt 64 = .ok (.lastore, 1) := by decide +kernel
theorem dX4_openAt_65 : decode cX4_openAt 65 = .ok (.iinc 2 (-1), 3) := by decide +kernel
theorem dX4_openAt_68 : decode cX4_openAt 68 = .ok (.goto (-50), 3) := by decide +kernel
theorem dX4_openAt_71 : decode cX4_openAt 71 = .ok (.aload_n 0, 1) := by decide +kernel
theorem dX4_openAt_72 : decode cX4_openAt 72 = .ok (.dup, 1) := by decide +kernel
theorem dX4_openAt_73 : decode cX4_openAt 73 = .ok (.getfield 26, 3) := by decide +kernel
theorem dX4_openAt_76 : decode cX4_openAt 76 = .ok (.iconst 1, 1) := by decide +kernel
theorem dX4_openAt_77 : decode cX4_openAt 77 = .ok (.iadd, 1) := by decide +kernel
theorem dX4_openAt_78 : decode cX4_openAt 78 = .ok (.putfield 26, 3) := by decide +kernel
theorem dX4_openAt_81 : decode cX4_openAt 81 = .ok (.iconst 1, 1) := by decide +kernel
theorem dX4_openAt_82 : decode cX4_openAt 82 = .ok (.ireturn, 1) := by decide +kernel
theorem dX4_closeAt_0 : decode cX4_closeAt 0 = .ok (.iload_n 1, 1) := by decide +kernel
theorem dX4_closeAt_1 : decode cX4_closeAt 1 = .ok (.istore_n 2, 1) := by decide +kernel
theorem dX4_closeAt_2 : decode cX4_closeAt 2 = .ok (.iload_n 2, 1) := by decide +kernel
theorem dX4_closeAt_3 : decode cX4_closeAt 3 = .ok (.iconst 1, 1) := by decide +kernel
theorem dX4_closeAt_4 : decode cX4_closeAt 4 = .ok (.iadd, 1) := by decide +kernel
theorem dX4_closeAt_5 : decode cX4_closeAt 5 = .ok (.aload_n 0, 1) := by decide +kernel
theorem dX4_closeAt_6 : decode cX4_closeAt 6 = .ok (.getfield 26, 3) := by decide +kernel
theorem dX4_closeAt_9 : decode cX4_closeAt 9 = .ok (.if_icmp .ge 51, 3) := by decide +kernel
theorem dX4_closeAt_12 : decode cX4_closeAt 12 = .ok (.aload_n 0, 1) := by decide +kernel
theorem dX4_closeAt_13 : decode cX4_closeAt 13 = .ok (.getfield 15, 3) := by decide +kernel
theorem dX4_closeAt_16 : decode cX4_closeAt 16 = .ok (.iload_n 2, 1) := by decide +kernel
theorem dX4_closeAt_17 : decode cX4_closeAt 17 = .ok (.aload_n 0, 1) := by decide +kernel
theorem dX4_closeAt_18 : decode cX4_closeAt 18 = .ok (.getfield 15, 3) := by decide +kernel
theorem dX4_closeAt_21 : decode cX4_closeAt 21 = .ok (.iload_n 2, 1) := by decide +kernel
theorem dX4_closeAt_22 : decode cX4_closeAt 22 = .ok (.iconst 1, 1) := by decide +kernel
theorem dX4_closeAt_23 : decode cX4_closeAt 23 = .ok (.iadd, 1) := by decide +kernel
theorem dX4_closeAt_24 : decode cX4_closeAt 24 = .ok (.iaload, 1) := by decide +kernel
theorem dX4_closeAt_25 : decode cX4_closeAt 25 = .ok (.iastore, 1) := by decide +kernel
theorem dX4_closeAt_26 : decode cX4_closeAt 26 = .ok (.aload_n 0, 1) := by decide +kernel
theorem dX4_closeAt_27 : decode cX4_closeAt 27 = .ok (.getfield 19, 3) := by decide +kernel
theorem dX4_closeAt_30 : decode cX4_closeAt 30 = .ok (.iload_n 2, 1) := by decide +kernel
theorem dX4_closeAt_31 : decode cX4_closeAt 31 = .ok (.aload_n 0, 1) := by decide +kernel
theorem dX4_closeAt_32 : decode cX4_closeAt 32 = .ok (.getfield 19, 3) := by decide +kernel
theorem dX4_closeAt_35 : decode cX4_closeAt 35 = .ok (.iload_n 2, 1) := by decide +kernel
theorem dX4_closeAt_36 : decode cX4_closeAt 36 = .ok (.iconst 1, 1) := by decide +kernel
theorem dX4_closeAt_37 : decode cX4_closeAt 37 = .ok (.iadd, 1) := by decide +kernel
theorem dX4_closeAt_38 : decode cX4_closeAt 38 = .ok (.laload, 1) := by decide +kernel
theorem dX4_closeAt_39 : decode cX4_closeAt 39 = .ok (.lastore, 1) := by decide +kernel
theorem dX4_closeAt_40 : decode cX4_closeAt 40 = .ok (.aload_n 0, 1) := by decide +kernel
theorem dX4_closeAt_41 : decode cX4_closeAt 41 = .ok (.getfield 23, 3) := by decide +kernel
theorem dX4_closeAt_44 : decode cX4_closeAt 44 = .ok (.iload_n 2, 1) := by decide +kernel
theorem dX4_closeAt_45 : decode cX4_closeAt 45 = .ok (.aload_n 0, 1) := by decide +kernel
theorem dX4_closeAt_46 : decode cX4_closeAt 46 = .ok (.getfield 23, 3) := by decide +kernel
theorem dX4_closeAt_49 : decode cX4_closeAt 49 = .ok (.iload_n 2, 1) := by decide +kernel
theorem dX4_closeAt_50 : decode cX4_closeAt 50 = .ok (.iconst 1, 1) := by decide +kernel
theorem dX4_closeAt_51 : decode cX4_closeAt 51 = .ok (.iadd, 1) := by decide +kernel
theorem dX4_closeAt_52 : decode cX4_closeAt 52 = .ok (.laload, 1) := by decide +kernel
theorem dX4_closeAt_53 : decode cX4_closeAt 53 = .ok (.lastore, 1) := by decide +kernel
theorem dX4_closeAt_54 : decode cX4_closeAt 54 = .ok (.iinc 2 1, 3) := by decide +kernel
theorem dX4_closeAt_57 : decode cX4_closeAt 57 = .ok (.goto (-55), 3) := by decide +kernel
theorem dX4_closeAt_60 : decode cX4_closeAt 60 = .ok (.aload_n 0, 1) := by decide +kernel
theorem dX4_closeAt_61 : decode cX4_closeAt 61 = .ok (.dup, 1) := by decide +kernel
theorem dX4_closeAt_62 : decode cX4_closeAt 62 = .ok (.getfield 26, 3) := by decide +kernel
theorem dX4_closeAt_65 : decode cX4_closeAt 65 = .ok (.iconst 1, 1) := by decide +kernel
theorem dX4_closeAt_66 : decode cX4_closeAt 66 = .ok (.isub, 1) := by decide +kernel
theorem dX4_closeAt_67 : decode cX4_closeAt 67 = .ok (.putfield 26, 3) := by decide +kernel
theorem dX4_closeAt_70 : decode cX4_closeAt 70 = .ok (.return_, 1) := by decide +kernel
theorem dX4_setReduced_0 : decode cX4_setReduced 0 = .ok (.lload_n 2, 1) := by decide +kernel
theorem dX4_setReduced_1 : decode cX4_setReduced 1 = .ok (.invokestatic 59, 3) := by decide +kernel
theorem dX4_setReduced_4 : decode cX4_setReduced 4 = .ok (.lload 4, 2) := by decide +kernel
theorem dX4_setReduced_6 : decode cX4_setReduced 6 = .ok (.invokestatic 59, 3) := by decide +kernel
theorem dX4_setReduced_9 : decode cX4_setReduced 9 = .ok (.invokestatic 65, 3) := by decide +kernel
theorem dX4_setReduced_12 : decode cX4_setReduced 12 = .ok (.lstore 6, 2) := by decide +kernel
theorem dX4_setReduced_14 : decode cX4_setReduced 14 = .ok (.lload 4, 2) := by decide +kernel
theorem dX4_setReduced_16 : decode cX4_setReduced 16 = .ok (.lconst 0, 1) := by decide +kernel
theorem dX4_setReduced_17 : decode cX4_setReduced 17 = .ok (.lcmp, 1) := by decide +kernel
theorem dX4_setReduced_18 : decode cX4_setReduced 18 = .ok (.ifCond .ge 9, 3) := by decide +kernel
theorem dX4_setReduced_21 : decode cX4_setReduced 21 = .ok (.lload 6, 2) := by decide +kernel
theorem dX4_setReduced_23 : decode cX4_setReduced 23 = .ok (.lneg, 1) := by decide +kernel
theorem dX4_setReduced_24 : decode cX4_setReduced 24 = .ok (.goto 5, 3) := by decide +kernel
theorem dX4_setReduced_27 : decode cX4_setReduced 27 = .ok (.lload 6, 2) := by decide +kernel
theorem dX4_setReduced_29 : decode cX4_setReduced 29 = .ok (.lstore 8, 2) := by decide +kernel
theorem dX4_setReduced_31 : decode cX4_setReduced 31 = .ok (.lload 8, 2) := by decide +kernel
theorem dX4_setReduced_33 : decode cX4_setReduced 33 = .ok (.lconst 0, 1) := by decide +kernel
theorem dX4_setReduced_34 : decode cX4_setReduced 34 = .ok (.lcmp, 1) := by decide +kernel
theorem dX4_setReduced_35 : decode cX4_setReduced 35 = .ok (.ifCond .ne 9, 3) := by decide +kernel
theorem dX4_setReduced_38 : decode cX4_setReduced 38 = .ok (.aload_n 0, 1) := by decide +kernel
theorem dX4_setReduced_39 : decode cX4_setReduced 39 = .ok (.iconst 1, 1) := by decide +kernel
theorem dX4_setReduced_40 : decode cX4_setReduced 40 = .ok (.putfield 29, 3) := by decide +kernel
theorem dX4_setReduced_43 : decode cX4_setReduced 43 = .ok (.return_, 1) := by decide +kernel
theorem dX4_setReduced_44 : decode cX4_setReduced 44 = .ok (.aload_n 0, 1) := by decide +kernel
theorem dX4_setReduced_45 : decode cX4_setReduced 45 = .ok (.getfield 19, 3) := by decide +kernel
theorem dX4_setReduced_48 : decode cX4_setReduced 48 = .ok (.iload_n 1, 1) := by decide +kernel
theorem dX4_setReduced_49 : decode cX4_setReduced 49 = .ok (.lload_n 2, 1) := by decide +kernel
theorem dX4_setReduced_50 : decode cX4_setReduced 50 = .ok (.lload 8, 2) := by decide +kernel
theorem dX4_setReduced_52 : decode cX4_setReduced 52 = .ok (.ldiv, 1) := by decide +kernel
theorem dX4_setReduced_53 : decode cX4_setReduced 53 = .ok (.lastore, 1) := by decide +kernel
theorem dX4_setReduced_54 : decode cX4_setReduced 54 = .ok (.aload_n 0, 1) := by decide +kernel
theorem dX4_setReduced_55 : decode cX4_setReduced 55 = .ok (.getfield 23, 3) := by decide +kernel
theorem dX4_setReduced_58 : decode cX4_setReduced 58 = .ok (.iload_n 1, 1) := by decide +kernel
theorem dX4_setReduced_59 : decode cX4_setReduced 59 = .ok (.lload 4, 2) := by decide +kernel
theorem dX4_setReduced_61 : decode cX4_setReduced 61 = .ok (.lload 8, 2) := by decide +kernel
theorem dX4_setReduced_63 : decode cX4_setReduced 63 = .ok (.ldiv, 1) := by decide +kernel
theorem dX4_setReduced_64 : decode cX4_setReduced 64 = .ok (.lastore, 1) := by decide +kernel
theorem dX4_setReduced_65 : decode cX4_setReduced 65 = .ok (.return_, 1) := by decide +kernel
theorem dX4_commonDivisor_0 : decode cX4_commonDivisor 0 = .ok (.iconst 0, 1) := by decide +kernel
theorem dX4_commonDivisor_1 : decode cX4_commonDivisor 1 = .ok (.istore 4, 2) := by decide +kernel
theorem dX4_commonDivisor_3 : decode cX4_commonDivisor 3 = .ok (.iload 4, 2) := by decide +kernel
theorem dX4_commonDivisor_5 : decode cX4_commonDivisor 5 = .ok (.bipush 100, 2) := by decide +kernel
theorem dX4_commonDivisor_7 : decode cX4_commonDivisor 7 = .ok (.if_icmp .ge 25, 3) := by decide +kernel
theorem dX4_commonDivisor_10 : decode cX4_commonDivisor 10 = .ok (.lload_n 2, 1) := by decide +kernel
theorem dX4_commonDivisor_11 : decode cX4_commonDivisor 11 = .ok (.lconst 0, 1) := by decide +kernel
theorem dX4_commonDivisor_12 : decode cX4_commonDivisor 12 = .ok (.lcmp, 1) := by decide +kernel
theorem dX4_commonDivisor_13 : decode cX4_commonDivisor 13 = .ok (.ifCond .eq 19, 3) := by decide +kernel
theorem dX4_commonDivisor_16 : decode cX4_commonDivisor 16 = .ok (.lload_n 0, 1) := by decide +kernel
theorem dX4_commonDivisor_17 : decode cX4_commonDivisor 17 = .ok (.lload_n 2, 1) := by decide +kernel
theorem dX4_commonDivisor_18 : decode cX4_commonDivisor 18 = .ok (.lrem, 1) := by decide +kernel
theorem dX4_commonDivisor_19 : decode cX4_commonDivisor 19 = .ok (.lstore 5, 2) := by decide +kernel
theorem dX4_commonDivisor_21 : decode cX4_commonDivisor 21 = .ok (.lload_n 2, 1) := by decide +kernel
theorem dX4_commonDivisor_22 : decode cX4_commonDivisor 22 = .ok (.lstore_n 0, 1) := by decide +kernel
theorem dX4_commonDivisor_23 : decode cX4_commonDivisor 23 = .ok (.lload 5, 2) := by decide +kernel
theorem dX4_commonDivisor_25 : decode cX4_commonDivisor 25 = .ok (.lstore_n 2, 1) := by decide +kernel
theorem dX4_commonDivisor_26 : decode cX4_commonDivisor 26 = .ok (.iinc 4 1, 3) := by decide +kernel
theorem dX4_commonDivisor_29 : decode cX4_commonDivisor 29 = .ok (.goto (-26), 3) := by decide +kernel
theorem dX4_commonDivisor_32 : decode cX4_commonDivisor 32 = .ok (.lload_n 0, 1) := by decide +kernel
theorem dX4_commonDivisor_33 : decode cX4_commonDivisor 33 = .ok (.lreturn, 1) := by decide +kernel
theorem dX4_fits_0 : decode cX4_fits 0 = .ok (.aload_n 0, 1) := by decide +kernel
theorem dX4_fits_1 : decode cX4_fits 1 = .ok (.getfield 29, 3) := by decide +kernel
theorem dX4_fits_4 : decode cX4_fits 4 = .ok (.ifCond .ne 12, 3) := by decide +kernel
theorem dX4_fits_7 : decode cX4_fits 7 = .ok (.aload_n 0, 1) := by decide +kernel
theorem dX4_fits_8 : decode cX4_fits 8 = .ok (.getfield 26, 3) := by decide +kernel
theorem dX4_fits_11 : decode cX4_fits 11 = .ok (.bipush 40, 2) := by decide +kernel
theorem dX4_fits_13 : decode cX4_fits 13 = .ok (.if_icmp .le 5, 3) := by decide +kernel
theorem dX4_fits_16 : decode cX4_fits 16 = .ok (.iconst 0, 1) := by decide +kernel
theorem dX4_fits_17 : decode cX4_fits 17 = .ok (.ireturn, 1) := by decide +kernel
theorem dX4_fits_18 : decode cX4_fits 18 = .ok (.aload_n 0, 1) := by decide +kernel
theorem dX4_fits_19 : decode cX4_fits 19 = .ok (.ldc2_w 69, 3) := by decide +kernel
theorem dX4_fits_22 : decode cX4_fits 22 = .ok (.ldc2_w 71, 3) := by decide +kernel
theorem dX4_fits_25 : decode cX4_fits 25 = .ok (.bipush 12, 2) := by decide +kernel
theorem dX4_fits_27 : decode cX4_fits 27 = .ok (.bipush 9, 2) := by decide +kernel
theorem dX4_fits_29 : decode cX4_fits 29 = .ok (.invokevirtual 73, 3) := by decide +kernel
theorem dX4_fits_32 : decode cX4_fits 32 = .ok (.ireturn, 1) := by decide +kernel
theorem dX4_isSmall_0 : decode cX4_isSmall 0 = .ok (.aload_n 0, 1) := by decide +kernel
theorem dX4_isSmall_1 : decode cX4_isSmall 1 = .ok (.ldc2_w 77, 3) := by decide +kernel
theorem dX4_isSmall_4 : decode cX4_isSmall 4 = .ok (.ldc2_w 79, 3) := by decide +kernel
theorem dX4_isSmall_7 : decode cX4_isSmall 7 = .ok (.iconst 4, 1) := by decide +kernel
theorem dX4_isSmall_8 : decode cX4_isSmall 8 = .ok (.iconst 3, 1) := by decide +kernel
theorem dX4_isSmall_9 : decode cX4_isSmall 9 = .ok (.invokevirtual 73, 3) := by decide +kernel
theorem dX4_isSmall_12 : decode cX4_isSmall 12 = .ok (.ireturn, 1) := by decide +kernel
theorem dX4_isWithin_0 : decode cX4_isWithin 0 = .ok (.iconst 0, 1) := by decide +kernel
theorem dX4_isWithin_1 : decode cX4_isWithin 1 = .ok (.istore 7, 2) := by decide +kernel
theorem dX4_isWithin_3 : decode cX4_isWithin 3 = .ok (.iload 7, 2) := by decide +kernel
theorem dX4_isWithin_5 : decode cX4_isWithin 5 = .ok (.aload_n 0, 1) := by decide +kernel
theorem dX4_isWithin_6 : decode cX4_isWithin 6 = .ok (.getfield 26, 3) := by decide +kernel
theorem dX4_isWithin_9 : decode cX4_isWithin 9 = .ok (.if_icmp .ge 66, 3) := by decide +kernel
theorem dX4_isWithin_12 : decode cX4_isWithin 12 = .ok (.aload_n 0, 1) := by decide +kernel
theorem dX4_isWithin_13 : decode cX4_isWithin 13 = .ok (.getfield 19, 3) := by decide +kernel
theorem dX4_isWithin_16 : decode cX4_isWithin 16 = .ok (.iload 7, 2) := by decide +kernel
theorem dX4_isWithin_18 : decode cX4_isWithin 18 = .ok (.laload, 1) := by decide +kernel
theorem dX4_isWithin_19 : decode cX4_isWithin 19 = .ok (.invokestatic 59, 3) := by decide +kernel
theorem dX4_isWithin_22 : decode cX4_isWithin 22 = .ok (.lload_n 1, 1) := by decide +kernel
theorem dX4_isWithin_23 : decode cX4_isWithin 23 = .ok (.lcmp, 1) := by decide +kernel
theorem dX4_isWithin_24 : decode cX4_isWithin 24 = .ok (.ifCond .gt 43, 3) := by decide +kernel
theorem dX4_isWithin_27 : decode cX4_isWithin 27 = .ok (.aload_n 0, 1) := by decide +kernel
theorem dX4_isWithin_28 : decode cX4_isWithin 28 = .ok (.getfield 23, 3) := by decide +kernel
theorem dX4_isWithin_31 : decode cX4_isWithin 31 = .ok (.iload 7, 2) := by decide +kernel
theorem dX4_isWithin_33 : decode cX4_isWithin 33 = .ok (.laload, 1) := by decide +kernel
theorem dX4_isWithin_34 : decode cX4_isWithin 34 = .ok (.lload_n 3, 1) := by decide +kernel
theorem dX4_isWithin_35 : decode cX4_isWithin 35 = .ok (.lcmp, 1) := by decide +kernel
theorem dX4_isWithin_36 : decode cX4_isWithin 36 = .ok (.ifCond .gt 31, 3) := by decide +kernel
theorem dX4_isWithin_39 : decode cX4_isWithin 39 = .ok (.aload_n 0, 1) := by decide +kernel
theorem dX4_isWithin_40 : decode cX4_isWithin 40 = .ok (.iload 7, 2) := by decide +kernel
theorem dX4_isWithin_42 : decode cX4_isWithin 42 = .ok (.invokevirtual 81, 3) := by decide +kernel
theorem dX4_isWithin_45 : decode cX4_isWithin 45 = .ok (.invokestatic 84, 3) := by decide +kernel
theorem dX4_isWithin_48 : decode cX4_isWithin 48 = .ok (.iload 5, 2) := by decide +kernel
theorem dX4_isWithin_50 : decode cX4_isWithin 50 = .ok (.if_icmp .gt 17, 3) := by decide +kernel
theorem dX4_isWithin_53 : decode cX4_isWithin 53 = .ok (.aload_n 0, 1) := by decide +kernel
theorem dX4_isWithin_54 : decode cX4_isWithin 54 = .ok (.iload 7, 2) := by decide +kernel
theorem dX4_isWithin_56 : decode cX4_isWithin 56 = .ok (.invokevirtual 86, 3) := by decide +kernel
theorem dX4_isWithin_59 : decode cX4_isWithin 59 = .ok (.invokestatic 84, 3) := by decide +kernel
theorem dX4_isWithin_62 : decode cX4_isWithin 62 = .ok (.iload 6, 2) := by decide +kernel
theorem dX4_isWithin_64 : decode cX4_isWithin 64 = .ok (.if_icmp .le 5, 3) := by decide +kernel
theorem dX4_isWithin_67 : decode cX4_isWithin 67 = .ok (.iconst 0, 1) := by decide +kernel
theorem dX4_isWithin_68 : decode cX4_isWithin 68 = .ok (.ireturn, 1) := by decide +kernel
theorem dX4_isWithin_69 : decode cX4_isWithin 69 = .ok (.iinc 7 1, 3) := by decide +kernel
theorem dX4_isWithin_72 : decode cX4_isWithin 72 = .ok (.goto (-69), 3) := by decide +kernel
theorem dX4_isWithin_75 : decode cX4_isWithin 75 = .ok (.iconst 1, 1) := by decide +kernel
theorem dX4_isWithin_76 : decode cX4_isWithin 76 = .ok (.ireturn, 1) := by decide +kernel
theorem dX4_become_0 : decode cX4_become 0 = .ok (.aload_n 0, 1) := by decide +kernel
theorem dX4_become_1 : decode cX4_become 1 = .ok (.aload_n 1, 1) := by decide +kernel
theorem dX4_become_2 : decode cX4_become 2 = .ok (.getfield 26, 3) := by decide +kernel
theorem dX4_become_5 : decode cX4_become 5 = .ok (.aload_n 0, 1) := by decide +kernel
theorem dX4_become_6 : decode cX4_become 6 = .ok (.getfield 9, 3) := by decide +kernel
theorem dX4_become_9 : decode cX4_become 9 = .ok (.invokestatic 89, 3) := by decide +kernel
theorem dX4_become_12 : decode cX4_become 12 = .ok (.putfield 26, 3) := by decide +kernel
theorem dX4_become_15 : decode cX4_become 15 = .ok (.aload_n 0, 1) := by decide +kernel
theorem dX4_become_16 : decode cX4_become 16 = .ok (.aload_n 1, 1) := by decide +kernel
theorem dX4_become_17 : decode cX4_become 17 = .ok (.getfield 29, 3) := by decide +kernel
theorem dX4_become_20 : decode cX4_become 20 = .ok (.putfield 29, 3) := by decide +kernel
theorem dX4_become_23 : decode cX4_become 23 = .ok (.iconst 0, 1) := by decide +kernel
theorem dX4_become_24 : decode cX4_become 24 = .ok (.istore_n 2, 1) := by decide +kernel
theorem dX4_become_25 : decode cX4_become 25 = .ok (.iload_n 2, 1) := by decide +kernel
theorem dX4_become_26 : decode cX4_become 26 = .ok (.aload_n 0, 1) := by decide +kernel
theorem dX4_become_27 : decode cX4_become 27 = .ok (.getfield 26, 3) := by decide +kernel
theorem dX4_become_30 : decode cX4_become 30 = .ok (.if_icmp .ge 45, 3) := by decide +kernel
theorem dX4_become_33 : decode cX4_become 33 = .ok (.aload_n 0, 1) := by decide +kernel
theorem dX4_become_34 : decode cX4_become 34 = .ok (.getfield 15, 3) := by decide +kernel
theorem dX4_become_37 : decode cX4_become 37 = .ok (.iload_n 2, 1) := by decide +kernel
theorem dX4_become_38 : decode cX4_become 38 = .ok (.aload_n 1, 1) := by decide +kernel
theorem dX4_become_39 : decode cX4_become 39 = .ok (.getfield 15, 3) := by decide +kernel
theorem dX4_become_42 : decode cX4_become 42 = .ok (.iload_n 2, 1) := by decide +kernel
theorem dX4_become_43 : decode cX4_become 43 = .ok (.iaload, 1) := by decide +kernel
theorem dX4_become_44 : decode cX4_become 44 = .ok (.iastore, 1) := by decide +kernel
theorem dX4_become_45 : decode cX4_become 45 = .ok (.aload_n 0, 1) := by decide +kernel
theorem dX4_become_46 : decode cX4_become 46 = .ok (.getfield 19, 3) := by decide +kernel
theorem dX4_become_49 : decode cX4_become 49 = .ok (.iload_n 2, 1) := by decide +kernel
theorem dX4_become_50 : decode cX4_become 50 = .ok (.aload_n 1, 1) := by decide +kernel
theorem dX4_become_51 : decode cX4_become 51 = .ok (.getfield 19, 3) := by decide +kernel
theorem dX4_become_54 : decode cX4_become 54 = .ok (.iload_n 2, 1) := by decide +kernel
theorem dX4_become_55 : decode cX4_become 55 = .ok (.laload, 1) := by decide +kernel
theorem dX4_become_56 : decode cX4_become 56 = .ok (.lastore, 1) := by decide +kernel
theorem dX4_become_57 : decode cX4_become 57 = .ok (.aload_n 0, 1) := by decide +kernel
theorem dX4_become_58 : decode cX4_become 58 = .ok (.getfield 23, 3) := by decide +kernel
theorem dX4_become_61 : decode cX4_become 61 = .ok (.iload_n 2, 1) := by decide +kernel
theorem dX4_become_62 : decode cX4_become 62 = .ok (.aload_n 1, 1) := by decide +kernel
theorem dX4_become_63 : decode cX4_become 63 = .ok (.getfield 23, 3) := by decide +kernel
theorem dX4_become_66 : decode cX4_become 66 = .ok (.iload_n 2, 1) := by decide +kernel
theorem dX4_become_67 : decode cX4_become 67 = .ok (.laload, 1) := by decide +kernel
theorem dX4_become_68 : decode cX4_become 68 = .ok (.lastore, 1) := by decide +kernel
theorem dX4_become_69 : decode cX4_become 69 = .ok (.iinc 2 1, 3) := by decide +kernel
theorem dX4_become_72 : decode cX4_become 72 = .ok (.goto (-47), 3) := by decide +kernel
theorem dX4_become_75 : decode cX4_become 75 = .ok (.return_, 1) := by decide +kernel
theorem dX4_matches_0 : decode cX4_matches 0 = .ok (.aload_n 0, 1) := by decide +kernel
theorem dX4_matches_1 : decode cX4_matches 1 = .ok (.getfield 26, 3) := by decide +kernel
theorem dX4_matches_4 : decode cX4_matches 4 = .ok (.aload_n 1, 1) := by decide +kernel
theorem dX4_matches_5 : decode cX4_matches 5 = .ok (.getfield 26, 3) := by decide +kernel
theorem dX4_matches_8 : decode cX4_matches 8 = .ok (.if_icmp .eq 5, 3) := by decide +kernel
theorem dX4_matches_11 : decode cX4_matches 11 = .ok (.iconst 0, 1) := by decide +kernel
theorem dX4_matches_12 : decode cX4_matches 12 = .ok (.ireturn, 1) := by decide +kernel
theorem dX4_matches_13 : decode cX4_matches 13 = .ok (.iconst 0, 1) := by decide +kernel
theorem dX4_matches_14 : decode cX4_matches 14 = .ok (.istore_n 2, 1) := by decide +kernel
theorem dX4_matches_15 : decode cX4_matches 15 = .ok (.iload_n 2, 1) := by decide +kernel
theorem dX4_matches_16 : decode cX4_matches 16 = .ok (.aload_n 0, 1) := by decide +kernel
theorem dX4_matches_17 : decode cX4_matches 17 = .ok (.getfield 26, 3) := by decide +kernel
theorem dX4_matches_20 : decode cX4_matches 20 = .ok (.if_icmp .ge 58, 3) := by decide +kernel
theorem dX4_matches_23 : decode cX4_matches 23 = .ok (.aload_n 0, 1) := by decide +kernel
theorem dX4_matches_24 : decode cX4_matches 24 = .ok (.getfield 15, 3) := by decide +kernel
theorem dX4_matches_27 : decode cX4_matches 27 = .ok (.iload_n 2, 1) := by decide +kernel
theorem dX4_matches_28 : decode cX4_matches 28 = .ok (.iaload, 1) := by decide +kernel
theorem dX4_matches_29 : decode cX4_matches 29 = .ok (.aload_n 1, 1) := by decide +kernel
theorem dX4_matches_30 : decode cX4_matches 30 = .ok (.getfield 15, 3) := by decide +kernel
theorem dX4_matches_33 : decode cX4_matches 33 = .ok (.iload_n 2, 1) := by decide +kernel
theorem dX4_matches_34 : decode cX4_matches 34 = .ok (.iaload, 1) := by decide +kernel
theorem dX4_matches_35 : decode cX4_matches 35 = .ok (.if_icmp .ne 35, 3) := by decide +kernel
theorem dX4_matches_38 : decode cX4_matches 38 = .ok (.aload_n 0, 1) := by decide +kernel
theorem dX4_matches_39 : decode cX4_matches 39 = .ok (.getfield 19, 3) := by decide +kernel
theorem dX4_matches_42 : decode cX4_matches 42 = .ok (.iload_n 2, 1) := by decide +kernel
theorem dX4_matches_43 : decode cX4_matches 43 = .ok (.laload, 1) := by decide +kernel
theorem dX4_matches_44 : decode cX4_matches 44 = .ok (.aload_n 1, 1) := by decide +kernel
theorem dX4_matches_45 : decode cX4_matches 45 = .ok (.getfield 19, 3) := by decide +kernel
theorem dX4_matches_48 : decode cX4_matches 48 = .ok (.iload_n 2, 1) := by decide +kernel
theorem dX4_matches_49 : decode cX4_matches 49 = .ok (.laload, 1) := by decide +kernel
theorem dX4_matches_50 : decode cX4_matches 50 = .ok (.lcmp, 1) := by decide +kernel
theorem dX4_matches_51 : decode cX4_matches 51 = .ok (.ifCond .ne 19, 3) := by decide +kernel
theorem dX4_matches_54 : decode cX4_matches 54 = .ok (.aload_n 0, 1) := by decide +kernel
theorem dX4_matches_55 : decode cX4_matches 55 = .ok (.getfield 23, 3) := by decide +kernel
theorem dX4_matches_58 : decode cX4_matches 58 = .ok (.iload_n 2, 1) := by decide +kernel
theorem dX4_matches_59 : decode cX4_matches 59 = .ok (.laload, 1) := by decide +kernel
theorem dX4_matches_60 : decode cX4_matches 60 = .ok (.aload_n 1, 1) := by decide +kernel
theorem dX4_matches_61 : decode cX4_matches 61 = .ok (.getfield 23, 3) := by decide +kernel
theorem dX4_matches_64 : decode cX4_matches 64 = .ok (.iload_n 2, 1) := by decide +kernel
theorem dX4_matches_65 : decode cX4_matches 65 = .ok (.laload, 1) := by decide +kernel
theorem dX4_matches_66 : decode cX4_matches 66 = .ok (.lcmp, 1) := by decide +kernel
theorem dX4_matches_67 : decode cX4_matches 67 = .ok (.ifCond .eq 5, 3) := by decide +kernel
theorem dX4_matches_70 : decode cX4_matches 70 = .ok (.iconst 0, 1) := by decide +kernel
theorem dX4_matches_71 : decode cX4_matches 71 = .ok (.ireturn, 1) := by decide +kernel
theorem dX4_matches_72 : decode cX4_matches 72 = .ok (.iinc 2 1, 3) := by decide +kernel
theorem dX4_matches_75 : decode cX4_matches 75 = .ok (.goto (-60), 3) := by decide +kernel
theorem dX4_matches_78 : decode cX4_matches 78 = .ok (.iconst 1, 1) := by decide +kernel
theorem dX4_matches_79 : decode cX4_matches 79 = .ok (.ireturn, 1) := by decide +kernel
theorem dX5_init_0 : decode cX5_init 0 = .ok (.aload_n 0, 1) := by decide +kernel
theorem dX5_init_1 : decode cX5_init 1 = .ok (.invokespecial 3, 3) := by decide +kernel
theorem dX5_init_4 : decode cX5_init 4 = .ok (.aload_n 0, 1) := by decide +kernel
theorem dX5_init_5 : decode cX5_init 5 = .ok (.sipush 1200, 3) := by decide +kernel
theorem dX5_init_8 : decode cX5_init 8 = .ok (.newarray .char, 2) := by decide +kernel
theorem dX5_init_10 : decode cX5_init 10 = .ok (.putfield 9, 3) := by decide +kernel
theorem dX5_init_13 : decode cX5_init 13 = .ok (.aload_n 0, 1) := by decide +kernel
theorem dX5_init_14 : decode cX5_init 14 = .ok (.iconst 0, 1) := by decide +kernel
theorem dX5_init_15 : decode cX5_init 15 = .ok (.putfield 15, 3) := by decide +kernel
theorem dX5_init_18 : decode cX5_init 18 = .ok (.return_, 1) := by decide +kernel
theorem dX5_length_0 : decode cX5_length 0 = .ok (.aload_n 0, 1) := by decide +kernel
theorem dX5_length_1 : decode cX5_length 1 = .ok (.getfield 15, 3) := by decide +kernel
theorem dX5_length_4 : decode cX5_length 4 = .ok (.ireturn, 1) := by decide +kernel
theorem dX5_charAt_0 : decode cX5_charAt 0 = .ok (.iload_n 1, 1) := by decide +kernel
theorem dX5_charAt_1 : decode cX5_charAt 1 = .ok (.ifCond .lt 20, 3) := by decide +kernel
theorem dX5_charAt_4 : decode cX5_charAt 4 = .ok (.iload_n 1, 1) := by decide +kernel
theorem dX5_charAt_5 : decode cX5_charAt 5 = .ok (.aload_n 0, 1) := by decide +kernel
theorem dX5_charAt_6 : decode cX5_charAt 6 = .ok (.getfield 15, 3) := by decide +kernel
theorem dX5_charAt_9 : decode cX5_charAt 9 = .ok (.if_icmp .ge 12, 3) := by decide +kernel
theorem dX5_charAt_12 : decode cX5_charAt 12 = .ok (.aload_n 0, 1) := by decide +kernel
theorem dX5_charAt_13 : decode cX5_charAt 13 = .ok (.getfield 9, 3) := by decide +kernel
theorem dX5_charAt_16 : decode cX5_charAt 16 = .ok (.iload_n 1, 1) := by decide +kernel
theorem dX5_charAt_17 : decode cX5_charAt 17 = .ok (.caload, 1) := by decide +kernel
theorem dX5_charAt_18 : decode cX5_charAt 18 = .ok (.goto 5, 3) := by decide +kernel
theorem dX5_charAt_21 : decode cX5_charAt 21 = .ok (.bipush 32, 2) := by decide +kernel
theorem dX5_charAt_23 : decode cX5_charAt 23 = .ok (.ireturn, 1) := by decide +kernel
theorem dX5_writeSum_0 : decode cX5_writeSum 0 = .ok (.aload_n 0, 1) := by decide +kernel
theorem dX5_writeSum_1 : decode cX5_writeSum 1 = .ok (.iconst 0, 1) := by decide +kernel
theorem dX5_writeSum_2 : decode cX5_writeSum 2 = .ok (.putfield 15, 3) := by decide +kernel
theorem dX5_writeSum_5 : decode cX5_writeSum 5 = .ok (.iconst 0, 1) := by decide +kernel
theorem dX5_writeSum_6 : decode cX5_writeSum 6 = .ok (.istore_n 2, 1) := by decide +kernel
theorem dX5_writeSum_7 : decode cX5_writeSum 7 = .ok (.iload_n 2, 1) := by decide +kernel
theorem dX5_writeSum_8 : decode cX5_writeSum 8 = .ok (.aload_n 1, 1) := by decide +kernel
theorem dX5_writeSum_9 : decode cX5_writeSum 9 = .ok (.invokevirtual 19, 3) := by decide +kernel
theorem dX5_writeSum_12 : decode cX5_writeSum 12 = .ok (.if_icmp .ge 15, 3) := by decide +kernel
theorem dX5_writeSum_15 : decode cX5_writeSum 15 = .ok (.aload_n 0, 1) := by decide +kernel
theorem dX5_writeSum_16 : decode cX5_writeSum 16 = .ok (.aload_n 1, 1) := by decide +kernel
theorem dX5_writeSum_17 : decode cX5_writeSum 17 = .ok (.iload_n 2, 1) := by decide +kernel
theorem dX5_writeSum_18 : decode cX5_writeSum 18 = .ok (.invokevirtual 25, 3) := by decide +kernel
theorem dX5_writeSum_21 : decode cX5_writeSum 21 = .ok (.iinc 2 1, 3) := by decide +kernel
theorem dX5_writeSum_24 : decode cX5_writeSum 24 = .ok (.goto (-17), 3) := by decide +kernel
theorem dX5_writeSum_27 : decode cX5_writeSum 27 = .ok (.aload_n 0, 1) := by decide +kernel
theorem dX5_writeSum_28 : decode cX5_writeSum 28 = .ok (.getfield 15, 3) := by decide +kernel
theorem dX5_writeSum_31 : decode cX5_writeSum 31 = .ok (.ifCond .ne 9, 3) := by decide +kernel
theorem dX5_writeSum_34 : decode cX5_writeSum 34 = .ok (.aload_n 0, 1) := by decide +kernel
theorem dX5_writeSum_35 : decode cX5_writeSum 35 = .ok (.bipush 48, 2) := by decide +kernel
theorem dX5_writeSum_37 : decode cX5_writeSum 37 = .ok (.invokevirtual 29, 3) := by decide +kernel
theorem dX5_writeSum_40 : decode cX5_writeSum 40 = .ok (.return_, 1) := by decide +kernel
theorem dX5_writeTerm_0 : decode cX5_writeTerm 0 = .ok (.aload_n 1, 1) := by decide +kernel
theorem dX5_writeTerm_1 : decode cX5_writeTerm 1 = .ok (.iload_n 2, 1) := by decide +kernel
theorem dX5_writeTerm_2 : decode cX5_writeTerm 2 = .ok (.invokevirtual 33, 3) := by decide +kernel
theorem dX5_writeTerm_5 : decode cX5_writeTerm 5 = .ok (.lconst 0, 1) := by decide +kernel
theorem dX5_writeTerm_6 : decode cX5_writeTerm 6 = .ok (.lcmp, 1) := by decide +kernel
theorem dX5_writeTerm_7 : decode cX5_writeTerm 7 = .ok (.ifCond .ge 12, 3) := by decide +kernel
theorem dX5_writeTerm_10 : decode cX5_writeTerm 10 = .ok (.aload_n 0, 1) := by decide +kernel
theorem dX5_writeTerm_11 : decode cX5_writeTerm 11 = .ok (.bipush 45, 2) := by decide +kernel
theorem dX5_writeTerm_13 : decode cX5_writeTerm 13 = .ok (.invokevirtual 29, 3) := by decide +kernel
theorem dX5_writeTerm_16 : decode cX5_writeTerm 16 = .ok (.goto 13, 3) := by decide +kernel
theorem dX5_writeTerm_19 : decode cX5_writeTerm 19 = .ok (.iload_n 2, 1) := by decide +kernel
theorem dX5_writeTerm_20 : decode cX5_writeTerm 20 = .ok (.ifCond .le 9, 3) := by decide +kernel
theorem dX5_writeTerm_23 : decode cX5_writeTerm 23 = .ok (.aload_n 0, 1) := by decide +kernel
theorem dX5_writeTerm_24 : decode cX5_writeTerm 24 = .ok (.bipush 43, 2) := by decide +kernel
theorem dX5_writeTerm_26 : decode cX5_writeTerm 26 = .ok (.invokevirtual 29, 3) := by decide +kernel
theorem dX5_writeTerm_29 : decode cX5_writeTerm 29 = .ok (.aload_n 1, 1) := by decide +kernel
theorem dX5_writeTerm_30 : decode cX5_writeTerm 30 = .ok (.iload_n 2, 1) := by decide +kernel
theorem dX5_writeTerm_31 : decode cX5_writeTerm 31 = .ok (.invokevirtual 37, 3) := by decide +kernel
theorem dX5_writeTerm_34 : decode cX5_writeTerm 34 = .ok (.ifCond .ne 15, 3) := by decide +kernel
theorem dX5_writeTerm_37 : decode cX5_writeTerm 37 = .ok (.aload_n 1, 1) := by decide +kernel
theorem dX5_writeTerm_38 : decode cX5_writeTerm 38 = .ok (.iload_n 2, 1) := by decide +kernel
theorem dX5_writeTerm_39 : decode cX5_writeTerm 39 = .ok (.invokevirtual 41, 3) := by decide +kernel
theorem dX5_writeTerm_42 : decode cX5_writeTerm 42 = .ok (.ifCond .ne 7, 3) := by decide +kernel
theorem dX5_writeTerm_45 : decode cX5_writeTerm 45 = .ok (.iconst 1, 1) := by decide +kernel
theorem dX5_writeTerm_46 : decode cX5_writeTerm 46 = .ok (.goto 4, 3) := by decide +kernel
theorem dX5_writeTerm_49 : decode cX5_writeTerm 49 = .ok (.iconst 0, 1) := by decide +kernel
theorem dX5_writeTerm_50 : decode cX5_writeTerm 50 = .ok (.istore_n 3, 1) := by decide +kernel
theorem dX5_writeTerm_51 : decode cX5_writeTerm 51 = .ok (.aload_n 0, 1) := by decide +kernel
theorem dX5_writeTerm_52 : decode cX5_writeTerm 52 = .ok (.aload_n 1, 1) := by decide +kernel
theorem dX5_writeTerm_53 : decode cX5_writeTerm 53 = .ok (.iload_n 2, 1) := by decide +kernel
theorem dX5_writeTerm_54 : decode cX5_writeTerm 54 = .ok (.invokevirtual 33, 3) := by decide +kernel
theorem dX5_writeTerm_57 : decode cX5_writeTerm 57 = .ok (.invokestatic 44, 3) := by decide +kernel
theorem dX5_writeTerm_60 : decode cX5_writeTerm 60 = .ok (.aload_n 1, 1) := by decide +kernel
theorem dX5_writeTerm_61 : decode cX5_writeTerm 61 = .ok (.iload_n 2, 1) := by decide +kernel
theorem dX5_writeTerm_62 : decode cX5_writeTerm 62 = .ok (.invokevirtual 50, 3) := by decide +kernel
theorem dX5_writeTerm_65 : decode cX5_writeTerm 65 = .ok (.iload_n 3, 1) := by decide +kernel
theorem dX5_writeTerm_66 : decode cX5_writeTerm 66 = .ok (.invokevirtual 53, 3) := by decide +kernel
theorem dX5_writeTerm_69 : decode cX5_writeTerm 69 = .ok (.aload_n 0, 1) := by decide +kernel
theorem dX5_writeTerm_70 : decode cX5_writeTerm 70 = .ok (.aload_n 1, 1) := by decide +kernel
theorem dX5_writeTerm_71 : decode cX5_writeTerm 71 = .ok (.iload_n 2, 1) := by decide +kernel
theorem dX5_writeTerm_72 : decode cX5_writeTerm 72 = .ok (.invokevirtual 41, 3) := by decide +kernel
theorem dX5_writeTerm_75 : decode cX5_writeTerm 75 = .ok (.invokevirtual 57, 3) := by decide +kernel
theorem dX5_writeTerm_78 : decode cX5_writeTerm 78 = .ok (.aload_n 0, 1) := by decide +kernel
theorem dX5_writeTerm_79 : decode cX5_writeTerm 79 = .ok (.aload_n 1, 1) := by decide +kernel
theorem dX5_writeTerm_80 : decode cX5_writeTerm 80 = .ok (.iload_n 2, 1) := by decide +kernel
theorem dX5_writeTerm_81 : decode cX5_writeTerm 81 = .ok (.invokevirtual 37, 3) := by decide +kernel
theorem dX5_writeTerm_84 : decode cX5_writeTerm 84 = .ok (.aload_n 1, 1) := by decide +kernel
theorem dX5_writeTerm_85 : decode cX5_writeTerm 85 = .ok (.iload_n 2, 1) := by decide +kernel
theorem dX5_writeTerm_86 : decode cX5_writeTerm 86 = .ok (.invokevirtual 61, 3) := by decide +kernel
theorem dX5_writeTerm_89 : decode cX5_writeTerm 89 = .ok (.invokevirtual 64, 3) := by decide +kernel
theorem dX5_writeTerm_92 : decode cX5_writeTerm 92 = .ok (.return_, 1) := by decide +kernel
theorem dX5_writeCoefficient_0 : decode cX5_writeCoefficient 0 = .ok (.iload 5, 2) := by decide +kernel
theorem dX5_writeCoefficient_2 : decode cX5_writeCoefficient 2 = .ok (.ifCond .ne 15, 3) := by decide +kernel
theorem dX5_writeCoefficient_5 : decode cX5_writeCoefficient 5 = .ok (.lload_n 1, 1) := by decide +kernel
theorem dX5_writeCoefficient_6 : decode cX5_writeCoefficient 6 = .ok (.lconst 1, 1) := by decide +kernel
theorem dX5_writeCoefficient_7 : decode cX5_writeCoefficient 7 = .ok (.lcmp, 1) := by decide +kernel
theorem dX5_writeCoefficient_8 : decode cX5_writeCoefficient 8 = .ok (.ifCond .ne 9, 3) := by decide +kernel
theorem dX5_writeCoefficient_11 : decode cX5_writeCoefficient 11 = .ok (.lload_n 3, 1) := by decide +kernel
theorem dX5_writeCoefficient_12 : decode cX5_writeCoefficient 12 = .ok (.lconst 1, 1) := by decide +kernel
theorem dX5_writeCoefficient_13 : decode cX5_writeCoefficient 13 = .ok (.lcmp, 1) := by decide +kernel
theorem dX5_writeCoefficient_14 : decode cX5_writeCoefficient 14 = .ok (.ifCond .eq 8, 3) := by decide +kernel
theorem dX5_writeCoefficient_17 : decode cX5_writeCoefficient 17 = .ok (.aload_n 0, 1) := by decide +kernel
theorem dX5_writeCoefficient_18 : decode cX5_writeCoefficient 18 = .ok (.lload_n 1, 1) := by decide +kernel
theorem dX5_writeCoefficient_19 : decode cX5_writeCoefficient 19 = .ok (.invokevirtual 68, 3) := by decide +kernel
theorem dX5_writeCoefficient_22 : decode cX5_writeCoefficient 22 = .ok (.lload_n 3, 1) := by decide +kernel
theorem dX5_writeCoefficient_23 : decode cX5_writeCoefficient 23 = .ok (.lconst 1, 1) := by decide +kernel
theorem dX5_writeCoefficient_24 : decode cX5_writeCoefficient 24 = .ok (.lcmp, 1) := by decide +kernel
theorem dX5_writeCoefficient_25 : decode cX5_writeCoefficient 25 = .ok (.ifCond .eq 14, 3) := by decide +kernel
theorem dX5_writeCoefficient_28 : decode cX5_writeCoefficient 28 = .ok (.aload_n 0, 1) := by decide +kernel
theorem dX5_writeCoefficient_29 : decode cX5_writeCoefficient 29 = .ok (.bipush 47, 2) := by decide +kernel
theorem dX5_writeCoefficient_31 : decode cX5_writeCoefficient 31 = .ok (.invokevirtual 29, 3) := by decide +kernel
theorem dX5_writeCoefficient_34 : decode cX5_writeCoefficient 34 = .ok (.aload_n 0, 1) := by decide +kernel
theorem dX5_writeCoefficient_35 : decode cX5_writeCoefficient 35 = .ok (.lload_n 3, 1) := by decide +kernel
theorem dX5_writeCoefficient_36 : decode cX5_writeCoefficient 36 = .ok (.invokevirtual 68, 3) := by decide +kernel
theorem dX5_writeCoefficient_39 : decode cX5_writeCoefficient 39 = .ok (.return_, 1) := by decide +kernel
theorem dX5_writePower_0 : decode cX5_writePower 0 = .ok (.iload_n 1, 1) := by decide +kernel
theorem dX5_writePower_1 : decode cX5_writePower 1 = .ok (.ifCond .eq 14, 3) := by decide +kernel
theorem dX5_writePower_4 : decode cX5_writePower 4 = .ok (.aload_n 0, 1) := by decide +kernel
theorem dX5_writePower_5 : decode cX5_writePower 5 = .ok (.bipush 120, 2) := by decide +kernel
theorem dX5_writePower_7 : decode cX5_writePower 7 = .ok (.invokevirtual 29, 3) := by decide +kernel
theorem dX5_writePower_10 : decode cX5_writePower 10 = .ok (.aload_n 0, 1) := by decide +kernel
theorem dX5_writePower_11 : decode cX5_writePower 11 = .ok (.iload_n 1, 1) := by decide +kernel
theorem dX5_writePower_12 : decode cX5_writePower 12 = .ok (.invokevirtual 72, 3) := by decide +kernel
theorem dX5_writePower_15 : decode cX5_writePower 15 = .ok (.return_, 1) := by decide +kernel
theorem dX5_writeExponent_0 : decode cX5_writeExponent 0 = .ok (.iload_n 1, 1) := by decide +kernel
theorem dX5_writeExponent_1 : decode cX5_writeExponent 1 = .ok (.iconst 1, 1) := by decide +kernel
theorem dX5_writeExponent_2 : decode cX5_writeExponent 2 = .ok (.if_icmp .eq 15, 3) := by decide +kernel
theorem dX5_writeExponent_5 : decode cX5_writeExponent 5 = .ok (.aload_n 0, 1) := by decide +kernel
theorem dX5_writeExponent_6 : decode cX5_writeExponent 6 = .ok (.bipush 94, 2) := by decide +kernel
theorem dX5_writeExponent_8 : decode cX5_writeExponent 8 = .ok (.invokevirtual 29, 3) := by decide +kernel
theorem dX5_writeExponent_11 : decode cX5_writeExponent 11 = .ok (.aload_n 0, 1) := by decide +kernel
theorem dX5_writeExponent_12 : decode cX5_writeExponent 12 = .ok (.iload_n 1, 1) := by decide +kernel
theorem dX5_writeExponent_13 : decode cX5_writeExponent 13 = .ok (.i2l, 1) := by decide +kernel
theorem dX5_writeExponent_14 : decode cX5_writeExponent 14 = .ok (.invokevirtual 68, 3) := by decide +kernel
theorem dX5_writeExponent_17 : decode cX5_writeExponent 17 = .ok (.return_, 1) := by decide +kernel
theorem dX5_writeFunction_0 : decode cX5_writeFunction 0 = .ok (.iload_n 1, 1) := by decide +kernel
theorem dX5_writeFunction_1 : decode cX5_writeFunction 1 = .ok (.tableswitch 87 1 4 #[31, 45, 59, 73], 31) := by decide +kernel
theorem dX5_writeFunction_32 : decode cX5_writeFunction 32 = .ok (.aload_n 0, 1) := by decide +kernel
theorem dX5_writeFunction_33 : decode cX5_writeFunction 33 = .ok (.bipush 108, 2) := by decide +kernel
theorem dX5_writeFunction_35 : decode cX5_writeFunction 35 = .ok (.invokevirtual 29, 3) := by decide +kernel
theorem dX5_writeFunction_38 : decode cX5_writeFunction 38 = .ok (.aload_n 0, 1) := by decide +kernel
theorem dX5_writeFunction_39 : decode cX5_writeFunction 39 = .ok (.iload_n 2, 1) := by decide +kernel
theorem dX5_writeFunction_40 : decode cX5_writeFunction 40 = .ok (.invokevirtual 72, 3) := by decide +kernel
theorem dX5_writeFunction_43 : decode cX5_writeFunction 43 = .ok (.goto 45, 3) := by decide +kernel
theorem dX5_writeFunction_46 : decode cX5_writeFunction 46 = .ok (.aload_n 0, 1) := by decide +kernel
theorem dX5_writeFunction_47 : decode cX5_writeFunction 47 = .ok (.bipush 101, 2) := by decide +kernel
theorem dX5_writeFunction_49 : decode cX5_writeFunction 49 = .ok (.invokevirtual 29, 3) := by decide +kernel
theorem dX5_writeFunction_52 : decode cX5_writeFunction 52 = .ok (.aload_n 0, 1) := by decide +kernel
theorem dX5_writeFunction_53 : decode cX5_writeFunction 53 = .ok (.iload_n 2, 1) := by decide +kernel
theorem dX5_writeFunction_54 : decode cX5_writeFunction 54 = .ok (.invokevirtual 75, 3) := by decide +kernel
theorem dX5_writeFunction_57 : decode cX5_writeFunction 57 = .ok (.goto 31, 3) := by decide +kernel
theorem dX5_writeFunction_60 : decode cX5_writeFunction 60 = .ok (.aload_n 0, 1) := by decide +kernel
theorem dX5_writeFunction_61 : decode cX5_writeFunction 61 = .ok (.bipush 115, 2) := by decide +kernel
theorem dX5_writeFunction_63 : decode cX5_writeFunction 63 = .ok (.invokevirtual 29, 3) := by decide +kernel
theorem dX5_writeFunction_66 : decode cX5_writeFunction 66 = .ok (.aload_n 0, 1) := by decide +kernel
theorem dX5_writeFunction_67 : decode cX5_writeFunction 67 = .ok (.iload_n 2, 1) := by decide +kernel
theorem dX5_writeFunction_68 : decode cX5_writeFunction 68 = .ok (.invokevirtual 75, 3) := by decide +kernel
theorem dX5_writeFunction_71 : decode cX5_writeFunction 71 = .ok (.goto 17, 3) := by decide +kernel
theorem dX5_writeFunction_74 : decode cX5_writeFunction 74 = .ok (.aload_n 0, 1) := by decide +kernel
theorem dX5_writeFunction_75 : decode cX5_writeFunction 75 = .ok (.bipush 99, 2) := by decide +kernel
theorem dX5_writeFunction_77 : decode cX5_writeFunction 77 = .ok (.invokevirtual 29, 3) := by decide +kernel
theorem dX5_writeFunction_80 : decode cX5_writeFunction 80 = .ok (.aload_n 0, 1) := by decide +kernel
theorem dX5_writeFunction_81 : decode cX5_writeFunction 81 = .ok (.iload_n 2, 1) := by decide +kernel
theorem dX5_writeFunction_82 : decode cX5_writeFunction 82 = .ok (.invokevirtual 75, 3) := by decide +kernel
theorem dX5_writeFunction_85 : decode cX5_writeFunction 85 = .ok (.goto 3, 3) := by decide +kernel
theorem dX5_writeFunction_88 : decode cX5_writeFunction 88 = .ok (.return_, 1) := by decide +kernel
theorem dX5_writeMultiple_0 : decode cX5_writeMultiple 0 = .ok (.aload_n 0, 1) := by decide +kernel
theorem dX5_writeMultiple_1 : decode cX5_writeMultiple 1 = .ok (.bipush 40, 2) := by decide +kernel
theorem dX5_writeMultiple_3 : decode cX5_writeMultiple 3 = .ok (.invokevirtual 29, 3) := by decide +kernel
theorem dX5_writeMultiple_6 : decode cX5_writeMultiple 6 = .ok (.iload_n 1, 1) := by decide +kernel
theorem dX5_writeMultiple_7 : decode cX5_writeMultiple 7 = .ok (.iconst (-1), 1) := by decide +kernel
theorem dX5_writeMultiple_8 : decode cX5_writeMultiple 8 = .ok (.if_icmp .ne 12, 3) := by decide +kernel
theorem dX5_writeMultiple_11 : decode cX5_writeMultiple 11 = .ok (.aload_n 0, 1) := by decide +kernel
theorem dX5_writeMultiple_12 : decode cX5_writeMultiple 12 = .ok (.bipush 45, 2) := by decide +kernel
theorem dX5_writeMultiple_14 : decode cX5_writeMultiple 14 = .ok (.invokevirtual 29, 3) := by decide +kernel
theorem dX5_writeMultiple_17 : decode cX5_writeMultiple 17 = .ok (.goto 14, 3) := by decide +kernel
theorem dX5_writeMultiple_20 : decode cX5_writeMultiple 20 = .ok (.iload_n 1, 1) := by decide +kernel
theorem dX5_writeMultiple_21 : decode cX5_writeMultiple 21 = .ok (.iconst 1, 1) := by decide +kernel
theorem dX5_writeMultiple_22 : decode cX5_writeMultiple 22 = .ok (.if_icmp .eq 9, 3) := by decide +kernel
theorem dX5_writeMultiple_25 : decode cX5_writeMultiple 25 = .ok (.aload_n 0, 1) := by decide +kernel
theorem dX5_writeMultiple_26 : decode cX5_writeMultiple 26 = .ok (.iload_n 1, 1) := by decide +kernel
theorem dX5_writeMultiple_27 : decode cX5_writeMultiple 27 = .ok (.i2l, 1) := by decide +kernel
theorem dX5_writeMultiple_28 : decode cX5_writeMultiple 28 = .ok (.invokevirtual 68, 3) := by decide +kernel
theorem dX5_writeMultiple_31 : decode cX5_writeMultiple 31 = .ok (.aload_n 0, 1) := by decide +kernel
theorem dX5_writeMultiple_32 : decode cX5_writeMultiple 32 = .ok (.bipush 120, 2) := by decide +kernel
theorem dX5_writeMultiple_34 : decode cX5_writeMultiple 34 = .ok (.invokevirtual 29, 3) := by decide +kernel
theorem dX5_writeMultiple_37 : decode cX5_writeMultiple 37 = .ok (.aload_n 0, 1) := by decide +kernel
theorem dX5_writeMultiple_38 : decode cX5_writeMultiple 38 = .ok (.bipush 41, 2) := by decide +kernel
theorem dX5_writeMultiple_40 : decode cX5_writeMultiple 40 = .ok (.invokevirtual 29, 3) := by decide +kernel
theorem dX5_writeMultiple_43 : decode cX5_writeMultiple 43 = .ok (.return_, 1) := by decide +kernel
theorem dX5_writeNumber_0 : decode cX5_writeNumber 0 = .ok (.lload_n 1, 1) := by decide +kernel
theorem dX5_writeNumber_1 : decode cX5_writeNumber 1 = .ok (.lconst 0, 1) := by decide +kernel
theorem dX5_writeNumber_2 : decode cX5_writeNumber 2 = .ok (.lcmp, 1) := by decide +kernel
theorem dX5_writeNumber_3 : decode cX5_writeNumber 3 = .ok (.ifCond .ge 9, 3) := by decide +kernel
theorem dX5_writeNumber_6 : decode cX5_writeNumber 6 = .ok (.aload_n 0, 1) := by decide +kernel
theorem dX5_writeNumber_7 : decode cX5_writeNumber 7 = .ok (.bipush 45, 2) := by decide +kernel
theorem dX5_writeNumber_9 : decode cX5_writeNumber 9 = .ok (.invokevirtual 29, 3) := by decide +kernel
theorem dX5_writeNumber_12 : decode cX5_writeNumber 12 = .ok (.lload_n 1, 1) := by decide +kernel
theorem dX5_writeNumber_13 : decode cX5_writeNumber 13 = .ok (.invokestatic 44, 3) := by decide +kernel
theorem dX5_writeNumber_16 : decode cX5_writeNumber 16 = .ok (.lstore_n 3, 1) := by decide +kernel
theorem dX5_writeNumber_17 : decode cX5_writeNumber 17 = .ok (.iconst 0, 1) := by decide +kernel
theorem dX5_writeNumber_18 : decode cX5_writeNumber 18 = .ok (.istore 5, 2) := by decide +kernel
theorem dX5_writeNumber_20 : decode cX5_writeNumber 20 = .ok (.ldc2_w 78, 3) := by decide +kernel
theorem dX5_writeNumber_23 : decode cX5_writeNumber 23 = .ok (.lstore 6, 2) := by decide +kernel
theorem dX5_writeNumber_25 : decode cX5_writeNumber 25 = .ok (.lload 6, 2) := by decide +kernel
theorem dX5_writeNumber_27 : decode cX5_writeNumber 27 = .ok (.lconst 0, 1) := by decide +kernel
theorem dX5_writeNumber_28 : decode cX5_writeNumber 28 = .ok (.lcmp, 1) := by decide +kernel
theorem dX5_writeNumber_29 : decode cX5_writeNumber 29 = .ok (.ifCond .le 63, 3) := by decide +kernel
theorem dX5_writeNumber_32 : decode cX5_writeNumber 32 = .ok (.iload 5, 2) := by decide +kernel
theorem dX5_writeNumber_34 : decode cX5_writeNumber 34 = .ok (.ifCond .ne 17, 3) := by decide +kernel
theorem dX5_writeNumber_37 : decode cX5_writeNumber 37 = .ok (.lload_n 3, 1) := by decide +kernel
theorem dX5_writeNumber_38 : decode cX5_writeNumber 38 = .ok (.lload 6, 2) := by decide +kernel
theorem dX5_writeNumber_40 : decode cX5_writeNumber 40 = .ok (.lcmp, 1) := by decide +kernel
theorem dX5_writeNumber_41 : decode cX5_writeNumber 41 = .ok (.ifCond .ge 10, 3) := by decide +kernel
theorem dX5_writeNumber_44 : decode cX5_writeNumber 44 = .ok (.lload 6, 2) := by decide +kernel
theorem dX5_writeNumber_46 : decode cX5_writeNumber 46 = .ok (.lconst 1, 1) := by decide +kernel
theorem dX5_writeNumber_47 : decode cX5_writeNumber 47 = .ok (.lcmp, 1) := by decide +kernel
theorem dX5_writeNumber_48 : decode cX5_writeNumber 48 = .ok (.ifCond .ne 7, 3) := by decide +kernel
theorem dX5_writeNumber_51 : decode cX5_writeNumber 51 = .ok (.iconst 1, 1) := by decide +kernel
theorem dX5_writeNumber_52 : decode cX5_writeNumber 52 = .ok (.goto 4, 3) := by decide +kernel
theorem dX5_writeNumber_55 : decode cX5_writeNumber 55 = .ok (.iconst 0, 1) := by decide +kernel
theorem dX5_writeNumber_56 : decode cX5_writeNumber 56 = .ok (.istore 5, 2) := by decide +kernel
theorem dX5_writeNumber_58 : decode cX5_writeNumber 58 = .ok (.iload 5, 2) := by decide +kernel
theorem dX5_writeNumber_60 : decode cX5_writeNumber 60 = .ok (.ifCond .eq 21, 3) := by decide +kernel
theorem dX5_writeNumber_63 : decode cX5_writeNumber 63 = .ok (.aload_n 0, 1) := by decide +kernel
theorem dX5_writeNumber_64 : decode cX5_writeNumber 64 = .ok (.ldc2_w 80, 3) := by decide +kernel
theorem dX5_writeNumber_67 : decode cX5_writeNumber 67 = .ok (.lload_n 3, 1) := by decide +kernel
theorem dX5_writeNumber_68 : decode cX5_writeNumber 68 = .ok (.lload 6, 2) := by decide +kernel
theorem dX5_writeNumber_70 : decode cX5_writeNumber 70 = .ok (.ldiv, 1) := by decide +kernel
theorem dX5_writeNumber_71 : decode cX5_writeNumber 71 = .ok (.ldc2_w 82, 3) := by decide +kernel
theorem dX5_writeNumber_74 : decode cX5_writeNumber 74 = .ok (.lrem, 1) := by decide +kernel
theorem dX5_writeNumber_75 : decode cX5_writeNumber 75 = .ok (.ladd, 1) := by decide +kernel
theorem dX5_writeNumber_76 : decode cX5_writeNumber 76 = .ok (.l2i, 1) := by decide +kernel
theorem dX5_writeNumber_77 : decode cX5_writeNumber 77 = .ok (.i2c, 1) := by decide +kernel
theorem dX5_writeNumber_78 : decode cX5_writeNumber 78 = .ok (.invokevirtual 29, 3) := by decide +kernel
theorem dX5_writeNumber_81 : decode cX5_writeNumber 81 = .ok (.lload 6, 2) := by decide +kernel
theorem dX5_writeNumber_83 : decode cX5_writeNumber 83 = .ok (.ldc2_w 82, 3) := by decide +kernel
theorem dX5_writeNumber_86 : decode cX5_writeNumber 86 = .ok (.ldiv, 1) := by decide +kernel
theorem dX5_writeNumber_87 : decode cX5_writeNumber 87 = .ok (.lstore 6, 2) := by decide +kernel
theorem dX5_writeNumber_89 : decode cX5_writeNumber 89 = .ok (.goto (-64), 3) := by decide +kernel
theorem dX5_writeNumber_92 : decode cX5_writeNumber 92 = .ok (.return_, 1) := by decide +kernel
theorem dX5_append_0 : decode cX5_append 0 = .ok (.aload_n 0, 1) := by decide +kernel
theorem dX5_append_1 : decode cX5_append 1 = .ok (.getfield 15, 3) := by decide +kernel
theorem dX5_append_4 : decode cX5_append 4 = .ok (.sipush 1200, 3) := by decide +kernel
theorem dX5_append_7 : decode cX5_append 7 = .ok (.if_icmp .ge 23, 3) := by decide +kernel
theorem dX5_append_10 : decode cX5_append 10 = .ok (.aload_n 0, 1) := by decide +kernel
theorem dX5_append_11 : decode cX5_append 11 = .ok (.getfield 9, 3) := by decide +kernel
theorem dX5_append_14 : decode cX5_append 14 = .ok (.aload_n 0, 1) := by decide +kernel
theorem dX5_append_15 : decode cX5_append 15 = .ok (.getfield 15, 3) := by decide +kernel
theorem dX5_append_18 : decode cX5_append 18 = .ok (.iload_n 1, 1) := by decide +kernel
theorem dX5_append_19 : decode cX5_append 19 = .ok (.castore, 1) := by decide +kernel
theorem dX5_append_20 : decode cX5_append 20 = .ok (.aload_n 0, 1) := by decide +kernel
theorem dX5_append_21 : decode cX5_append 21 = .ok (.dup, 1) := by decide +kernel
theorem dX5_append_22 : decode cX5_append 22 = .ok (.getfield 15, 3) := by decide +kernel
theorem dX5_append_25 : decode cX5_append 25 = .ok (.iconst 1, 1) := by decide +kernel
theorem dX5_append_26 : decode cX5_append 26 = .ok (.iadd, 1) := by decide +kernel
theorem dX5_append_27 : decode cX5_append 27 = .ok (.putfield 15, 3) := by decide +kernel
theorem dX5_append_30 : decode cX5_append 30 = .ok (.return_, 1) := by decide +kernel
theorem dX6_init_0 : decode cX6_init 0 = .ok (.aload_n 0, 1) := by decide +kernel
theorem dX6_init_1 : decode cX6_init 1 = .ok (.invokespecial 3, 3) := by decide +kernel
theorem dX6_init_4 : decode cX6_init 4 = .ok (.aload_n 0, 1) := by decide +kernel
theorem dX6_init_5 : decode cX6_init 5 = .ok (.bipush 8, 2) := by decide +kernel
theorem dX6_init_7 : decode cX6_init 7 = .ok (.anewarray 9, 3) := by decide +kernel
theorem dX6_init_10 : decode cX6_init 10 = .ok (.putfield 11, 3) := by decide +kernel
theorem dX6_init_13 : decode cX6_init 13 = .ok (.iconst 0, 1) := by decide +kernel
theorem dX6_init_14 : decode cX6_init 14 = .ok (.istore_n 1, 1) := by decide +kernel
theorem dX6_init_15 : decode cX6_init 15 = .ok (.iload_n 1, 1) := by decide +kernel
theorem dX6_init_16 : decode cX6_init 16 = .ok (.bipush 8, 2) := by decide +kernel
theorem dX6_init_18 : decode cX6_init 18 = .ok (.if_icmp .ge 24, 3) := by decide +kernel
theorem dX6_init_21 : decode cX6_init 21 = .ok (.aload_n 0, 1) := by decide +kernel
theorem dX6_init_22 : decode cX6_init 22 = .ok (.getfield 11, 3) := by decide +kernel
theorem dX6_init_25 : decode cX6_init 25 = .ok (.iload_n 1, 1) := by decide +kernel
theorem dX6_init_26 : decode cX6_init 26 = .ok (.new 9, 3) := by decide +kernel
theorem dX6_init_29 : decode cX6_init 29 = .ok (.dup, 1) := by decide +kernel
theorem dX6_init_30 : decode cX6_init 30 = .ok (.bipush 40, 2) := by decide +kernel
theorem dX6_init_32 : decode cX6_init 32 = .ok (.invokespecial 15, 3) := by decide +kernel
theorem dX6_init_35 : decode cX6_init 35 = .ok (.aastore, 1) := by decide +kernel
theorem dX6_init_36 : decode cX6_init 36 = .ok (.iinc 1 1, 3) := by decide +kernel
theorem dX6_init_39 : decode cX6_init 39 = .ok (.goto (-24), 3) := by decide +kernel
theorem dX6_init_42 : decode cX6_init 42 = .ok (.aload_n 0, 1) := by decide +kernel
theorem dX6_init_43 : decode cX6_init 43 = .ok (.new 9, 3) := by decide +kernel
theorem dX6_init_46 : decode cX6_init 46 = .ok (.dup, 1) := by decide +kernel
theorem dX6_init_47 : decode cX6_init 47 = .ok (.sipush 200, 3) := by decide +kernel
theorem dX6_init_50 : decode cX6_init 50 = .ok (.invokespecial 15, 3) := by decide +kernel
theorem dX6_init_53 : decode cX6_init 53 = .ok (.putfield 18, 3) := by decide +kernel
theorem dX6_init_56 : decode cX6_init 56 = .ok (.aload_n 0, 1) := by decide +kernel
theorem dX6_init_57 : decode cX6_init 57 = .ok (.new 9, 3) := by decide +kernel
theorem dX6_init_60 : decode cX6_init 60 = .ok (.dup, 1) := by decide +kernel
theorem dX6_init_61 : decode cX6_init 61 = .ok (.bipush 40, 2) := by decide +kernel
theorem dX6_init_63 : decode cX6_init 63 = .ok (.invokespecial 15, 3) := by decide +kernel
theorem dX6_init_66 : decode cX6_init 66 = .ok (.putfield 22, 3) := by decide +kernel
theorem dX6_init_69 : decode cX6_init 69 = .ok (.aload_n 0, 1) := by decide +kernel
theorem dX6_init_70 : decode cX6_init 70 = .ok (.new 25, 3) := by decide +kernel
theorem dX6_init_73 : decode cX6_init 73 = .ok (.dup, 1) := by decide +kernel
theorem dX6_init_74 : decode cX6_init 74 = .ok (.invokespecial 27, 3) := by decide +kernel
theorem dX6_init_77 : decode cX6_init 77 = .ok (.putfield 28, 3) := by decide +kernel
theorem dX6_init_80 : decode cX6_init 80 = .ok (.aload_n 0, 1) := by decide +kernel
theorem dX6_init_81 : decode cX6_init 81 = .ok (.new 32, 3) := by decide +kernel
theorem dX6_init_84 : decode cX6_init 84 = .ok (.dup, 1) := by decide +kernel
theorem dX6_init_85 : decode cX6_init 85 = .ok (.aload_n 0, 1) := by decide +kernel
theorem dX6_init_86 : decode cX6_init 86 = .ok (.getfield 28, 3) := by decide +kernel
theorem dX6_init_89 : decode cX6_init 89 = .ok (.aload_n 0, 1) := by decide +kernel
theorem dX6_init_90 : decode cX6_init 90 = .ok (.getfield 18, 3) := by decide +kernel
theorem dX6_init_93 : decode cX6_init 93 = .ok (.invokespecial 34, 3) := by decide +kernel
theorem dX6_init_96 : decode cX6_init 96 = .ok (.putfield 37, 3) := by decide +kernel
theorem dX6_init_99 : decode cX6_init 99 = .ok (.aload_n 0, 1) := by decide +kernel
theorem dX6_init_100 : decode cX6_init 100 = .ok (.new 41, 3) := by decide +kernel
theorem dX6_init_103 : decode cX6_init 103 = .ok (.dup, 1) := by decide +kernel
theorem dX6_init_104 : decode cX6_init 104 = .ok (.invokespecial 43, 3) := by decide +kernel
theorem dX6_init_107 : decode cX6_init 107 = .ok (.putfield 44, 3) := by decide +kernel
theorem dX6_init_110 : decode cX6_init 110 = .ok (.return_, 1) := by decide +kernel
theorem dX6_type_0 : decode cX6_type 0 = .ok (.iload_n 1, 1) := by decide +kernel
theorem dX6_type_1 : decode cX6_type 1 = .ok (.invokestatic 48, 3) := by decide +kernel
theorem dX6_type_4 : decode cX6_type 4 = .ok (.iload_n 2, 1) := by decide +kernel
theorem dX6_type_5 : decode cX6_type 5 = .ok (.invokestatic 48, 3) := by decide +kernel
theorem dX6_type_8 : decode cX6_type 8 = .ok (.iadd, 1) := by decide +kernel
theorem dX6_type_9 : decode cX6_type 9 = .ok (.iload_n 3, 1) := by decide +kernel
theorem dX6_type_10 : decode cX6_type 10 = .ok (.invokestatic 48, 3) := by decide +kernel
theorem dX6_type_13 : decode cX6_type 13 = .ok (.iadd, 1) := by decide +kernel
theorem dX6_type_14 : decode cX6_type 14 = .ok (.iload 4, 2) := by decide +kernel
theorem dX6_type_16 : decode cX6_type 16 = .ok (.invokestatic 48, 3) := by decide +kernel
theorem dX6_type_19 : decode cX6_type 19 = .ok (.iadd, 1) := by decide +kernel
theorem dX6_type_20 : decode cX6_type 20 = .ok (.iload 5, 2) := by decide +kernel
theorem dX6_type_22 : decode cX6_type 22 = .ok (.invokestatic 48, 3) := by decide +kernel
theorem dX6_type_25 : decode cX6_type 25 = .ok (.iadd, 1) := by decide +kernel
theorem dX6_type_26 : decode cX6_type 26 = .ok (.istore 6, 2) := by decide +kernel
theorem dX6_type_28 : decode cX6_type 28 = .ok (.aload_n 0, 1) := by decide +kernel
theorem dX6_type_29 : decode cX6_type 29 = .ok (.getfield 28, 3) := by decide +kernel
theorem dX6_type_32 : decode cX6_type 32 = .ok (.invokevirtual 52, 3) := by decide +kernel
theorem dX6_type_35 : decode cX6_type 35 = .ok (.iload 6, 2) := by decide +kernel
theorem dX6_type_37 : decode cX6_type 37 = .ok (.iadd, 1) := by decide +kernel
theorem dX6_type_38 : decode cX6_type 38 = .ok (.bipush 100, 2) := by decide +kernel
theorem dX6_type_40 : decode cX6_type 40 = .ok (.if_icmp .le 13, 3) := by decide +kernel
theorem dX6_type_43 : decode cX6_type 43 = .ok (.new 56, 3) := by decide +kernel
theorem dX6_type_46 : decode cX6_type 46 = .ok (.dup, 1) := by decide +kernel
theorem dX6_type_47 : decode cX6_type 47 = .ok (.ldc 58, 2) := by decide +kernel
theorem dX6_type_49 : decode cX6_type 49 = .ok (.invokespecial 60, 3) := by decide +kernel
theorem dX6_type_52 : decode cX6_type 52 = .ok (.athrow, 1) := by decide +kernel
theorem dX6_type_53 : decode cX6_type 53 = .ok (.aload_n 0, 1) := by decide +kernel
theorem dX6_type_54 : decode cX6_type 54 = .ok (.getfield 28, 3) := by decide +kernel
theorem dX6_type_57 : decode cX6_type 57 = .ok (.iload_n 1, 1) := by decide +kernel
theorem dX6_type_58 : decode cX6_type 58 = .ok (.invokevirtual 63, 3) := by decide +kernel
theorem dX6_type_61 : decode cX6_type 61 = .ok (.aload_n 0, 1) := by decide +kernel
theorem dX6_type_62 : decode cX6_type 62 = .ok (.getfield 28, 3) := by decide +kernel
theorem dX6_type_65 : decode cX6_type 65 = .ok (.iload_n 2, 1) := by decide +kernel
theorem dX6_type_66 : decode cX6_type 66 = .ok (.invokevirtual 63, 3) := by decide +kernel
theorem dX6_type_69 : decode cX6_type 69 = .ok (.aload_n 0, 1) := by decide +kernel
theorem dX6_type_70 : decode cX6_type 70 = .ok (.getfield 28, 3) := by decide +kernel
theorem dX6_type_73 : decode cX6_type 73 = .ok (.iload_n 3, 1) := by decide +kernel
theorem dX6_type_74 : decode cX6_type 74 = .ok (.invokevirtual 63, 3) := by decide +kernel
theorem dX6_type_77 : decode cX6_type 77 = .ok (.aload_n 0, 1) := by decide +kernel
theorem dX6_type_78 : decode cX6_type 78 = .ok (.getfield 28, 3) := by decide +kernel
theorem dX6_type_81 : decode cX6_type 81 = .ok (.iload 4, 2) := by decide +kernel
theorem dX6_type_83 : decode cX6_type 83 = .ok (.invokevirtual 63, 3) := by decide +kernel
theorem dX6_type_86 : decode cX6_type 86 = .ok (.aload_n 0, 1) := by decide +kernel
theorem dX6_type_87 : decode cX6_type 87 = .ok (.getfield 28, 3) := by decide +kernel
theorem dX6_type_90 : decode cX6_type 90 = .ok (.iload 5, 2) := by decide +kernel
theorem dX6_type_92 : decode cX6_type 92 = .ok (.invokevirtual 63, 3) := by decide +kernel
theorem dX6_type_95 : decode cX6_type 95 = .ok (.aload_n 0, 1) := by decide +kernel
theorem dX6_type_96 : decode cX6_type 96 = .ok (.getfield 28, 3) := by decide +kernel
theorem dX6_type_99 : decode cX6_type 99 = .ok (.invokevirtual 52, 3) := by decide +kernel
theorem dX6_type_102 : decode cX6_type 102 = .ok (.ireturn, 1) := by decide +kernel
theorem dX6_erase_0 : decode cX6_erase 0 = .ok (.aload_n 0, 1) := by decide +kernel
theorem dX6_erase_1 : decode cX6_erase 1 = .ok (.getfield 28, 3) := by decide +kernel
theorem dX6_erase_4 : decode cX6_erase 4 = .ok (.invokevirtual 52, 3) := by decide +kernel
theorem dX6_erase_7 : decode cX6_erase 7 = .ok (.istore_n 1, 1) := by decide +kernel
theorem dX6_erase_8 : decode cX6_erase 8 = .ok (.aload_n 0, 1) := by decide +kernel
theorem dX6_erase_9 : decode cX6_erase 9 = .ok (.getfield 28, 3) := by decide +kernel
theorem dX6_erase_12 : decode cX6_erase 12 = .ok (.invokevirtual 66, 3) := by decide +kernel
theorem dX6_erase_15 : decode cX6_erase 15 = .ok (.iload_n 1, 1) := by decide +kernel
theorem dX6_erase_16 : decode cX6_erase 16 = .ok (.ireturn, 1) := by decide +kernel
theorem dX6_read_0 : decode cX6_read 0 = .ok (.iload_n 1, 1) := by decide +kernel
theorem dX6_read_1 : decode cX6_read 1 = .ok (.invokestatic 69, 3) := by decide +kernel
theorem dX6_read_4 : decode cX6_read 4 = .ok (.ifCond .ne 13, 3) := by decide +kernel
theorem dX6_read_7 : decode cX6_read 7 = .ok (.new 73, 3) := by decide +kernel
theorem dX6_read_10 : decode cX6_read 10 = .ok (.dup, 1) := by decide +kernel
theorem dX6_read_11 : decode cX6_read 11 = .ok (.ldc 75, 2) := by decide +kernel
theorem dX6_read_13 : decode cX6_read 13 = .ok (.invokespecial 77, 3) := by decide +kernel
theorem dX6_read_16 : decode cX6_read 16 = .ok (.athrow, 1) := by decide +kernel
theorem dX6_read_17 : decode cX6_read 17 = .ok (.aload_n 0, 1) := by decide +kernel
theorem dX6_read_18 : decode cX6_read 18 = .ok (.getfield 37, 3) := by decide +kernel
theorem dX6_read_21 : decode cX6_read 21 = .ok (.invokevirtual 78, 3) := by decide +kernel
theorem dX6_read_24 : decode cX6_read 24 = .ok (.istore_n 2, 1) := by decide +kernel
theorem dX6_read_25 : decode cX6_read 25 = .ok (.iload_n 2, 1) := by decide +kernel
theorem dX6_read_26 : decode cX6_read 26 = .ok (.ifCond .ne 11, 3) := by decide +kernel
theorem dX6_read_29 : decode cX6_read 29 = .ok (.aload_n 0, 1) := by decide +kernel
theorem dX6_read_30 : decode cX6_read 30 = .ok (.iload_n 1, 1) := by decide +kernel
theorem dX6_read_31 : decode cX6_read 31 = .ok (.invokevirtual 81, 3) := by decide +kernel
theorem dX6_read_34 : decode cX6_read 34 = .ok (.goto 4, 3) := by decide +kernel
theorem dX6_read_37 : decode cX6_read 37 = .ok (.iload_n 2, 1) := by decide +kernel
theorem dX6_read_38 : decode cX6_read 38 = .ok (.ireturn, 1) := by decide +kernel
theorem dX6_place_0 : decode cX6_place 0 = .ok (.aload_n 0, 1) := by decide +kernel
theorem dX6_place_1 : decode cX6_place 1 = .ok (.getfield 37, 3) := by decide +kernel
theorem dX6_place_4 : decode cX6_place 4 = .ok (.invokevirtual 84, 3) := by decide +kernel
theorem dX6_place_7 : decode cX6_place 7 = .ok (.ireturn, 1) := by decide +kernel
theorem dX6_write_0 : decode cX6_write 0 = .ok (.iload_n 1, 1) := by decide +kernel
theorem dX6_write_1 : decode cX6_write 1 = .ok (.invokestatic 69, 3) := by decide +kernel
theorem dX6_write_4 : decode cX6_write 4 = .ok (.ifCond .ne 13, 3) := by decide +kernel
theorem dX6_write_7 : decode cX6_write 7 = .ok (.new 73, 3) := by decide +kernel
theorem dX6_write_10 : decode cX6_write 10 = .ok (.dup, 1) := by decide +kernel
theorem dX6_write_11 : decode cX6_write 11 = .ok (.ldc 75, 2) := by decide +kernel
theorem dX6_write_13 : decode cX6_write 13 = .ok (.invokespecial 77, 3) := by decide +kernel
theorem dX6_write_16 : decode cX6_write 16 = .ok (.athrow, 1) := by decide +kernel
theorem dX6_write_17 : decode cX6_write 17 = .ok (.aload_n 0, 1) := by decide +kernel
theorem dX6_write_18 : decode cX6_write 18 = .ok (.getfield 44, 3) := by decide +kernel
theorem dX6_write_21 : decode cX6_write 21 = .ok (.aload_n 0, 1) := by decide +kernel
theorem dX6_write_22 : decode cX6_write 22 = .ok (.getfield 11, 3) := by decide +kernel
theorem dX6_write_25 : decode cX6_write 25 = .ok (.iload_n 1, 1) := by decide +kernel
theorem dX6_write_26 : decode cX6_write 26 = .ok (.aaload, 1) := by decide +kernel
theorem dX6_write_27 : decode cX6_write 27 = .ok (.invokevirtual 87, 3) := by decide +kernel
theorem dX6_write_30 : decode cX6_write 30 = .ok (.aload_n 0, 1) := by decide +kernel
theorem dX6_write_31 : decode cX6_write 31 = .ok (.getfield 44, 3) := by decide +kernel
theorem dX6_write_34 : decode cX6_write 34 = .ok (.invokevirtual 91, 3) := by decide +kernel
theorem dX6_write_37 : decode cX6_write 37 = .ok (.ireturn, 1) := by decide +kernel
theorem dX6_output_0 : decode cX6_output 0 = .ok (.aload_n 0, 1) := by decide +kernel
theorem dX6_output_1 : decode cX6_output 1 = .ok (.getfield 44, 3) := by decide +kernel
theorem dX6_output_4 : decode cX6_output 4 = .ok (.iload_n 1, 1) := by decide +kernel
theorem dX6_output_5 : decode cX6_output 5 = .ok (.invokevirtual 92, 3) := by decide +kernel
theorem dX6_output_8 : decode cX6_output 8 = .ok (.ireturn, 1) := by decide +kernel
theorem dX6_add_0 : decode cX6_add 0 = .ok (.iload_n 1, 1) := by decide +kernel
theorem dX6_add_1 : decode cX6_add 1 = .ok (.invokestatic 69, 3) := by decide +kernel
theorem dX6_add_4 : decode cX6_add 4 = .ok (.ifCond .eq 17, 3) := by decide +kernel
theorem dX6_add_7 : decode cX6_add 7 = .ok (.iload_n 2, 1) := by decide +kernel
theorem dX6_add_8 : decode cX6_add 8 = .ok (.invokestatic 69, 3) := by decide +kernel
theorem dX6_add_11 : decode cX6_add 11 = .ok (.ifCond .eq 10, 3) := by decide +kernel
theorem dX6_add_14 : decode cX6_add 14 = .ok (.iload_n 3, 1) := by decide +kernel
theorem dX6_add_15 : decode cX6_add 15 = .ok (.invokestatic 69, 3) := by decide +kernel
theorem dX6_add_18 : decode cX6_add 18 = .ok (.ifCond .ne 13, 3) := by decide +kernel
theorem dX6_add_21 : decode cX6_add 21 = .ok (.new 73, 3) := by decide +kernel
theorem dX6_add_24 : decode cX6_add 24 = .ok (.dup, 1) := by decide +kernel
theorem dX6_add_25 : decode cX6_add 25 = .ok (.ldc 75, 2) := by decide +kernel
theorem dX6_add_27 : decode cX6_add 27 = .ok (.invokespecial 77, 3) := by decide +kernel
theorem dX6_add_30 : decode cX6_add 30 = .ok (.athrow, 1) := by decide +kernel
theorem dX6_add_31 : decode cX6_add 31 = .ok (.iload 4, 2) := by decide +kernel
theorem dX6_add_33 : decode cX6_add 33 = .ok (.bipush (-100), 2) := by decide +kernel
theorem dX6_add_35 : decode cX6_add 35 = .ok (.if_icmp .lt 23, 3) := by decide +kernel
theorem dX6_add_38 : decode cX6_add 38 = .ok (.iload 4, 2) := by decide +kernel
theorem dX6_add_40 : decode cX6_add 40 = .ok (.bipush 100, 2) := by decide +kernel
theorem dX6_add_42 : decode cX6_add 42 = .ok (.if_icmp .gt 16, 3) := by decide +kernel
theorem dX6_add_45 : decode cX6_add 45 = .ok (.iload 5, 2) := by decide +kernel
theorem dX6_add_47 : decode cX6_add 47 = .ok (.iconst 1, 1) := by decide +kernel
theorem dX6_add_48 : decode cX6_add 48 = .ok (.if_icmp .lt 10, 3) := by decide +kernel
theorem dX6_add_51 : decode cX6_add 51 = .ok (.iload 5, 2) := by decide +kernel
theorem dX6_add_53 : decode cX6_add 53 = .ok (.bipush 6, 2) := by decide +kernel
theorem dX6_add_55 : decode cX6_add 55 = .ok (.if_icmp .le 13, 3) := by decide +kernel
theorem dX6_add_58 : decode cX6_add 58 = .ok (.new 73, 3) := by decide +kernel
theorem dX6_add_61 : decode cX6_add 61 = .ok (.dup, 1) := by decide +kernel
theorem dX6_add_62 : decode cX6_add 62 = .ok (.ldc 96, 2) := by decide +kernel
theorem dX6_add_64 : decode cX6_add 64 = .ok (.invokespecial 77, 3) := by decide +kernel
theorem dX6_add_67 : decode cX6_add 67 = .ok (.athrow, 1) := by decide +kernel
theorem dX6_add_68 : decode cX6_add 68 = .ok (.iload 4, 2) := by decide +kernel
theorem dX6_add_70 : decode cX6_add 70 = .ok (.iload 5, 2) := by decide +kernel
theorem dX6_add_72 : decode cX6_add 72 = .ok (.if_icmp .eq 33, 3) := by decide +kernel
theorem dX6_add_75 : decode cX6_add 75 = .ok (.iload 4, 2) := by decide +kernel
theorem dX6_add_77 : decode cX6_add 77 = .ok (.iload 5, 2) := by decide +kernel
theorem dX6_add_79 : decode cX6_add 79 = .ok (.ineg, 1) := by decide +kernel
theorem dX6_add_80 : decode cX6_add 80 = .ok (.if_icmp .eq 25, 3) := by decide +kernel
theorem dX6_add_83 : decode cX6_add 83 = .ok (.aload_n 0, 1) := by decide +kernel
theorem dX6_add_84 : decode cX6_add 84 = .ok (.getfield 11, 3) := by decide +kernel
theorem dX6_add_87 : decode cX6_add 87 = .ok (.iload_n 3, 1) := by decide +kernel
theorem dX6_add_88 : decode cX6_add 88 = .ok (.aaload, 1) := by decide +kernel
theorem dX6_add_89 : decode cX6_add 89 = .ok (.invokevirtual 98, 3) := by decide +kernel
theorem dX6_add_92 : decode cX6_add 92 = .ok (.ifCond .ne 13, 3) := by decide +kernel
theorem dX6_add_95 : decode cX6_add 95 = .ok (.new 56, 3) := by decide +kernel
theorem dX6_add_98 : decode cX6_add 98 = .ok (.dup, 1) := by decide +kernel
theorem dX6_add_99 : decode cX6_add 99 = .ok (.ldc 102, 2) := by decide +kernel
theorem dX6_add_101 : decode cX6_add 101 = .ok (.invokespecial 60, 3) := by decide +kernel
theorem dX6_add_104 : decode cX6_add 104 = .ok (.athrow, 1) := by decide +kernel
theorem dX6_add_105 : decode cX6_add 105 = .ok (.aload_n 0, 1) := by decide +kernel
theorem dX6_add_106 : decode cX6_add 106 = .ok (.getfield 18, 3) := by decide +kernel
theorem dX6_add_109 : decode cX6_add 109 = .ok (.invokevirtual 104, 3) := by decide +kernel
theorem dX6_add_112 : decode cX6_add 112 = .ok (.aload_n 0, 1) := by decide +kernel
theorem dX6_add_113 : decode cX6_add 113 = .ok (.getfield 18, 3) := by decide +kernel
theorem dX6_add_116 : decode cX6_add 116 = .ok (.aload_n 0, 1) := by decide +kernel
theorem dX6_add_117 : decode cX6_add 117 = .ok (.getfield 11, 3) := by decide +kernel
theorem dX6_add_120 : decode cX6_add 120 = .ok (.iload_n 2, 1) := by decide +kernel
theorem dX6_add_121 : decode cX6_add 121 = .ok (.aaload, 1) := by decide +kernel
theorem dX6_add_122 : decode cX6_add 122 = .ok (.lconst 1, 1) := by decide +kernel
theorem dX6_add_123 : decode cX6_add 123 = .ok (.lconst 1, 1) := by decide +kernel
theorem dX6_add_124 : decode cX6_add 124 = .ok (.invokevirtual 105, 3) := by decide +kernel
theorem dX6_add_127 : decode cX6_add 127 = .ok (.aload_n 0, 1) := by decide +kernel
theorem dX6_add_128 : decode cX6_add 128 = .ok (.getfield 18, 3) := by decide +kernel
theorem dX6_add_131 : decode cX6_add 131 = .ok (.aload_n 0, 1) := by decide +kernel
theorem dX6_add_132 : decode cX6_add 132 = .ok (.getfield 11, 3) := by decide +kernel
theorem dX6_add_135 : decode cX6_add 135 = .ok (.iload_n 3, 1) := by decide +kernel
theorem dX6_add_136 : decode cX6_add 136 = .ok (.aaload, 1) := by decide +kernel
theorem dX6_add_137 : decode cX6_add 137 = .ok (.iload 4, 2) := by decide +kernel
theorem dX6_add_139 : decode cX6_add 139 = .ok (.i2l, 1) := by decide +kernel
theorem dX6_add_140 : decode cX6_add 140 = .ok (.iload 5, 2) := by decide +kernel
theorem dX6_add_142 : decode cX6_add 142 = .ok (.i2l, 1) := by decide +kernel
theorem dX6_add_143 : decode cX6_add 143 = .ok (.invokevirtual 105, 3) := by decide +kernel
theorem dX6_add_146 : decode cX6_add 146 = .ok (.aload_n 0, 1) := by decide +kernel
theorem dX6_add_147 : decode cX6_add 147 = .ok (.iload_n 1, 1) := by decide +kernel
theorem dX6_add_148 : decode cX6_add 148 = .ok (.invokevirtual 81, 3) := by decide +kernel
theorem dX6_add_151 : decode cX6_add 151 = .ok (.ireturn, 1) := by decide +kernel
theorem dX6_times_0 : decode cX6_times 0 = .ok (.iload_n 1, 1) := by decide +kernel
theorem dX6_times_1 : decode cX6_times 1 = .ok (.invokestatic 69, 3) := by decide +kernel
theorem dX6_times_4 : decode cX6_times 4 = .ok (.ifCond .eq 17, 3) := by decide +kernel
theorem dX6_times_7 : decode cX6_times 7 = .ok (.iload_n 2, 1) := by decide +kernel
theorem dX6_times_8 : decode cX6_times 8 = .ok (.invokestatic 69, 3) := by decide +kernel
theorem dX6_times_11 : decode cX6_times 11 = .ok (.ifCond .eq 10, 3) := by decide +kernel
theorem dX6_times_14 : decode cX6_times 14 = .ok (.iload_n 3, 1) := by decide +kernel
theorem dX6_times_15 : decode cX6_times 15 = .ok (.invokestatic 69, 3) := by decide +kernel
theorem dX6_times_18 : decode cX6_times 18 = .ok (.ifCond .ne 13, 3) := by decide +kernel
theorem dX6_times_21 : decode cX6_times 21 = .ok (.new 73, 3) := by decide +kernel
theorem dX6_times_24 : decode cX6_times 24 = .ok (.dup, 1) := by decide +kernel
theorem dX6_times_25 : decode cX6_times 25 = .ok (.ldc 75, 2) := by decide +kernel
theorem dX6_times_27 : decode cX6_times 27 = .ok (.invokespecial 77, 3) := by decide +kernel
theorem dX6_times_30 : decode cX6_times 30 = .ok (.athrow, 1) := by decide +kernel
theorem dX6_times_31 : decode cX6_times 31 = .ok (.aload_n 0, 1) := by decide +kernel
theorem dX6_times_32 : decode cX6_times 32 = .ok (.getfield 11, 3) := by decide +kernel
theorem dX6_times_35 : decode cX6_times 35 = .ok (.iload_n 2, 1) := by decide +kernel
theorem dX6_times_36 : decode cX6_times 36 = .ok (.aaload, 1) := by decide +kernel
theorem dX6_times_37 : decode cX6_times 37 = .ok (.invokevirtual 98, 3) := by decide +kernel
theorem dX6_times_40 : decode cX6_times 40 = .ok (.ifCond .eq 15, 3) := by decide +kernel
theorem dX6_times_43 : decode cX6_times 43 = .ok (.aload_n 0, 1) := by decide +kernel
theorem dX6_times_44 : decode cX6_times 44 = .ok (.getfield 11, 3) := by decide +kernel
theorem dX6_times_47 : decode cX6_times 47 = .ok (.iload_n 3, 1) := by decide +kernel
theorem dX6_times_48 : decode cX6_times 48 = .ok (.aaload, 1) := by decide +kernel
theorem dX6_times_49 : decode cX6_times 49 = .ok (.invokevirtual 98, 3) := by decide +kernel
theorem dX6_times_52 : decode cX6_times 52 = .ok (.ifCond .ne 13, 3) := by decide +kernel
theorem dX6_times_55 : decode cX6_times 55 = .ok (.new 56, 3) := by decide +kernel
theorem dX6_times_58 : decode cX6_times 58 = .ok (.dup, 1) := by decide +kernel
theorem dX6_times_59 : decode cX6_times 59 = .ok (.ldc 109, 2) := by decide +kernel
theorem dX6_times_61 : decode cX6_times 61 = .ok (.invokespecial 60, 3) := by decide +kernel
theorem dX6_times_64 : decode cX6_times 64 = .ok (.athrow, 1) := by decide +kernel
theorem dX6_times_65 : decode cX6_times 65 = .ok (.aload_n 0, 1) := by decide +kernel
theorem dX6_times_66 : decode cX6_times 66 = .ok (.getfield 11, 3) := by decide +kernel
theorem dX6_times_69 : decode cX6_times 69 = .ok (.iload_n 2, 1) := by decide +kernel
theorem dX6_times_70 : decode cX6_times 70 = .ok (.aaload, 1) := by decide +kernel
theorem dX6_times_71 : decode cX6_times 71 = .ok (.invokevirtual 111, 3) := by decide +kernel
theorem dX6_times_74 : decode cX6_times 74 = .ok (.aload_n 0, 1) := by decide +kernel
theorem dX6_times_75 : decode cX6_times 75 = .ok (.getfield 11, 3) := by decide +kernel
theorem dX6_times_78 : decode cX6_times 78 = .ok (.iload_n 3, 1) := by decide +kernel
theorem dX6_times_79 : decode cX6_times 79 = .ok (.aaload, 1) := by decide +kernel
theorem dX6_times_80 : decode cX6_times 80 = .ok (.invokevirtual 111, 3) := by decide +kernel
theorem dX6_times_83 : decode cX6_times 83 = .ok (.imul, 1) := by decide +kernel
theorem dX6_times_84 : decode cX6_times 84 = .ok (.bipush 100, 2) := by decide +kernel
theorem dX6_times_86 : decode cX6_times 86 = .ok (.if_icmp .le 6, 3) := by decide +kernel
theorem dX6_times_89 : decode cX6_times 89 = .ok (.bipush (-4), 2) := by decide +kernel
theorem dX6_times_91 : decode cX6_times 91 = .ok (.ireturn, 1) := by decide +kernel
theorem dX6_times_92 : decode cX6_times 92 = .ok (.aload_n 0, 1) := by decide +kernel
theorem dX6_times_93 : decode cX6_times 93 = .ok (.getfield 11, 3) := by decide +kernel
theorem dX6_times_96 : decode cX6_times 96 = .ok (.iload_n 2, 1) := by decide +kernel
theorem dX6_times_97 : decode cX6_times 97 = .ok (.aaload, 1) := by decide +kernel
theorem dX6_times_98 : decode cX6_times 98 = .ok (.aload_n 0, 1) := by decide +kernel
theorem dX6_times_99 : decode cX6_times 99 = .ok (.getfield 11, 3) := by decide +kernel
theorem dX6_times_102 : decode cX6_times 102 = .ok (.iload_n 3, 1) := by decide +kernel
theorem dX6_times_103 : decode cX6_times 103 = .ok (.aaload, 1) := by decide +kernel
theorem dX6_times_104 : decode cX6_times 104 = .ok (.invokestatic 114, 3) := by decide +kernel
theorem dX6_times_107 : decode cX6_times 107 = .ok (.ifCond .ne 6, 3) := by decide +kernel
theorem dX6_times_110 : decode cX6_times 110 = .ok (.bipush (-5), 2) := by decide +kernel
theorem dX6_times_112 : decode cX6_times 112 = .ok (.ireturn, 1) := by decide +kernel
theorem dX6_times_113 : decode cX6_times 113 = .ok (.aload_n 0, 1) := by decide +kernel
theorem dX6_times_114 : decode cX6_times 114 = .ok (.getfield 18, 3) := by decide +kernel
theorem dX6_times_117 : decode cX6_times 117 = .ok (.invokevirtual 104, 3) := by decide +kernel
theorem dX6_times_120 : decode cX6_times 120 = .ok (.aload_n 0, 1) := by decide +kernel
theorem dX6_times_121 : decode cX6_times 121 = .ok (.getfield 18, 3) := by decide +kernel
theorem dX6_times_124 : decode cX6_times 124 = .ok (.aload_n 0, 1) := by decide +kernel
theorem dX6_times_125 : decode cX6_times 125 = .ok (.getfield 11, 3) := by decide +kernel
theorem dX6_times_128 : decode cX6_times 128 = .ok (.iload_n 2, 1) := by decide +kernel
theorem dX6_times_129 : decode cX6_times 129 = .ok (.aaload, 1) := by decide +kernel
theorem dX6_times_130 : decode cX6_times 130 = .ok (.aload_n 0, 1) := by decide +kernel
theorem dX6_times_131 : decode cX6_times 131 = .ok (.getfield 11, 3) := by decide +kernel
theorem dX6_times_134 : decode cX6_times 134 = .ok (.iload_n 3, 1) := by decide +kernel
theorem dX6_times_135 : decode cX6_times 135 = .ok (.aaload, 1) := by decide +kernel
theorem dX6_times_136 : decode cX6_times 136 = .ok (.invokestatic 120, 3) := by decide +kernel
theorem dX6_times_139 : decode cX6_times 139 = .ok (.aload_n 0, 1) := by decide +kernel
theorem dX6_times_140 : decode cX6_times 140 = .ok (.iload_n 1, 1) := by decide +kernel
theorem dX6_times_141 : decode cX6_times 141 = .ok (.invokevirtual 81, 3) := by decide +kernel
theorem dX6_times_144 : decode cX6_times 144 = .ok (.ireturn, 1) := by decide +kernel
theorem dX6_derive_0 : decode cX6_derive 0 = .ok (.iload_n 1, 1) := by decide +kernel
theorem dX6_derive_1 : decode cX6_derive 1 = .ok (.invokestatic 69, 3) := by decide +kernel
theorem dX6_derive_4 : decode cX6_derive 4 = .ok (.ifCond .eq 10, 3) := by decide +kernel
theorem dX6_derive_7 : decode cX6_derive 7 = .ok (.iload_n 2, 1) := by decide +kernel
theorem dX6_derive_8 : decode cX6_derive 8 = .ok (.invokestatic 69, 3) := by decide +kernel
theorem dX6_derive_11 : decode cX6_derive 11 = .ok (.ifCond .ne 13, 3) := by decide +kernel
theorem dX6_derive_14 : decode cX6_derive 14 = .ok (.new 73, 3) := by decide +kernel
theorem dX6_derive_17 : decode cX6_derive 17 = .ok (.dup, 1) := by decide +kernel
theorem dX6_derive_18 : decode cX6_derive 18 = .ok (.ldc 75, 2) := by decide +kernel
theorem dX6_derive_20 : decode cX6_derive 20 = .ok (.invokespecial 77, 3) := by decide +kernel
theorem dX6_derive_23 : decode cX6_derive 23 = .ok (.athrow, 1) := by decide +kernel
theorem dX6_derive_24 : decode cX6_derive 24 = .ok (.aload_n 0, 1) := by decide +kernel
theorem dX6_derive_25 : decode cX6_derive 25 = .ok (.getfield 18, 3) := by decide +kernel
theorem dX6_derive_28 : decode cX6_derive 28 = .ok (.invokevirtual 104, 3) := by decide +kernel
theorem dX6_derive_31 : decode cX6_derive 31 = .ok (.aload_n 0, 1) := by decide +kernel
theorem dX6_derive_32 : decode cX6_derive 32 = .ok (.getfield 18, 3) := by decide +kernel
theorem dX6_derive_35 : decode cX6_derive 35 = .ok (.aload_n 0, 1) := by decide +kernel
theorem dX6_derive_36 : decode cX6_derive 36 = .ok (.getfield 11, 3) := by decide +kernel
theorem dX6_derive_39 : decode cX6_derive 39 = .ok (.iload_n 2, 1) := by decide +kernel
theorem dX6_derive_40 : decode cX6_derive 40 = .ok (.aaload, 1) := by decide +kernel
theorem dX6_derive_41 : decode cX6_derive 41 = .ok (.invokestatic 124, 3) := by decide +kernel
theorem dX6_derive_44 : decode cX6_derive 44 = .ok (.aload_n 0, 1) := by decide +kernel
theorem dX6_derive_45 : decode cX6_derive 45 = .ok (.iload_n 1, 1) := by decide +kernel
theorem dX6_derive_46 : decode cX6_derive 46 = .ok (.invokevirtual 81, 3) := by decide +kernel
theorem dX6_derive_49 : decode cX6_derive 49 = .ok (.ireturn, 1) := by decide +kernel
theorem dX6_integrate_0 : decode cX6_integrate 0 = .ok (.iload_n 1, 1) := by decide +kernel
theorem dX6_integrate_1 : decode cX6_integrate 1 = .ok (.invokestatic 69, 3) := by decide +kernel
theorem dX6_integrate_4 : decode cX6_integrate 4 = .ok (.ifCond .eq 17, 3) := by decide +kernel
theorem dX6_integrate_7 : decode cX6_integrate 7 = .ok (.iload_n 2, 1) := by decide +kernel
theorem dX6_integrate_8 : decode cX6_integrate 8 = .ok (.invokestatic 69, 3) := by decide +kernel
theorem dX6_integrate_11 : decode cX6_integrate 11 = .ok (.ifCond .eq 10, 3) := by decide +kernel
theorem dX6_integrate_14 : decode cX6_integrate 14 = .ok (.iload_n 3, 1) := by decide +kernel
theorem dX6_integrate_15 : decode cX6_integrate 15 = .ok (.invokestatic 69, 3) := by decide +kernel
theorem dX6_integrate_18 : decode cX6_integrate 18 = .ok (.ifCond .ne 13, 3) := by decide +kernel
theorem dX6_integrate_21 : decode cX6_integrate 21 = .ok (.new 73, 3) := by decide +kernel
theorem dX6_integrate_24 : decode cX6_integrate 24 = .ok (.dup, 1) := by decide +kernel
theorem dX6_integrate_25 : decode cX6_integrate 25 = .ok (.ldc 75, 2) := by decide +kernel
theorem dX6_integrate_27 : decode cX6_integrate 27 = .ok (.invokespecial 77, 3) := by decide +kernel
theorem dX6_integrate_30 : decode cX6_integrate 30 = .ok (.athrow, 1) := by decide +kernel
theorem dX6_integrate_31 : decode cX6_integrate 31 = .ok (.aload_n 0, 1) := by decide +kernel
theorem dX6_integrate_32 : decode cX6_integrate 32 = .ok (.getfield 11, 3) := by decide +kernel
theorem dX6_integrate_35 : decode cX6_integrate 35 = .ok (.iload_n 3, 1) := by decide +kernel
theorem dX6_integrate_36 : decode cX6_integrate 36 = .ok (.aaload, 1) := by decide +kernel
theorem dX6_integrate_37 : decode cX6_integrate 37 = .ok (.invokevirtual 98, 3) := by decide +kernel
theorem dX6_integrate_40 : decode cX6_integrate 40 = .ok (.ifCond .ne 13, 3) := by decide +kernel
theorem dX6_integrate_43 : decode cX6_integrate 43 = .ok (.new 56, 3) := by decide +kernel
theorem dX6_integrate_46 : decode cX6_integrate 46 = .ok (.dup, 1) := by decide +kernel
theorem dX6_integrate_47 : decode cX6_integrate 47 = .ok (.ldc 130, 2) := by decide +kernel
theorem dX6_integrate_49 : decode cX6_integrate 49 = .ok (.invokespecial 60, 3) := by decide +kernel
theorem dX6_integrate_52 : decode cX6_integrate 52 = .ok (.athrow, 1) := by decide +kernel
theorem dX6_integrate_53 : decode cX6_integrate 53 = .ok (.aload_n 0, 1) := by decide +kernel
theorem dX6_integrate_54 : decode cX6_integrate 54 = .ok (.getfield 18, 3) := by decide +kernel
theorem dX6_integrate_57 : decode cX6_integrate 57 = .ok (.invokevirtual 104, 3) := by decide +kernel
theorem dX6_integrate_60 : decode cX6_integrate 60 = .ok (.aload_n 0, 1) := by decide +kernel
theorem dX6_integrate_61 : decode cX6_integrate 61 = .ok (.getfield 22, 3) := by decide +kernel
theorem dX6_integrate_64 : decode cX6_integrate 64 = .ok (.invokevirtual 104, 3) := by decide +kernel
theorem dX6_integrate_67 : decode cX6_integrate 67 = .ok (.aload_n 0, 1) := by decide +kernel
theorem dX6_integrate_68 : decode cX6_integrate 68 = .ok (.getfield 18, 3) := by decide +kernel
theorem dX6_integrate_71 : decode cX6_integrate 71 = .ok (.aload_n 0, 1) := by decide +kernel
theorem dX6_integrate_72 : decode cX6_integrate 72 = .ok (.getfield 22, 3) := by decide +kernel
theorem dX6_integrate_75 : decode cX6_integrate 75 = .ok (.aload_n 0, 1) := by decide +kernel
theorem dX6_integrate_76 : decode cX6_integrate 76 = .ok (.getfield 11, 3) := by decide +kernel
theorem dX6_integrate_79 : decode cX6_integrate 79 = .ok (.iload_n 3, 1) := by decide +kernel
theorem dX6_integrate_80 : decode cX6_integrate 80 = .ok (.aaload, 1) := by decide +kernel
theorem dX6_integrate_81 : decode cX6_integrate 81 = .ok (.invokestatic 132, 3) := by decide +kernel
theorem dX6_integrate_84 : decode cX6_integrate 84 = .ok (.aload_n 0, 1) := by decide +kernel
theorem dX6_integrate_85 : decode cX6_integrate 85 = .ok (.getfield 18, 3) := by decide +kernel
theorem dX6_integrate_88 : decode cX6_integrate 88 = .ok (.invokevirtual 135, 3) := by decide +kernel
theorem dX6_integrate_91 : decode cX6_integrate 91 = .ok (.ifCond .eq 13, 3) := by decide +kernel
theorem dX6_integrate_94 : decode cX6_integrate 94 = .ok (.aload_n 0, 1) := by decide +kernel
theorem dX6_integrate_95 : decode cX6_integrate 95 = .ok (.getfield 22, 3) := by decide +kernel
theorem dX6_integrate_98 : decode cX6_integrate 98 = .ok (.invokevirtual 135, 3) := by decide +kernel
theorem dX6_integrate_101 : decode cX6_integrate 101 = .ok (.ifCond .ne 6, 3) := by decide +kernel
theorem dX6_integrate_104 : decode cX6_integrate 104 = .ok (.bipush (-4), 2) := by decide +kernel
theorem dX6_integrate_106 : decode cX6_integrate 106 = .ok (.ireturn, 1) := by decide +kernel
theorem dX6_integrate_107 : decode cX6_integrate 107 = .ok (.aload_n 0, 1) := by decide +kernel
theorem dX6_integrate_108 : decode cX6_integrate 108 = .ok (.getfield 11, 3) := by decide +kernel
theorem dX6_integrate_111 : decode cX6_integrate 111 = .ok (.iload_n 1, 1) := by decide +kernel
theorem dX6_integrate_112 : decode cX6_integrate 112 = .ok (.aaload, 1) := by decide +kernel
theorem dX6_integrate_113 : decode cX6_integrate 113 = .ok (.aload_n 0, 1) := by decide +kernel
theorem dX6_integrate_114 : decode cX6_integrate 114 = .ok (.getfield 18, 3) := by decide +kernel
theorem dX6_integrate_117 : decode cX6_integrate 117 = .ok (.invokevirtual 138, 3) := by decide +kernel
theorem dX6_integrate_120 : decode cX6_integrate 120 = .ok (.aload_n 0, 1) := by decide +kernel
theorem dX6_integrate_121 : decode cX6_integrate 121 = .ok (.getfield 11, 3) := by decide +kernel
theorem dX6_integrate_124 : decode cX6_integrate 124 = .ok (.iload_n 2, 1) := by decide +kernel
theorem dX6_integrate_125 : decode cX6_integrate 125 = .ok (.aaload, 1) := by decide +kernel
theorem dX6_integrate_126 : decode cX6_integrate 126 = .ok (.aload_n 0, 1) := by decide +kernel
theorem dX6_integrate_127 : decode cX6_integrate 127 = .ok (.getfield 22, 3) := by decide +kernel
theorem dX6_integrate_130 : decode cX6_integrate 130 = .ok (.invokevirtual 138, 3) := by decide +kernel
theorem dX6_integrate_133 : decode cX6_integrate 133 = .ok (.aload_n 0, 1) := by decide +kernel
theorem dX6_integrate_134 : decode cX6_integrate 134 = .ok (.getfield 22, 3) := by decide +kernel
theorem dX6_integrate_137 : decode cX6_integrate 137 = .ok (.invokevirtual 111, 3) := by decide +kernel
theorem dX6_integrate_140 : decode cX6_integrate 140 = .ok (.ireturn, 1) := by decide +kernel
theorem dX6_same_0 : decode cX6_same 0 = .ok (.iload_n 1, 1) := by decide +kernel
theorem dX6_same_1 : decode cX6_same 1 = .ok (.invokestatic 69, 3) := by decide +kernel
theorem dX6_same_4 : decode cX6_same 4 = .ok (.ifCond .eq 10, 3) := by decide +kernel
theorem dX6_same_7 : decode cX6_same 7 = .ok (.iload_n 2, 1) := by decide +kernel
theorem dX6_same_8 : decode cX6_same 8 = .ok (.invokestatic 69, 3) := by decide +kernel
theorem dX6_same_11 : decode cX6_same 11 = .ok (.ifCond .ne 13, 3) := by decide +kernel
theorem dX6_same_14 : decode cX6_same 14 = .ok (.new 73, 3) := by decide +kernel
theorem dX6_same_17 : decode cX6_same 17 = .ok (.dup, 1) := by decide +kernel
theorem dX6_same_18 : decode cX6_same 18 = .ok (.ldc 75, 2) := by decide +kernel
theorem dX6_same_20 : decode cX6_same 20 = .ok (.invokespecial 77, 3) := by decide +kernel
theorem dX6_same_23 : decode cX6_same 23 = .ok (.athrow, 1) := by decide +kernel
theorem dX6_same_24 : decode cX6_same 24 = .ok (.aload_n 0, 1) := by decide +kernel
theorem dX6_same_25 : decode cX6_same 25 = .ok (.getfield 11, 3) := by decide +kernel
theorem dX6_same_28 : decode cX6_same 28 = .ok (.iload_n 1, 1) := by decide +kernel
theorem dX6_same_29 : decode cX6_same 29 = .ok (.aaload, 1) := by decide +kernel
theorem dX6_same_30 : decode cX6_same 30 = .ok (.aload_n 0, 1) := by decide +kernel
theorem dX6_same_31 : decode cX6_same 31 = .ok (.getfield 11, 3) := by decide +kernel
theorem dX6_same_34 : decode cX6_same 34 = .ok (.iload_n 2, 1) := by decide +kernel
theorem dX6_same_35 : decode cX6_same 35 = .ok (.aaload, 1) := by decide +kernel
theorem dX6_same_36 : decode cX6_same 36 = .ok (.invokevirtual 141, 3) := by decide +kernel
theorem dX6_same_39 : decode cX6_same 39 = .ok (.ireturn, 1) := by decide +kernel
theorem dX6_terms_0 : decode cX6_terms 0 = .ok (.iload_n 1, 1) := by decide +kernel
theorem dX6_terms_1 : decode cX6_terms 1 = .ok (.invokestatic 69, 3) := by decide +kernel
theorem dX6_terms_4 : decode cX6_terms 4 = .ok (.ifCond .ne 13, 3) := by decide +kernel
theorem dX6_terms_7 : decode cX6_terms 7 = .ok (.new 73, 3) := by decide +kernel
theorem dX6_terms_10 : decode cX6_terms 10 = .ok (.dup, 1) := by decide +kernel
theorem dX6_terms_11 : decode cX6_terms 11 = .ok (.ldc 75, 2) := by decide +kernel
theorem dX6_terms_13 : decode cX6_terms 13 = .ok (.invokespecial 77, 3) := by decide +kernel
theorem dX6_terms_16 : decode cX6_terms 16 = .ok (.athrow, 1) := by decide +kernel
theorem dX6_terms_17 : decode cX6_terms 17 = .ok (.aload_n 0, 1) := by decide +kernel
theorem dX6_terms_18 : decode cX6_terms 18 = .ok (.getfield 11, 3) := by decide +kernel
theorem dX6_terms_21 : decode cX6_terms 21 = .ok (.iload_n 1, 1) := by decide +kernel
theorem dX6_terms_22 : decode cX6_terms 22 = .ok (.aaload, 1) := by decide +kernel
theorem dX6_terms_23 : decode cX6_terms 23 = .ok (.invokevirtual 111, 3) := by decide +kernel
theorem dX6_terms_26 : decode cX6_terms 26 = .ok (.ireturn, 1) := by decide +kernel
theorem dX6_term_0 : decode cX6_term 0 = .ok (.iload_n 1, 1) := by decide +kernel
theorem dX6_term_1 : decode cX6_term 1 = .ok (.invokestatic 69, 3) := by decide +kernel
theorem dX6_term_4 : decode cX6_term 4 = .ok (.ifCond .ne 13, 3) := by decide +kernel
theorem dX6_term_7 : decode cX6_term 7 = .ok (.new 73, 3) := by decide +kernel
theorem dX6_term_10 : decode cX6_term 10 = .ok (.dup, 1) := by decide +kernel
theorem dX6_term_11 : decode cX6_term 11 = .ok (.ldc 75, 2) := by decide +kernel
theorem dX6_term_13 : decode cX6_term 13 = .ok (.invokespecial 77, 3) := by decide +kernel
theorem dX6_term_16 : decode cX6_term 16 = .ok (.athrow, 1) := by decide +kernel
theorem dX6_term_17 : decode cX6_term 17 = .ok (.iload_n 3, 1) := by decide +kernel
theorem dX6_term_18 : decode cX6_term 18 = .ok (.ifCond .lt 8, 3) := by decide +kernel
theorem dX6_term_21 : decode cX6_term 21 = .ok (.iload_n 3, 1) := by decide +kernel
theorem dX6_term_22 : decode cX6_term 22 = .ok (.iconst 4, 1) := by decide +kernel
theorem dX6_term_23 : decode cX6_term 23 = .ok (.if_icmp .le 13, 3) := by decide +kernel
theorem dX6_term_26 : decode cX6_term 26 = .ok (.new 73, 3) := by decide +kernel
theorem dX6_term_29 : decode cX6_term 29 = .ok (.dup, 1) := by decide +kernel
theorem dX6_term_30 : decode cX6_term 30 = .ok (.ldc 145, 2) := by decide +kernel
theorem dX6_term_32 : decode cX6_term 32 = .ok (.invokespecial 77, 3) := by decide +kernel
theorem dX6_term_35 : decode cX6_term 35 = .ok (.athrow, 1) := by decide +kernel
theorem dX6_term_36 : decode cX6_term 36 = .ok (.aload_n 0, 1) := by decide +kernel
theorem dX6_term_37 : decode cX6_term 37 = .ok (.getfield 11, 3) := by decide +kernel
theorem dX6_term_40 : decode cX6_term 40 = .ok (.iload_n 1, 1) := by decide +kernel
theorem dX6_term_41 : decode cX6_term 41 = .ok (.aaload, 1) := by decide +kernel
theorem dX6_term_42 : decode cX6_term 42 = .ok (.astore 4, 2) := by decide +kernel
theorem dX6_term_44 : decode cX6_term 44 = .ok (.aload 4, 2) := by decide +kernel
theorem dX6_term_46 : decode cX6_term 46 = .ok (.iload_n 2, 1) := by decide +kernel
theorem dX6_term_47 : decode cX6_term 47 = .ok (.invokevirtual 147, 3) := by decide +kernel
theorem dX6_term_50 : decode cX6_term 50 = .ok (.ifCond .ne 5, 3) := by decide +kernel
theorem dX6_term_53 : decode cX6_term 53 = .ok (.lconst 0, 1) := by decide +kernel
theorem dX6_term_54 : decode cX6_term 54 = .ok (.lreturn, 1) := by decide +kernel
theorem dX6_term_55 : decode cX6_term 55 = .ok (.iload_n 3, 1) := by decide +kernel
theorem dX6_term_56 : decode cX6_term 56 = .ok (.tableswitch 62 0 3 #[32, 39, 46, 54], 32) := by decide +kernel
theorem dX6_term_88 : decode cX6_term 88 = .ok (.aload 4, 2) := by decide +kernel
theorem dX6_term_90 : decode cX6_term 90 = .ok (.iload_n 2, 1) := by decide +kernel
theorem dX6_term_91 : decode cX6_term 91 = .ok (.invokevirtual 150, 3) := by decide +kernel
theorem dX6_term_94 : decode cX6_term 94 = .ok (.lreturn, 1) := by decide +kernel
theorem dX6_term_95 : decode cX6_term 95 = .ok (.aload 4, 2) := by decide +kernel
theorem dX6_term_97 : decode cX6_term 97 = .ok (.iload_n 2, 1) := by decide +kernel
theorem dX6_term_98 : decode cX6_term 98 = .ok (.invokevirtual 154, 3) := by decide +kernel
theorem dX6_term_101 : decode cX6_term 101 = .ok (.lreturn, 1) := by decide +kernel
theorem dX6_term_102 : decode cX6_term 102 = .ok (.aload 4, 2) := by decide +kernel
theorem dX6_term_104 : decode cX6_term 104 = .ok (.iload_n 2, 1) := by decide +kernel
theorem dX6_term_105 : decode cX6_term 105 = .ok (.invokevirtual 157, 3) := by decide +kernel
theorem dX6_term_108 : decode cX6_term 108 = .ok (.i2l, 1) := by decide +kernel
theorem dX6_term_109 : decode cX6_term 109 = .ok (.lreturn, 1) := by decide +kernel
theorem dX6_term_110 : decode cX6_term 110 = .ok (.aload 4, 2) := by decide +kernel
theorem dX6_term_112 : decode cX6_term 112 = .ok (.iload_n 2, 1) := by decide +kernel
theorem dX6_term_113 : decode cX6_term 113 = .ok (.invokevirtual 160, 3) := by decide +kernel
theorem dX6_term_116 : decode cX6_term 116 = .ok (.i2l, 1) := by decide +kernel
theorem dX6_term_117 : decode cX6_term 117 = .ok (.lreturn, 1) := by decide +kernel
theorem dX6_term_118 : decode cX6_term 118 = .ok (.aload 4, 2) := by decide +kernel
theorem dX6_term_120 : decode cX6_term 120 = .ok (.iload_n 2, 1) := by decide +kernel
theorem dX6_term_121 : decode cX6_term 121 = .ok (.invokevirtual 163, 3) := by decide +kernel
theorem dX6_term_124 : decode cX6_term 124 = .ok (.i2l, 1) := by decide +kernel
theorem dX6_term_125 : decode cX6_term 125 = .ok (.lreturn, 1) := by decide +kernel
theorem dX6_isSlot_0 : decode cX6_isSlot 0 = .ok (.iload_n 0, 1) := by decide +kernel
theorem dX6_isSlot_1 : decode cX6_isSlot 1 = .ok (.ifCond .lt 13, 3) := by decide +kernel
theorem dX6_isSlot_4 : decode cX6_isSlot 4 = .ok (.iload_n 0, 1) := by decide +kernel
theorem dX6_isSlot_5 : decode cX6_isSlot 5 = .ok (.bipush 8, 2) := by decide +kernel
theorem dX6_isSlot_7 : decode cX6_isSlot 7 = .ok (.if_icmp .ge 7, 3) := by decide +kernel
theorem dX6_isSlot_10 : decode cX6_isSlot 10 = .ok (.iconst 1, 1) := by decide +kernel
theorem dX6_isSlot_11 : decode cX6_isSlot 11 = .ok (.goto 4, 3) := by decide +kernel
theorem dX6_isSlot_14 : decode cX6_isSlot 14 = .ok (.iconst 0, 1) := by decide +kernel
theorem dX6_isSlot_15 : decode cX6_isSlot 15 = .ok (.ireturn, 1) := by decide +kernel
theorem dX6_settle_0 : decode cX6_settle 0 = .ok (.aload_n 0, 1) := by decide +kernel
theorem dX6_settle_1 : decode cX6_settle 1 = .ok (.getfield 18, 3) := by decide +kernel
theorem dX6_settle_4 : decode cX6_settle 4 = .ok (.invokevirtual 135, 3) := by decide +kernel
theorem dX6_settle_7 : decode cX6_settle 7 = .ok (.ifCond .ne 6, 3) := by decide +kernel
theorem dX6_settle_10 : decode cX6_settle 10 = .ok (.bipush (-4), 2) := by decide +kernel
theorem dX6_settle_12 : decode cX6_settle 12 = .ok (.ireturn, 1) := by decide +kernel
theorem dX6_settle_13 : decode cX6_settle 13 = .ok (.aload_n 0, 1) := by decide +kernel
theorem dX6_settle_14 : decode cX6_settle 14 = .ok (.getfield 11, 3) := by decide +kernel
theorem dX6_settle_17 : decode cX6_settle 17 = .ok (.iload_n 1, 1) := by decide +kernel
theorem dX6_settle_18 : decode cX6_settle 18 = .ok (.aaload, 1) := by decide +kernel
theorem dX6_settle_19 : decode cX6_settle 19 = .ok (.aload_n 0, 1) := by decide +kernel
theorem dX6_settle_20 : decode cX6_settle 20 = .ok (.getfield 18, 3) := by decide +kernel
theorem dX6_settle_23 : decode cX6_settle 23 = .ok (.invokevirtual 138, 3) := by decide +kernel
theorem dX6_settle_26 : decode cX6_settle 26 = .ok (.aload_n 0, 1) := by decide +kernel
theorem dX6_settle_27 : decode cX6_settle 27 = .ok (.getfield 18, 3) := by decide +kernel
theorem dX6_settle_30 : decode cX6_settle 30 = .ok (.invokevirtual 111, 3) := by decide +kernel
theorem dX6_settle_33 : decode cX6_settle 33 = .ok (.ireturn, 1) := by decide +kernel
theorem dJ9_abs_0f7a4_0 : decode cJ9_abs_0f7a4 0 = .ok (.iload_n 0, 1) := by decide +kernel
theorem dJ9_abs_0f7a4_1 : decode cJ9_abs_0f7a4 1 = .ok (.ifCond .ge 8, 3) := by decide +kernel
theorem dJ9_abs_0f7a4_4 : decode cJ9_abs_0f7a4 4 = .ok (.iload_n 0, 1) := by decide +kernel
theorem dJ9_abs_0f7a4_5 : decode cJ9_abs_0f7a4 5 = .ok (.ineg, 1) := by decide +kernel
theorem dJ9_abs_0f7a4_6 : decode cJ9_abs_0f7a4 6 = .ok (.goto 4, 3) := by decide +kernel
theorem dJ9_abs_0f7a4_9 : decode cJ9_abs_0f7a4 9 = .ok (.iload_n 0, 1) := by decide +kernel
theorem dJ9_abs_0f7a4_10 : decode cJ9_abs_0f7a4 10 = .ok (.ireturn, 1) := by decide +kernel
theorem dJ9_abs_067f4_0 : decode cJ9_abs_067f4 0 = .ok (.lload_n 0, 1) := by decide +kernel
theorem dJ9_abs_067f4_1 : decode cJ9_abs_067f4 1 = .ok (.lconst 0, 1) := by decide +kernel
theorem dJ9_abs_067f4_2 : decode cJ9_abs_067f4 2 = .ok (.lcmp, 1) := by decide +kernel
theorem dJ9_abs_067f4_3 : decode cJ9_abs_067f4 3 = .ok (.ifCond .ge 8, 3) := by decide +kernel
theorem dJ9_abs_067f4_6 : decode cJ9_abs_067f4 6 = .ok (.lload_n 0, 1) := by decide +kernel
theorem dJ9_abs_067f4_7 : decode cJ9_abs_067f4 7 = .ok (.lneg, 1) := by decide +kernel
theorem dJ9_abs_067f4_8 : decode cJ9_abs_067f4 8 = .ok (.goto 4, 3) := by decide +kernel
theorem dJ9_abs_067f4_11 : decode cJ9_abs_067f4 11 = .ok (.lload_n 0, 1) := by decide +kernel
theorem dJ9_abs_067f4_12 : decode cJ9_abs_067f4 12 = .ok (.lreturn, 1) := by decide +kernel
theorem dJ9_max_7cf53_0 : decode cJ9_max_7cf53 0 = .ok (.iload_n 0, 1) := by decide +kernel
theorem dJ9_max_7cf53_1 : decode cJ9_max_7cf53 1 = .ok (.iload_n 1, 1) := by decide +kernel
theorem dJ9_max_7cf53_2 : decode cJ9_max_7cf53 2 = .ok (.if_icmp .lt 7, 3) := by decide +kernel
theorem dJ9_max_7cf53_5 : decode cJ9_max_7cf53 5 = .ok (.iload_n 0, 1) := by decide +kernel
theorem dJ9_max_7cf53_6 : decode cJ9_max_7cf53 6 = .ok (.goto 4, 3) := by decide +kernel
theorem dJ9_max_7cf53_9 : decode cJ9_max_7cf53 9 = .ok (.iload_n 1, 1) := by decide +kernel
theorem dJ9_max_7cf53_10 : decode cJ9_max_7cf53 10 = .ok (.ireturn, 1) := by decide +kernel
theorem dJ9_min_7cf53_0 : decode cJ9_min_7cf53 0 = .ok (.iload_n 0, 1) := by decide +kernel
theorem dJ9_min_7cf53_1 : decode cJ9_min_7cf53 1 = .ok (.iload_n 1, 1) := by decide +kernel
theorem dJ9_min_7cf53_2 : decode cJ9_min_7cf53 2 = .ok (.if_icmp .gt 7, 3) := by decide +kernel
theorem dJ9_min_7cf53_5 : decode cJ9_min_7cf53 5 = .ok (.iload_n 0, 1) := by decide +kernel
theorem dJ9_min_7cf53_6 : decode cJ9_min_7cf53 6 = .ok (.goto 4, 3) := by decide +kernel
theorem dJ9_min_7cf53_9 : decode cJ9_min_7cf53 9 = .ok (.iload_n 1, 1) := by decide +kernel
theorem dJ9_min_7cf53_10 : decode cJ9_min_7cf53 10 = .ok (.ireturn, 1) := by decide +kernel
