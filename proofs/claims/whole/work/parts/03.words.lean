theorem wi_1 : Cond.selects RX3 yX3_takes yX3_takes ∈ wd := wd_0 (List.mem_of_getElem? (i := 1) (by decide +kernel)) rfl
theorem wi_2 : Cond.selects RX3 yX3_next yX3_next ∈ wd := wd_0 (List.mem_of_getElem? (i := 2) (by decide +kernel)) rfl
theorem wi_3 : Cond.selects RX3 yX3_readTerm yX3_readTerm ∈ wd := wd_0 (List.mem_of_getElem? (i := 3) (by decide +kernel)) rfl
theorem wi_4 : Cond.selects RX3 yX3_readCoefficient yX3_readCoefficient ∈ wd := wd_0 (List.mem_of_getElem? (i := 4) (by decide +kernel)) rfl
theorem wi_5 : Cond.selects RX3 yX3_readNumber yX3_readNumber ∈ wd := wd_0 (List.mem_of_getElem? (i := 5) (by decide +kernel)) rfl
theorem wi_6 : Cond.selects RX3 yX3_refuse yX3_refuse ∈ wd := wd_0 (List.mem_of_getElem? (i := 6) (by decide +kernel)) rfl
theorem wi_7 : Cond.selects RX3 yX3_readPower yX3_readPower ∈ wd := wd_0 (List.mem_of_getElem? (i := 7) (by decide +kernel)) rfl
theorem wi_8 : Cond.selects RX3 yX3_readFunction yX3_readFunction ∈ wd := wd_0 (List.mem_of_getElem? (i := 8) (by decide +kernel)) rfl
theorem wi_9 : Cond.selects RX3 yX3_readLogPower yX3_readLogPower ∈ wd := wd_0 (List.mem_of_getElem? (i := 9) (by decide +kernel)) rfl
theorem wi_10 : Cond.selects RX3 yX3_expect yX3_expect ∈ wd := wd_0 (List.mem_of_getElem? (i := 10) (by decide +kernel)) rfl
theorem wi_11 : Cond.selects RX3 yX3_readMultiple yX3_readMultiple ∈ wd := wd_0 (List.mem_of_getElem? (i := 11) (by decide +kernel)) rfl
theorem wi_12 : Cond.selects RX3 yX3_addTerm yX3_addTerm ∈ wd := wd_0 (List.mem_of_getElem? (i := 12) (by decide +kernel)) rfl
theorem wi_13 : Cond.selects RX4 yX4_addUp yX4_addUp ∈ wd := wd_0 (List.mem_of_getElem? (i := 13) (by decide +kernel)) rfl
theorem wi_14 : Cond.selects RX4 yX4_placeFor yX4_placeFor ∈ wd := wd_0 (List.mem_of_getElem? (i := 14) (by decide +kernel)) rfl
theorem wi_15 : Cond.selects RX4 yX4_closeAt yX4_closeAt ∈ wd := wd_0 (List.mem_of_getElem? (i := 15) (by decide +kernel)) rfl
theorem wi_16 : Cond.selects RX4 yX4_openAt yX4_openAt ∈ wd := wd_0 (List.mem_of_getElem? (i := 16) (by decide +kernel)) rfl
theorem wi_17 : Cond.selects RX4 yX4_setReduced yX4_setReduced ∈ wd := wd_0 (List.mem_of_getElem? (i := 17) (by decide +kernel)) rfl
theorem wi_18 : Cond.selects RX4 yX4_isWithin yX4_isWithin ∈ wd := wd_0 (List.mem_of_getElem? (i := 18) (by decide +kernel)) rfl
theorem wi_19 : Cond.selects RX6 yX6_settle yX6_settle ∈ wd := wd_0 (List.mem_of_getElem? (i := 19) (by decide +kernel)) rfl
theorem wi_20 : Cond.selects RX5 yX5_writeTerm yX5_writeTerm ∈ wd := wd_0 (List.mem_of_getElem? (i := 20) (by decide +kernel)) rfl
theorem wi_21 : Cond.selects RX5 yX5_append yX5_append ∈ wd := wd_0 (List.mem_of_getElem? (i := 21) (by decide +kernel)) rfl
theorem wi_22 : Cond.selects RX5 yX5_writeCoefficient yX5_writeCoefficient ∈ wd := wd_0 (List.mem_of_getElem? (i := 22) (by decide +kernel)) rfl
theorem wi_23 : Cond.selects RX5 yX5_writeNumber yX5_writeNumber ∈ wd := wd_0 (List.mem_of_getElem? (i := 23) (by decide +kernel)) rfl
theorem wi_24 : Cond.selects RX5 yX5_writePower yX5_writePower ∈ wd := wd_0 (List.mem_of_getElem? (i := 24) (by decide +kernel)) rfl
theorem wi_25 : Cond.selects RX5 yX5_writeExponent yX5_writeExponent ∈ wd := wd_0 (List.mem_of_getElem? (i := 25) (by decide +kernel)) rfl
theorem wi_26 : Cond.selects RX5 yX5_writeFunction yX5_writeFunction ∈ wd := wd_0 (List.mem_of_getElem? (i := 26) (by decide +kernel)) rfl
theorem wi_27 : Cond.selects RX5 yX5_writeMultiple yX5_writeMultiple ∈ wd := wd_0 (List.mem_of_getElem? (i := 27) (by decide +kernel)) rfl
theorem wi_28 : Cond.selects RX7 yX7_putCell yX7_putCell ∈ wd := wd_0 (List.mem_of_getElem? (i := 28) (by decide +kernel)) rfl
theorem wi_29 : Cond.selects RX7 yX7_refused yX7_refused ∈ wd := wd_0 (List.mem_of_getElem? (i := 29) (by decide +kernel)) rfl
theorem wi_30 : Cond.selects RX7 yX7_empty yX7_empty ∈ wd := wd_0 (List.mem_of_getElem? (i := 30) (by decide +kernel)) rfl
theorem wi_31 : Cond.selects RX7 yX7_takes yX7_takes ∈ wd := wd_0 (List.mem_of_getElem? (i := 31) (by decide +kernel)) rfl
theorem wi_32 : Cond.selects RX7 yX7_next yX7_next ∈ wd := wd_0 (List.mem_of_getElem? (i := 32) (by decide +kernel)) rfl
theorem wi_33 : Cond.selects RX7 yX7_readTerm yX7_readTerm ∈ wd := wd_0 (List.mem_of_getElem? (i := 33) (by decide +kernel)) rfl
theorem wi_34 : Cond.selects RX7 yX7_readNumber yX7_readNumber ∈ wd := wd_0 (List.mem_of_getElem? (i := 34) (by decide +kernel)) rfl
theorem wi_35 : Cond.selects RX7 yX7_wrong yX7_wrong ∈ wd := wd_0 (List.mem_of_getElem? (i := 35) (by decide +kernel)) rfl
theorem wi_36 : Cond.selects RX7 yX7_want yX7_want ∈ wd := wd_0 (List.mem_of_getElem? (i := 36) (by decide +kernel)) rfl
theorem wi_37 : Cond.selects RX7 yX7_addTerm yX7_addTerm ∈ wd := wd_0 (List.mem_of_getElem? (i := 37) (by decide +kernel)) rfl
theorem wi_38 : Cond.selects RX7 yX7_checkAll yX7_checkAll ∈ wd := wd_0 (List.mem_of_getElem? (i := 38) (by decide +kernel)) rfl
theorem wi_39 : Cond.selects RX7 yX7_isOut yX7_isOut ∈ wd := wd_0 (List.mem_of_getElem? (i := 39) (by decide +kernel)) rfl
theorem wi_40 : Cond.selects RX7 yX7_finish yX7_finish ∈ wd := wd_0 (List.mem_of_getElem? (i := 40) (by decide +kernel)) rfl
theorem wi_41 : Cond.selects RX7 yX7_fits yX7_fits ∈ wd := wd_0 (List.mem_of_getElem? (i := 41) (by decide +kernel)) rfl
theorem wi_42 : Cond.selects RX7 yX7_termsOf yX7_termsOf ∈ wd := wd_0 (List.mem_of_getElem? (i := 42) (by decide +kernel)) rfl
theorem wi_43 : Cond.selects RX7 yX7_copy yX7_copy ∈ wd := wd_0 (List.mem_of_getElem? (i := 43) (by decide +kernel)) rfl
theorem wi_44 : Cond.selects RX7 yX7_putTerm yX7_putTerm ∈ wd := wd_0 (List.mem_of_getElem? (i := 44) (by decide +kernel)) rfl
theorem wi_45 : Cond.selects RX7 yX7_put yX7_put ∈ wd := wd_0 (List.mem_of_getElem? (i := 45) (by decide +kernel)) rfl
theorem wi_46 : Cond.selects RX7 yX7_putNumber yX7_putNumber ∈ wd := wd_0 (List.mem_of_getElem? (i := 46) (by decide +kernel)) rfl
theorem wi_47 : Cond.selects RX7 yX7_putFunction yX7_putFunction ∈ wd := wd_0 (List.mem_of_getElem? (i := 47) (by decide +kernel)) rfl
theorem wi_48 : Cond.selects RX7 yX7_isSmall yX7_isSmall ∈ wd := wd_0 (List.mem_of_getElem? (i := 48) (by decide +kernel)) rfl
theorem wi_49 : Cond.selects RX7 yX7_multiply yX7_multiply ∈ wd := wd_0 (List.mem_of_getElem? (i := 49) (by decide +kernel)) rfl
theorem wi_50 : Cond.selects RX7 yX7_integrateLog yX7_integrateLog ∈ wd := wd_0 (List.mem_of_getElem? (i := 50) (by decide +kernel)) rfl
theorem wi_51 : Cond.selects RX7 yX7_lay yX7_lay ∈ wd := wd_0 (List.mem_of_getElem? (i := 51) (by decide +kernel)) rfl
theorem wi_52 : Cond.selects RX7 yX7_scale yX7_scale ∈ wd := wd_0 (List.mem_of_getElem? (i := 52) (by decide +kernel)) rfl
theorem wi_53 : Cond.selects RX7 yX7_integrateOther yX7_integrateOther ∈ wd := wd_0 (List.mem_of_getElem? (i := 53) (by decide +kernel)) rfl
theorem wi_54 : Cond.initialized RL ∈ wd := wd_1 (List.mem_of_getElem? (i := 0) (by decide +kernel)) rfl
theorem wi_55 : Cond.initialized RX6 ∈ wd := wd_1 (List.mem_of_getElem? (i := 1) (by decide +kernel)) rfl
theorem wi_56 : Cond.initialized RX4 ∈ wd := wd_1 (List.mem_of_getElem? (i := 2) (by decide +kernel)) rfl
theorem wi_57 : Cond.initialized RX1 ∈ wd := wd_1 (List.mem_of_getElem? (i := 3) (by decide +kernel)) rfl
theorem wi_58 : Cond.initialized RX3 ∈ wd := wd_1 (List.mem_of_getElem? (i := 4) (by decide +kernel)) rfl
theorem wi_59 : Cond.initialized RX5 ∈ wd := wd_1 (List.mem_of_getElem? (i := 5) (by decide +kernel)) rfl
theorem wi_60 : Cond.initialized RX7 ∈ wd := wd_1 (List.mem_of_getElem? (i := 6) (by decide +kernel)) rfl
theorem wi_61 : Cond.initialized "java/lang/Throwable" ∈ wd := wd_1 (List.mem_of_getElem? (i := 7) (by decide +kernel)) rfl
theorem wi_62 : Cond.initialized "java/lang/Exception" ∈ wd := wd_1 (List.mem_of_getElem? (i := 8) (by decide +kernel)) rfl
theorem wi_63 : Cond.initialized "java/lang/RuntimeException" ∈ wd := wd_1 (List.mem_of_getElem? (i := 9) (by decide +kernel)) rfl
theorem wi_64 : Cond.initialized "java/lang/IllegalStateException" ∈ wd := wd_1 (List.mem_of_getElem? (i := 10) (by decide +kernel)) rfl
theorem wi_65 : Cond.initialized "java/lang/IllegalArgumentException" ∈ wd := wd_1 (List.mem_of_getElem? (i := 11) (by decide +kernel)) rfl
theorem wi_66 : Cond.initialized RJ9 ∈ wd := wd_1 (List.mem_of_getElem? (i := 12) (by decide +kernel)) rfl
theorem wi_67 : Cond.initialized RX2 ∈ wd := wd_1 (List.mem_of_getElem? (i := 13) (by decide +kernel)) rfl
theorem wi_68 : Cond.initialized RX0 ∈ wd := wd_1 (List.mem_of_getElem? (i := 14) (by decide +kernel)) rfl
theorem wi_69 : Cond.classLink RL 8 RX6 ∈ wd := wd_1 (List.mem_of_getElem? (i := 15) (by decide +kernel)) rfl
theorem wi_70 : Cond.instantiable RX6 6 ∈ wd := wd_1 (List.mem_of_getElem? (i := 16) (by decide +kernel)) rfl
theorem wi_71 : Cond.methodLink RL 49 yX6_init ∈ wd := wd_1 (List.mem_of_getElem? (i := 17) (by decide +kernel)) rfl
theorem wi_72 : Cond.instanceMethod yX6_init ∈ wd := wd_1 (List.mem_of_getElem? (i := 18) (by decide +kernel)) rfl
theorem wi_73 : Cond.code yX6_init cX6_init 2 none ∈ wd := wd_1 (List.mem_of_getElem? (i := 19) (rfl)) rfl
theorem wi_77 : Cond.classLink RX6 9 RX4 ∈ wd := wd_1 (List.mem_of_getElem? (i := 23) (by decide +kernel)) rfl
theorem wi_79 : Cond.instantiable RX4 6 ∈ wd := wd_1 (List.mem_of_getElem? (i := 25) (by decide +kernel)) rfl
theorem wi_80 : Cond.methodLink RX6 15 yX4_init ∈ wd := wd_1 (List.mem_of_getElem? (i := 26) (by decide +kernel)) rfl
theorem wi_81 : Cond.instanceMethod yX4_init ∈ wd := wd_1 (List.mem_of_getElem? (i := 27) (by decide +kernel)) rfl
theorem wi_82 : Cond.code yX4_init cX4_init 2 none ∈ wd := wd_1 (List.mem_of_getElem? (i := 28) (rfl)) rfl
theorem wi_84 : Cond.fieldLink RX4 9 "AntiDesk$Sum" "room" "I" ∈ wd := wd_1 (List.mem_of_getElem? (i := 30) (by decide +kernel)) rfl
theorem wi_85 : Cond.fieldLink RX4 15 "AntiDesk$Sum" "keys" "[I" ∈ wd := wd_1 (List.mem_of_getElem? (i := 31) (by decide +kernel)) rfl
theorem wi_86 : Cond.fieldLink RX4 19 "AntiDesk$Sum" "tops" "[J" ∈ wd := wd_1 (List.mem_of_getElem? (i := 32) (by decide +kernel)) rfl
theorem wi_87 : Cond.fieldLink RX4 23 "AntiDesk$Sum" "bottoms" "[J" ∈ wd := wd_1 (List.mem_of_getElem? (i := 33) (by decide +kernel)) rfl
theorem wi_88 : Cond.fieldLink RX4 26 "AntiDesk$Sum" "size" "I" ∈ wd := wd_1 (List.mem_of_getElem? (i := 34) (by decide +kernel)) rfl
theorem wi_89 : Cond.fieldLink RX4 29 "AntiDesk$Sum" "overflown" "Z" ∈ wd := wd_1 (List.mem_of_getElem? (i := 35) (by decide +kernel)) rfl
theorem wi_103 : Cond.arrayClass .int ∈ wd := wd_1 (List.mem_of_getElem? (i := 49) (by decide +kernel)) rfl
theorem wi_104 : Cond.arrayClass .long ∈ wd := wd_1 (List.mem_of_getElem? (i := 50) (by decide +kernel)) rfl
theorem wi_105 : Cond.classLink RX6 25 RX1 ∈ wd := wd_1 (List.mem_of_getElem? (i := 51) (by decide +kernel)) rfl
theorem wi_106 : Cond.instantiable RX1 2 ∈ wd := wd_1 (List.mem_of_getElem? (i := 52) (by decide +kernel)) rfl
theorem wi_108 : Cond.instanceMethod yX1_init ∈ wd := wd_1 (List.mem_of_getElem? (i := 54) (by decide +kernel)) rfl
theorem wi_109 : Cond.code yX1_init cX1_init 1 none ∈ wd := wd_1 (List.mem_of_getElem? (i := 55) (rfl)) rfl
theorem wi_111 : Cond.fieldLink RX1 9 "AntiDesk$Line" "characters" "[C" ∈ wd := wd_1 (List.mem_of_getElem? (i := 57) (by decide +kernel)) rfl
theorem wi_113 : Cond.fieldLink RX1 15 "AntiDesk$Line" "length" "I" ∈ wd := wd_1 (List.mem_of_getElem? (i := 59) (by decide +kernel)) rfl
theorem wi_120 : Cond.arrayClass .char ∈ wd := wd_1 (List.mem_of_getElem? (i := 66) (by decide +kernel)) rfl
theorem wi_121 : Cond.classLink RX6 32 RX3 ∈ wd := wd_1 (List.mem_of_getElem? (i := 67) (by decide +kernel)) rfl
theorem wi_122 : Cond.instantiable RX3 10 ∈ wd := wd_1 (List.mem_of_getElem? (i := 68) (by decide +kernel)) rfl
theorem wi_123 : Cond.methodLink RX6 34 yX3_init ∈ wd := wd_1 (List.mem_of_getElem? (i := 69) (by decide +kernel)) rfl
theorem wi_124 : Cond.instanceMethod yX3_init ∈ wd := wd_1 (List.mem_of_getElem? (i := 70) (by decide +kernel)) rfl
theorem wi_125 : Cond.code yX3_init cX3_init 3 none ∈ wd := wd_1 (List.mem_of_getElem? (i := 71) (rfl)) rfl
theorem wi_127 : Cond.fieldLink RX3 37 "AntiDesk$Reader" "line" "LAntiDesk$Line;" ∈ wd := wd_1 (List.mem_of_getElem? (i := 73) (by decide +kernel)) rfl
theorem wi_128 : Cond.fieldLink RX3 41 "AntiDesk$Reader" "sum" "LAntiDesk$Sum;" ∈ wd := wd_1 (List.mem_of_getElem? (i := 74) (by decide +kernel)) rfl
theorem wi_129 : Cond.fieldLink RX3 9 "AntiDesk$Reader" "at" "I" ∈ wd := wd_1 (List.mem_of_getElem? (i := 75) (by decide +kernel)) rfl
theorem wi_130 : Cond.fieldLink RX3 15 "AntiDesk$Reader" "fault" "I" ∈ wd := wd_1 (List.mem_of_getElem? (i := 76) (by decide +kernel)) rfl
theorem wi_131 : Cond.fieldLink RX3 18 "AntiDesk$Reader" "faultPlace" "I" ∈ wd := wd_1 (List.mem_of_getElem? (i := 77) (by decide +kernel)) rfl
theorem wi_132 : Cond.fieldLink RX3 21 "AntiDesk$Reader" "top" "J" ∈ wd := wd_1 (List.mem_of_getElem? (i := 78) (by decide +kernel)) rfl
theorem wi_133 : Cond.fieldLink RX3 25 "AntiDesk$Reader" "bottom" "J" ∈ wd := wd_1 (List.mem_of_getElem? (i := 79) (by decide +kernel)) rfl
theorem wi_134 : Cond.fieldLink RX3 28 "AntiDesk$Reader" "power" "I" ∈ wd := wd_1 (List.mem_of_getElem? (i := 80) (by decide +kernel)) rfl
theorem wi_135 : Cond.fieldLink RX3 31 "AntiDesk$Reader" "kind" "I" ∈ wd := wd_1 (List.mem_of_getElem? (i := 81) (by decide +kernel)) rfl
theorem wi_136 : Cond.fieldLink RX3 34 "AntiDesk$Reader" "argument" "I" ∈ wd := wd_1 (List.mem_of_getElem? (i := 82) (by decide +kernel)) rfl
theorem wi_158 : Cond.classLink RX6 41 RX5 ∈ wd := wd_1 (List.mem_of_getElem? (i := 104) (by decide +kernel)) rfl
theorem wi_159 : Cond.instantiable RX5 2 ∈ wd := wd_1 (List.mem_of_getElem? (i := 105) (by decide +kernel)) rfl
theorem wi_161 : Cond.instanceMethod yX5_init ∈ wd := wd_1 (List.mem_of_getElem? (i := 107) (by decide +kernel)) rfl
theorem wi_162 : Cond.code yX5_init cX5_init 1 none ∈ wd := wd_1 (List.mem_of_getElem? (i := 108) (rfl)) rfl
theorem wi_164 : Cond.fieldLink RX5 9 "AntiDesk$Writer" "characters" "[C" ∈ wd := wd_1 (List.mem_of_getElem? (i := 110) (by decide +kernel)) rfl
theorem wi_165 : Cond.fieldLink RX5 15 "AntiDesk$Writer" "length" "I" ∈ wd := wd_1 (List.mem_of_getElem? (i := 111) (by decide +kernel)) rfl
theorem wi_171 : Cond.fieldLink RX6 11 "AntiDesk" "slots" "[LAntiDesk$Sum;" ∈ wd := wd_1 (List.mem_of_getElem? (i := 117) (by decide +kernel)) rfl
theorem wi_172 : Cond.fieldLink RX6 18 "AntiDesk" "work" "LAntiDesk$Sum;" ∈ wd := wd_1 (List.mem_of_getElem? (i := 118) (by decide +kernel)) rfl
theorem wi_173 : Cond.fieldLink RX6 22 "AntiDesk" "left" "LAntiDesk$Sum;" ∈ wd := wd_1 (List.mem_of_getElem? (i := 119) (by decide +kernel)) rfl
theorem wi_174 : Cond.fieldLink RX6 28 "AntiDesk" "line" "LAntiDesk$Line;" ∈ wd := wd_1 (List.mem_of_getElem? (i := 120) (by decide +kernel)) rfl
theorem wi_175 : Cond.fieldLink RX6 37 "AntiDesk" "reader" "LAntiDesk$Reader;" ∈ wd := wd_1 (List.mem_of_getElem? (i := 121) (by decide +kernel)) rfl
theorem wi_176 : Cond.fieldLink RX6 44 "AntiDesk" "writer" "LAntiDesk$Writer;" ∈ wd := wd_1 (List.mem_of_getElem? (i := 122) (by decide +kernel)) rfl
theorem wi_190 : Cond.methodLink RL 63 yX6_erase ∈ wd := wd_1 (List.mem_of_getElem? (i := 136) (by decide +kernel)) rfl
theorem wi_191 : Cond.instanceMethod yX6_erase ∈ wd := wd_1 (List.mem_of_getElem? (i := 137) (by decide +kernel)) rfl
theorem wi_192 : Cond.selects RX6 yX6_erase yX6_erase ∈ wd := wd_1 (List.mem_of_getElem? (i := 138) (by decide +kernel)) rfl
theorem wi_193 : Cond.code yX6_erase cX6_erase 2 (some .int) ∈ wd := wd_1 (List.mem_of_getElem? (i := 139) (rfl)) rfl
theorem wi_194 : Cond.methodLink RX6 52 yX1_length ∈ wd := wd_1 (List.mem_of_getElem? (i := 140) (by decide +kernel)) rfl
theorem wi_195 : Cond.instanceMethod yX1_length ∈ wd := wd_1 (List.mem_of_getElem? (i := 141) (by decide +kernel)) rfl
theorem wi_196 : Cond.selects RX1 yX1_length yX1_length ∈ wd := wd_1 (List.mem_of_getElem? (i := 142) (by decide +kernel)) rfl
theorem wi_197 : Cond.code yX1_length cX1_length 1 (some .int) ∈ wd := wd_1 (List.mem_of_getElem? (i := 143) (rfl)) rfl
theorem wi_198 : Cond.methodLink RX6 66 yX1_clear ∈ wd := wd_1 (List.mem_of_getElem? (i := 144) (by decide +kernel)) rfl
theorem wi_199 : Cond.instanceMethod yX1_clear ∈ wd := wd_1 (List.mem_of_getElem? (i := 145) (by decide +kernel)) rfl
theorem wi_200 : Cond.selects RX1 yX1_clear yX1_clear ∈ wd := wd_1 (List.mem_of_getElem? (i := 146) (by decide +kernel)) rfl
theorem wi_201 : Cond.code yX1_clear cX1_clear 1 none ∈ wd := wd_1 (List.mem_of_getElem? (i := 147) (rfl)) rfl
theorem wi_202 : Cond.methodLink RL 71 yX6_place ∈ wd := wd_1 (List.mem_of_getElem? (i := 148) (by decide +kernel)) rfl
theorem wi_203 : Cond.instanceMethod yX6_place ∈ wd := wd_1 (List.mem_of_getElem? (i := 149) (by decide +kernel)) rfl
theorem wi_204 : Cond.selects RX6 yX6_place yX6_place ∈ wd := wd_1 (List.mem_of_getElem? (i := 150) (by decide +kernel)) rfl
theorem wi_205 : Cond.code yX6_place cX6_place 1 (some .int) ∈ wd := wd_1 (List.mem_of_getElem? (i := 151) (rfl)) rfl
theorem wi_206 : Cond.methodLink RX6 84 yX3_faultPlace ∈ wd := wd_1 (List.mem_of_getElem? (i := 152) (by decide +kernel)) rfl
theorem wi_207 : Cond.instanceMethod yX3_faultPlace ∈ wd := wd_1 (List.mem_of_getElem? (i := 153) (by decide +kernel)) rfl
theorem wi_208 : Cond.selects RX3 yX3_faultPlace yX3_faultPlace ∈ wd := wd_1 (List.mem_of_getElem? (i := 154) (by decide +kernel)) rfl
theorem wi_209 : Cond.code yX3_faultPlace cX3_faultPlace 1 (some .int) ∈ wd := wd_1 (List.mem_of_getElem? (i := 155) (rfl)) rfl
theorem wi_210 : Cond.methodLink RL 78 yX6_output ∈ wd := wd_1 (List.mem_of_getElem? (i := 156) (by decide +kernel)) rfl
theorem wi_211 : Cond.instanceMethod yX6_output ∈ wd := wd_1 (List.mem_of_getElem? (i := 157) (by decide +kernel)) rfl
theorem wi_212 : Cond.selects RX6 yX6_output yX6_output ∈ wd := wd_1 (List.mem_of_getElem? (i := 158) (by decide +kernel)) rfl
theorem wi_213 : Cond.code yX6_output cX6_output 2 (some .char) ∈ wd := wd_1 (List.mem_of_getElem? (i := 159) (rfl)) rfl
theorem wi_214 : Cond.methodLink RX6 92 yX5_charAt ∈ wd := wd_1 (List.mem_of_getElem? (i := 160) (by decide +kernel)) rfl
theorem wi_215 : Cond.instanceMethod yX5_charAt ∈ wd := wd_1 (List.mem_of_getElem? (i := 161) (by decide +kernel)) rfl
theorem wi_216 : Cond.selects RX5 yX5_charAt yX5_charAt ∈ wd := wd_1 (List.mem_of_getElem? (i := 162) (by decide +kernel)) rfl
theorem wi_217 : Cond.code yX5_charAt cX5_charAt 2 (some .char) ∈ wd := wd_1 (List.mem_of_getElem? (i := 163) (rfl)) rfl
theorem wi_218 : Cond.methodLink RL 53 yL_type ∈ wd := wd_1 (List.mem_of_getElem? (i := 164) (by decide +kernel)) rfl
theorem wi_219 : Cond.static yL_type ∈ wd := wd_1 (List.mem_of_getElem? (i := 165) (by decide +kernel)) rfl
theorem wi_221 : Cond.classLink RL 13 "java/lang/IllegalStateException" ∈ wd := wd_1 (List.mem_of_getElem? (i := 167) (by decide +kernel)) rfl
theorem wi_222 : Cond.methodLink RL 7 yX6_type ∈ wd := wd_1 (List.mem_of_getElem? (i := 168) (by decide +kernel)) rfl
theorem wi_223 : Cond.instanceMethod yX6_type ∈ wd := wd_1 (List.mem_of_getElem? (i := 169) (by decide +kernel)) rfl
theorem wi_224 : Cond.selects RX6 yX6_type yX6_type ∈ wd := wd_1 (List.mem_of_getElem? (i := 170) (by decide +kernel)) rfl
theorem wi_225 : Cond.code yX6_type cX6_type 7 (some .int) ∈ wd := wd_1 (List.mem_of_getElem? (i := 171) (rfl)) rfl
theorem wi_226 : Cond.methodLink RX6 48 yX1_charactersIn ∈ wd := wd_1 (List.mem_of_getElem? (i := 172) (by decide +kernel)) rfl
theorem wi_227 : Cond.static yX1_charactersIn ∈ wd := wd_1 (List.mem_of_getElem? (i := 173) (by decide +kernel)) rfl
theorem wi_228 : Cond.code yX1_charactersIn cX1_charactersIn 3 (some .int) ∈ wd := wd_1 (List.mem_of_getElem? (i := 174) (rfl)) rfl
theorem wi_229 : Cond.classLink RX6 56 "java/lang/IllegalStateException" ∈ wd := wd_1 (List.mem_of_getElem? (i := 175) (by decide +kernel)) rfl
theorem wi_230 : Cond.instantiable "java/lang/IllegalStateException" 6 ∈ wd := wd_1 (List.mem_of_getElem? (i := 176) (by decide +kernel)) rfl
theorem wi_250 : Cond.fieldLink "java/lang/Throwable" 198 "java/lang/Throwable" "backtrace" "Ljava/lang/Object;" ∈ wd := wd_1 (List.mem_of_getElem? (i := 196) (by decide +kernel)) rfl
theorem wi_255 : Cond.fieldLink "java/lang/Throwable" 13 "java/lang/Throwable" "UNASSIGNED_STACK" "[Ljava/lang/StackTraceElement;" ∈ wd := wd_1 (List.mem_of_getElem? (i := 201) (by decide +kernel)) rfl
theorem wi_257 : Cond.fieldLink "java/lang/Throwable" 20 "java/lang/Throwable" "SUPPRESSED_SENTINEL" "Ljava/util/List;" ∈ wd := wd_1 (List.mem_of_getElem? (i := 203) (by decide +kernel)) rfl
theorem wi_267 : Cond.instantiable "java/lang/Throwable" 6 ∈ wd := wd_1 (List.mem_of_getElem? (i := 213) (by decide +kernel)) rfl
theorem wi_282 : Cond.fieldLink "java/lang/Throwable" 198 "java/lang/Throwable" "backtrace" "Ljava/lang/Object;" ∈ wd := wd_1 (List.mem_of_getElem? (i := 228) (by decide +kernel)) rfl
theorem wi_283 : Cond.fieldLink "java/lang/Throwable" 31 "java/lang/Throwable" "detailMessage" "Ljava/lang/String;" ∈ wd := wd_1 (List.mem_of_getElem? (i := 229) (by decide +kernel)) rfl
theorem wi_284 : Cond.fieldLink "java/lang/Throwable" 7 "java/lang/Throwable" "cause" "Ljava/lang/Throwable;" ∈ wd := wd_1 (List.mem_of_getElem? (i := 230) (by decide +kernel)) rfl
theorem wi_285 : Cond.fieldLink "java/lang/Throwable" 17 "java/lang/Throwable" "stackTrace" "[Ljava/lang/StackTraceElement;" ∈ wd := wd_1 (List.mem_of_getElem? (i := 231) (by decide +kernel)) rfl
theorem wi_286 : Cond.fieldLink "java/lang/Throwable" 24 "java/lang/Throwable" "suppressedExceptions" "Ljava/util/List;" ∈ wd := wd_1 (List.mem_of_getElem? (i := 232) (by decide +kernel)) rfl
theorem wi_295 : Cond.arrayClass .byte ∈ wd := wd_2 (List.mem_of_getElem? (i := 1) (by decide +kernel)) rfl
theorem wi_296 : Cond.methodLink RX6 63 yX1_append ∈ wd := wd_2 (List.mem_of_getElem? (i := 2) (by decide +kernel)) rfl
theorem wi_297 : Cond.instanceMethod yX1_append ∈ wd := wd_2 (List.mem_of_getElem? (i := 3) (by decide +kernel)) rfl
theorem wi_298 : Cond.selects RX1 yX1_append yX1_append ∈ wd := wd_2 (List.mem_of_getElem? (i := 4) (by decide +kernel)) rfl
theorem wi_299 : Cond.code yX1_append cX1_append 4 none ∈ wd := wd_2 (List.mem_of_getElem? (i := 5) (rfl)) rfl
theorem wi_300 : Cond.methodLink RL 67 yL_read ∈ wd := wd_2 (List.mem_of_getElem? (i := 6) (by decide +kernel)) rfl
theorem wi_301 : Cond.static yL_read ∈ wd := wd_2 (List.mem_of_getElem? (i := 7) (by decide +kernel)) rfl
theorem wi_303 : Cond.classLink RL 19 "java/lang/IllegalArgumentException" ∈ wd := wd_2 (List.mem_of_getElem? (i := 9) (by decide +kernel)) rfl
theorem wi_304 : Cond.methodLink RL 15 yX6_read ∈ wd := wd_2 (List.mem_of_getElem? (i := 10) (by decide +kernel)) rfl
theorem wi_305 : Cond.instanceMethod yX6_read ∈ wd := wd_2 (List.mem_of_getElem? (i := 11) (by decide +kernel)) rfl
theorem wi_306 : Cond.selects RX6 yX6_read yX6_read ∈ wd := wd_2 (List.mem_of_getElem? (i := 12) (by decide +kernel)) rfl
theorem wi_307 : Cond.code yX6_read cX6_read 3 (some .int) ∈ wd := wd_2 (List.mem_of_getElem? (i := 13) (rfl)) rfl
theorem wi_308 : Cond.methodLink RX6 69 yX6_isSlot ∈ wd := wd_2 (List.mem_of_getElem? (i := 14) (by decide +kernel)) rfl
theorem wi_309 : Cond.static yX6_isSlot ∈ wd := wd_2 (List.mem_of_getElem? (i := 15) (by decide +kernel)) rfl
theorem wi_310 : Cond.code yX6_isSlot cX6_isSlot 1 (some .boolean) ∈ wd := wd_2 (List.mem_of_getElem? (i := 16) (rfl)) rfl
theorem wi_311 : Cond.classLink RX6 73 "java/lang/IllegalArgumentException" ∈ wd := wd_2 (List.mem_of_getElem? (i := 17) (by decide +kernel)) rfl
theorem wi_312 : Cond.instantiable "java/lang/IllegalArgumentException" 6 ∈ wd := wd_2 (List.mem_of_getElem? (i := 18) (by decide +kernel)) rfl
theorem wi_327 : Cond.methodLink RX6 78 yX3_readLine ∈ wd := wd_2 (List.mem_of_getElem? (i := 33) (by decide +kernel)) rfl
theorem wi_328 : Cond.instanceMethod yX3_readLine ∈ wd := wd_2 (List.mem_of_getElem? (i := 34) (by decide +kernel)) rfl
theorem wi_329 : Cond.selects RX3 yX3_readLine yX3_readLine ∈ wd := wd_2 (List.mem_of_getElem? (i := 35) (by decide +kernel)) rfl
theorem wi_330 : Cond.code yX3_readLine cX3_readLine 4 (some .int) ∈ wd := wd_2 (List.mem_of_getElem? (i := 36) (rfl)) rfl
theorem wi_331 : Cond.methodLink RX3 45 yX4_clear ∈ wd := wd_2 (List.mem_of_getElem? (i := 37) (by decide +kernel)) rfl
theorem wi_332 : Cond.instanceMethod yX4_clear ∈ wd := wd_2 (List.mem_of_getElem? (i := 38) (by decide +kernel)) rfl
theorem wi_333 : Cond.selects RX4 yX4_clear yX4_clear ∈ wd := wd_2 (List.mem_of_getElem? (i := 39) (by decide +kernel)) rfl
theorem wi_334 : Cond.code yX4_clear cX4_clear 1 none ∈ wd := wd_2 (List.mem_of_getElem? (i := 40) (rfl)) rfl
theorem wi_335 : Cond.methodLink RX3 50 yX3_takes ∈ wd := wd_2 (List.mem_of_getElem? (i := 41) (by decide +kernel)) rfl
theorem wi_337 : Cond.instanceMethod yX3_takes ∈ wd := wd_2 (List.mem_of_getElem? (i := 43) (by decide +kernel)) rfl
theorem wi_338 : Cond.code yX3_takes cX3_takes 2 (some .boolean) ∈ wd := wd_2 (List.mem_of_getElem? (i := 44) (rfl)) rfl
theorem wi_339 : Cond.methodLink RX3 62 yX3_next ∈ wd := wd_2 (List.mem_of_getElem? (i := 45) (by decide +kernel)) rfl
theorem wi_341 : Cond.instanceMethod yX3_next ∈ wd := wd_2 (List.mem_of_getElem? (i := 47) (by decide +kernel)) rfl
theorem wi_342 : Cond.code yX3_next cX3_next 1 (some .char) ∈ wd := wd_2 (List.mem_of_getElem? (i := 48) (rfl)) rfl
theorem wi_343 : Cond.methodLink RX3 54 yX3_readTerm ∈ wd := wd_2 (List.mem_of_getElem? (i := 49) (by decide +kernel)) rfl
theorem wi_345 : Cond.instanceMethod yX3_readTerm ∈ wd := wd_2 (List.mem_of_getElem? (i := 51) (by decide +kernel)) rfl
theorem wi_346 : Cond.code yX3_readTerm cX3_readTerm 3 (some .boolean) ∈ wd := wd_2 (List.mem_of_getElem? (i := 52) (rfl)) rfl
theorem wi_347 : Cond.methodLink RX3 77 yX3_readCoefficient ∈ wd := wd_2 (List.mem_of_getElem? (i := 53) (by decide +kernel)) rfl
theorem wi_349 : Cond.instanceMethod yX3_readCoefficient ∈ wd := wd_2 (List.mem_of_getElem? (i := 55) (by decide +kernel)) rfl
theorem wi_350 : Cond.code yX3_readCoefficient cX3_readCoefficient 2 (some .boolean) ∈ wd := wd_2 (List.mem_of_getElem? (i := 56) (rfl)) rfl
theorem wi_351 : Cond.methodLink RX3 86 yX3_isDigit ∈ wd := wd_2 (List.mem_of_getElem? (i := 57) (by decide +kernel)) rfl
theorem wi_352 : Cond.static yX3_isDigit ∈ wd := wd_2 (List.mem_of_getElem? (i := 58) (by decide +kernel)) rfl
theorem wi_353 : Cond.code yX3_isDigit cX3_isDigit 1 (some .boolean) ∈ wd := wd_2 (List.mem_of_getElem? (i := 59) (rfl)) rfl
theorem wi_354 : Cond.methodLink RX3 89 yX3_readNumber ∈ wd := wd_2 (List.mem_of_getElem? (i := 60) (by decide +kernel)) rfl
theorem wi_356 : Cond.instanceMethod yX3_readNumber ∈ wd := wd_2 (List.mem_of_getElem? (i := 62) (by decide +kernel)) rfl
theorem wi_357 : Cond.code yX3_readNumber cX3_readNumber 6 (some .int) ∈ wd := wd_2 (List.mem_of_getElem? (i := 63) (rfl)) rfl
theorem wi_358 : Cond.methodLink RX3 66 yX3_refuse ∈ wd := wd_2 (List.mem_of_getElem? (i := 64) (by decide +kernel)) rfl
theorem wi_360 : Cond.instanceMethod yX3_refuse ∈ wd := wd_2 (List.mem_of_getElem? (i := 66) (by decide +kernel)) rfl
theorem wi_361 : Cond.code yX3_refuse cX3_refuse 3 (some .boolean) ∈ wd := wd_2 (List.mem_of_getElem? (i := 67) (rfl)) rfl
theorem wi_362 : Cond.methodLink RX3 102 yX1_charAt ∈ wd := wd_2 (List.mem_of_getElem? (i := 68) (by decide +kernel)) rfl
theorem wi_363 : Cond.instanceMethod yX1_charAt ∈ wd := wd_2 (List.mem_of_getElem? (i := 69) (by decide +kernel)) rfl
theorem wi_364 : Cond.selects RX1 yX1_charAt yX1_charAt ∈ wd := wd_2 (List.mem_of_getElem? (i := 70) (by decide +kernel)) rfl
theorem wi_365 : Cond.code yX1_charAt cX1_charAt 2 (some .char) ∈ wd := wd_2 (List.mem_of_getElem? (i := 71) (rfl)) rfl
theorem wi_366 : Cond.methodLink RX3 80 yX3_readPower ∈ wd := wd_2 (List.mem_of_getElem? (i := 72) (by decide +kernel)) rfl
theorem wi_368 : Cond.instanceMethod yX3_readPower ∈ wd := wd_2 (List.mem_of_getElem? (i := 74) (by decide +kernel)) rfl
theorem wi_369 : Cond.code yX3_readPower cX3_readPower 3 (some .boolean) ∈ wd := wd_2 (List.mem_of_getElem? (i := 75) (rfl)) rfl
theorem wi_370 : Cond.methodLink RX3 83 yX3_readFunction ∈ wd := wd_2 (List.mem_of_getElem? (i := 76) (by decide +kernel)) rfl
theorem wi_372 : Cond.instanceMethod yX3_readFunction ∈ wd := wd_2 (List.mem_of_getElem? (i := 78) (by decide +kernel)) rfl
theorem wi_373 : Cond.code yX3_readFunction cX3_readFunction 1 (some .boolean) ∈ wd := wd_2 (List.mem_of_getElem? (i := 79) (rfl)) rfl
theorem wi_374 : Cond.methodLink RX3 93 yX3_readLogPower ∈ wd := wd_2 (List.mem_of_getElem? (i := 80) (by decide +kernel)) rfl
theorem wi_376 : Cond.instanceMethod yX3_readLogPower ∈ wd := wd_2 (List.mem_of_getElem? (i := 82) (by decide +kernel)) rfl
theorem wi_377 : Cond.code yX3_readLogPower cX3_readLogPower 1 (some .boolean) ∈ wd := wd_2 (List.mem_of_getElem? (i := 83) (rfl)) rfl
theorem wi_378 : Cond.methodLink RX3 96 yX3_expect ∈ wd := wd_2 (List.mem_of_getElem? (i := 84) (by decide +kernel)) rfl
theorem wi_380 : Cond.instanceMethod yX3_expect ∈ wd := wd_2 (List.mem_of_getElem? (i := 86) (by decide +kernel)) rfl
theorem wi_381 : Cond.code yX3_expect cX3_expect 2 (some .boolean) ∈ wd := wd_2 (List.mem_of_getElem? (i := 87) (rfl)) rfl
theorem wi_382 : Cond.methodLink RX3 99 yX3_readMultiple ∈ wd := wd_2 (List.mem_of_getElem? (i := 88) (by decide +kernel)) rfl
theorem wi_384 : Cond.instanceMethod yX3_readMultiple ∈ wd := wd_2 (List.mem_of_getElem? (i := 90) (by decide +kernel)) rfl
theorem wi_385 : Cond.code yX3_readMultiple cX3_readMultiple 3 (some .boolean) ∈ wd := wd_2 (List.mem_of_getElem? (i := 91) (rfl)) rfl
theorem wi_386 : Cond.methodLink RX3 58 yX3_addTerm ∈ wd := wd_2 (List.mem_of_getElem? (i := 92) (by decide +kernel)) rfl
theorem wi_388 : Cond.instanceMethod yX3_addTerm ∈ wd := wd_2 (List.mem_of_getElem? (i := 94) (by decide +kernel)) rfl
theorem wi_389 : Cond.code yX3_addTerm cX3_addTerm 1 (some .boolean) ∈ wd := wd_2 (List.mem_of_getElem? (i := 95) (rfl)) rfl
theorem wi_390 : Cond.methodLink RX3 70 yX4_put ∈ wd := wd_2 (List.mem_of_getElem? (i := 96) (by decide +kernel)) rfl
theorem wi_391 : Cond.instanceMethod yX4_put ∈ wd := wd_2 (List.mem_of_getElem? (i := 97) (by decide +kernel)) rfl
theorem wi_392 : Cond.selects RX4 yX4_put yX4_put ∈ wd := wd_2 (List.mem_of_getElem? (i := 98) (by decide +kernel)) rfl
theorem wi_393 : Cond.code yX4_put cX4_put 9 none ∈ wd := wd_2 (List.mem_of_getElem? (i := 99) (rfl)) rfl
theorem wi_394 : Cond.methodLink RX4 37 yX4_keyOf ∈ wd := wd_2 (List.mem_of_getElem? (i := 100) (by decide +kernel)) rfl
theorem wi_395 : Cond.static yX4_keyOf ∈ wd := wd_2 (List.mem_of_getElem? (i := 101) (by decide +kernel)) rfl
theorem wi_396 : Cond.code yX4_keyOf cX4_keyOf 3 (some .int) ∈ wd := wd_2 (List.mem_of_getElem? (i := 102) (rfl)) rfl
theorem wi_397 : Cond.methodLink RX4 41 yX4_addUp ∈ wd := wd_2 (List.mem_of_getElem? (i := 103) (by decide +kernel)) rfl
theorem wi_399 : Cond.instanceMethod yX4_addUp ∈ wd := wd_2 (List.mem_of_getElem? (i := 105) (by decide +kernel)) rfl
theorem wi_400 : Cond.code yX4_addUp cX4_addUp 12 none ∈ wd := wd_2 (List.mem_of_getElem? (i := 106) (rfl)) rfl
theorem wi_401 : Cond.methodLink RX4 45 yX4_placeFor ∈ wd := wd_2 (List.mem_of_getElem? (i := 107) (by decide +kernel)) rfl
theorem wi_403 : Cond.instanceMethod yX4_placeFor ∈ wd := wd_2 (List.mem_of_getElem? (i := 109) (by decide +kernel)) rfl
theorem wi_404 : Cond.code yX4_placeFor cX4_placeFor 3 (some .int) ∈ wd := wd_2 (List.mem_of_getElem? (i := 110) (rfl)) rfl
theorem wi_405 : Cond.methodLink RX4 49 yX4_closeAt ∈ wd := wd_2 (List.mem_of_getElem? (i := 111) (by decide +kernel)) rfl
theorem wi_407 : Cond.instanceMethod yX4_closeAt ∈ wd := wd_2 (List.mem_of_getElem? (i := 113) (by decide +kernel)) rfl
theorem wi_408 : Cond.code yX4_closeAt cX4_closeAt 3 none ∈ wd := wd_2 (List.mem_of_getElem? (i := 114) (rfl)) rfl
theorem wi_409 : Cond.methodLink RX4 53 yX4_openAt ∈ wd := wd_2 (List.mem_of_getElem? (i := 115) (by decide +kernel)) rfl
theorem wi_411 : Cond.instanceMethod yX4_openAt ∈ wd := wd_2 (List.mem_of_getElem? (i := 117) (by decide +kernel)) rfl
theorem wi_412 : Cond.code yX4_openAt cX4_openAt 3 (some .boolean) ∈ wd := wd_2 (List.mem_of_getElem? (i := 118) (rfl)) rfl
theorem wi_413 : Cond.methodLink RX4 56 yX4_setReduced ∈ wd := wd_2 (List.mem_of_getElem? (i := 119) (by decide +kernel)) rfl
theorem wi_415 : Cond.instanceMethod yX4_setReduced ∈ wd := wd_2 (List.mem_of_getElem? (i := 121) (by decide +kernel)) rfl
theorem wi_416 : Cond.code yX4_setReduced cX4_setReduced 10 none ∈ wd := wd_2 (List.mem_of_getElem? (i := 122) (rfl)) rfl
theorem wi_417 : Cond.methodLink RX4 59 yJ9_abs_067f4 ∈ wd := wd_2 (List.mem_of_getElem? (i := 123) (by decide +kernel)) rfl
theorem wi_418 : Cond.static yJ9_abs_067f4 ∈ wd := wd_2 (List.mem_of_getElem? (i := 124) (by decide +kernel)) rfl
theorem wi_419 : Cond.code yJ9_abs_067f4 cJ9_abs_067f4 2 (some .long) ∈ wd := wd_2 (List.mem_of_getElem? (i := 125) (rfl)) rfl
theorem wi_420 : Cond.methodLink RX4 65 yX4_commonDivisor ∈ wd := wd_2 (List.mem_of_getElem? (i := 126) (by decide +kernel)) rfl
theorem wi_421 : Cond.static yX4_commonDivisor ∈ wd := wd_2 (List.mem_of_getElem? (i := 127) (by decide +kernel)) rfl
theorem wi_422 : Cond.code yX4_commonDivisor cX4_commonDivisor 7 (some .long) ∈ wd := wd_2 (List.mem_of_getElem? (i := 128) (rfl)) rfl
theorem wi_423 : Cond.methodLink RX3 74 yX4_fits ∈ wd := wd_2 (List.mem_of_getElem? (i := 129) (by decide +kernel)) rfl
theorem wi_424 : Cond.instanceMethod yX4_fits ∈ wd := wd_2 (List.mem_of_getElem? (i := 130) (by decide +kernel)) rfl
theorem wi_425 : Cond.selects RX4 yX4_fits yX4_fits ∈ wd := wd_2 (List.mem_of_getElem? (i := 131) (by decide +kernel)) rfl
theorem wi_426 : Cond.code yX4_fits cX4_fits 1 (some .boolean) ∈ wd := wd_2 (List.mem_of_getElem? (i := 132) (rfl)) rfl
theorem wi_427 : Cond.constantLong RX4 69 (10000000000) ∈ wd := wd_2 (List.mem_of_getElem? (i := 133) (by decide +kernel)) rfl
theorem wi_428 : Cond.constantLong RX4 71 (100000) ∈ wd := wd_2 (List.mem_of_getElem? (i := 134) (by decide +kernel)) rfl
theorem wi_429 : Cond.methodLink RX4 73 yX4_isWithin ∈ wd := wd_2 (List.mem_of_getElem? (i := 135) (by decide +kernel)) rfl
theorem wi_431 : Cond.instanceMethod yX4_isWithin ∈ wd := wd_2 (List.mem_of_getElem? (i := 137) (by decide +kernel)) rfl
theorem wi_432 : Cond.code yX4_isWithin cX4_isWithin 8 (some .boolean) ∈ wd := wd_2 (List.mem_of_getElem? (i := 138) (rfl)) rfl
theorem wi_433 : Cond.methodLink RX4 81 yX4_powerAt ∈ wd := wd_2 (List.mem_of_getElem? (i := 139) (by decide +kernel)) rfl
theorem wi_434 : Cond.instanceMethod yX4_powerAt ∈ wd := wd_2 (List.mem_of_getElem? (i := 140) (by decide +kernel)) rfl
theorem wi_435 : Cond.selects RX4 yX4_powerAt yX4_powerAt ∈ wd := wd_2 (List.mem_of_getElem? (i := 141) (by decide +kernel)) rfl
theorem wi_436 : Cond.code yX4_powerAt cX4_powerAt 2 (some .int) ∈ wd := wd_2 (List.mem_of_getElem? (i := 142) (rfl)) rfl
theorem wi_437 : Cond.methodLink RX4 33 yX4_has ∈ wd := wd_2 (List.mem_of_getElem? (i := 143) (by decide +kernel)) rfl
theorem wi_438 : Cond.instanceMethod yX4_has ∈ wd := wd_2 (List.mem_of_getElem? (i := 144) (by decide +kernel)) rfl
theorem wi_439 : Cond.selects RX4 yX4_has yX4_has ∈ wd := wd_2 (List.mem_of_getElem? (i := 145) (by decide +kernel)) rfl
theorem wi_440 : Cond.code yX4_has cX4_has 2 (some .boolean) ∈ wd := wd_2 (List.mem_of_getElem? (i := 146) (rfl)) rfl
theorem wi_441 : Cond.methodLink RX4 84 yJ9_abs_0f7a4 ∈ wd := wd_2 (List.mem_of_getElem? (i := 147) (by decide +kernel)) rfl
theorem wi_442 : Cond.static yJ9_abs_0f7a4 ∈ wd := wd_2 (List.mem_of_getElem? (i := 148) (by decide +kernel)) rfl
theorem wi_443 : Cond.code yJ9_abs_0f7a4 cJ9_abs_0f7a4 1 (some .int) ∈ wd := wd_2 (List.mem_of_getElem? (i := 149) (rfl)) rfl
theorem wi_444 : Cond.methodLink RX4 86 yX4_argumentAt ∈ wd := wd_2 (List.mem_of_getElem? (i := 150) (by decide +kernel)) rfl
theorem wi_445 : Cond.instanceMethod yX4_argumentAt ∈ wd := wd_2 (List.mem_of_getElem? (i := 151) (by decide +kernel)) rfl
theorem wi_446 : Cond.selects RX4 yX4_argumentAt yX4_argumentAt ∈ wd := wd_2 (List.mem_of_getElem? (i := 152) (by decide +kernel)) rfl
theorem wi_447 : Cond.code yX4_argumentAt cX4_argumentAt 2 (some .int) ∈ wd := wd_2 (List.mem_of_getElem? (i := 153) (rfl)) rfl
theorem wi_448 : Cond.methodLink RX6 81 yX6_settle ∈ wd := wd_2 (List.mem_of_getElem? (i := 154) (by decide +kernel)) rfl
theorem wi_450 : Cond.instanceMethod yX6_settle ∈ wd := wd_2 (List.mem_of_getElem? (i := 156) (by decide +kernel)) rfl
theorem wi_451 : Cond.code yX6_settle cX6_settle 2 (some .int) ∈ wd := wd_2 (List.mem_of_getElem? (i := 157) (rfl)) rfl
theorem wi_452 : Cond.methodLink RX6 135 yX4_fits ∈ wd := wd_2 (List.mem_of_getElem? (i := 158) (by decide +kernel)) rfl
theorem wi_453 : Cond.methodLink RX6 138 yX4_become ∈ wd := wd_2 (List.mem_of_getElem? (i := 159) (by decide +kernel)) rfl
theorem wi_454 : Cond.instanceMethod yX4_become ∈ wd := wd_2 (List.mem_of_getElem? (i := 160) (by decide +kernel)) rfl
theorem wi_455 : Cond.selects RX4 yX4_become yX4_become ∈ wd := wd_2 (List.mem_of_getElem? (i := 161) (by decide +kernel)) rfl
theorem wi_456 : Cond.code yX4_become cX4_become 3 none ∈ wd := wd_2 (List.mem_of_getElem? (i := 162) (rfl)) rfl
theorem wi_457 : Cond.methodLink RX4 89 yJ9_min_7cf53 ∈ wd := wd_2 (List.mem_of_getElem? (i := 163) (by decide +kernel)) rfl
theorem wi_458 : Cond.static yJ9_min_7cf53 ∈ wd := wd_2 (List.mem_of_getElem? (i := 164) (by decide +kernel)) rfl
theorem wi_459 : Cond.code yJ9_min_7cf53 cJ9_min_7cf53 2 (some .int) ∈ wd := wd_2 (List.mem_of_getElem? (i := 165) (rfl)) rfl
theorem wi_460 : Cond.methodLink RX6 111 yX4_size ∈ wd := wd_2 (List.mem_of_getElem? (i := 166) (by decide +kernel)) rfl
theorem wi_461 : Cond.instanceMethod yX4_size ∈ wd := wd_2 (List.mem_of_getElem? (i := 167) (by decide +kernel)) rfl
theorem wi_462 : Cond.selects RX4 yX4_size yX4_size ∈ wd := wd_2 (List.mem_of_getElem? (i := 168) (by decide +kernel)) rfl
theorem wi_463 : Cond.code yX4_size cX4_size 1 (some .int) ∈ wd := wd_2 (List.mem_of_getElem? (i := 169) (rfl)) rfl
theorem wi_464 : Cond.methodLink RL 75 yL_write ∈ wd := wd_2 (List.mem_of_getElem? (i := 170) (by decide +kernel)) rfl
theorem wi_465 : Cond.static yL_write ∈ wd := wd_2 (List.mem_of_getElem? (i := 171) (by decide +kernel)) rfl
theorem wi_467 : Cond.methodLink RL 21 yX6_write ∈ wd := wd_2 (List.mem_of_getElem? (i := 173) (by decide +kernel)) rfl
theorem wi_468 : Cond.instanceMethod yX6_write ∈ wd := wd_2 (List.mem_of_getElem? (i := 174) (by decide +kernel)) rfl
theorem wi_469 : Cond.selects RX6 yX6_write yX6_write ∈ wd := wd_2 (List.mem_of_getElem? (i := 175) (by decide +kernel)) rfl
theorem wi_470 : Cond.code yX6_write cX6_write 2 (some .int) ∈ wd := wd_2 (List.mem_of_getElem? (i := 176) (rfl)) rfl
theorem wi_471 : Cond.methodLink RX6 87 yX5_writeSum ∈ wd := wd_2 (List.mem_of_getElem? (i := 177) (by decide +kernel)) rfl
theorem wi_472 : Cond.instanceMethod yX5_writeSum ∈ wd := wd_2 (List.mem_of_getElem? (i := 178) (by decide +kernel)) rfl
theorem wi_473 : Cond.selects RX5 yX5_writeSum yX5_writeSum ∈ wd := wd_2 (List.mem_of_getElem? (i := 179) (by decide +kernel)) rfl
theorem wi_474 : Cond.code yX5_writeSum cX5_writeSum 3 none ∈ wd := wd_2 (List.mem_of_getElem? (i := 180) (rfl)) rfl
theorem wi_475 : Cond.methodLink RX5 19 yX4_size ∈ wd := wd_2 (List.mem_of_getElem? (i := 181) (by decide +kernel)) rfl
theorem wi_476 : Cond.methodLink RX5 25 yX5_writeTerm ∈ wd := wd_2 (List.mem_of_getElem? (i := 182) (by decide +kernel)) rfl
theorem wi_478 : Cond.instanceMethod yX5_writeTerm ∈ wd := wd_2 (List.mem_of_getElem? (i := 184) (by decide +kernel)) rfl
theorem wi_479 : Cond.code yX5_writeTerm cX5_writeTerm 4 none ∈ wd := wd_2 (List.mem_of_getElem? (i := 185) (rfl)) rfl
theorem wi_480 : Cond.methodLink RX5 33 yX4_topAt ∈ wd := wd_2 (List.mem_of_getElem? (i := 186) (by decide +kernel)) rfl
theorem wi_481 : Cond.instanceMethod yX4_topAt ∈ wd := wd_2 (List.mem_of_getElem? (i := 187) (by decide +kernel)) rfl
theorem wi_482 : Cond.selects RX4 yX4_topAt yX4_topAt ∈ wd := wd_2 (List.mem_of_getElem? (i := 188) (by decide +kernel)) rfl
theorem wi_483 : Cond.code yX4_topAt cX4_topAt 2 (some .long) ∈ wd := wd_2 (List.mem_of_getElem? (i := 189) (rfl)) rfl
theorem wi_484 : Cond.methodLink RX5 29 yX5_append ∈ wd := wd_2 (List.mem_of_getElem? (i := 190) (by decide +kernel)) rfl
theorem wi_486 : Cond.instanceMethod yX5_append ∈ wd := wd_2 (List.mem_of_getElem? (i := 192) (by decide +kernel)) rfl
theorem wi_487 : Cond.code yX5_append cX5_append 2 none ∈ wd := wd_2 (List.mem_of_getElem? (i := 193) (rfl)) rfl
theorem wi_488 : Cond.methodLink RX5 37 yX4_kindAt ∈ wd := wd_2 (List.mem_of_getElem? (i := 194) (by decide +kernel)) rfl
theorem wi_489 : Cond.instanceMethod yX4_kindAt ∈ wd := wd_2 (List.mem_of_getElem? (i := 195) (by decide +kernel)) rfl
theorem wi_490 : Cond.selects RX4 yX4_kindAt yX4_kindAt ∈ wd := wd_2 (List.mem_of_getElem? (i := 196) (by decide +kernel)) rfl
theorem wi_491 : Cond.code yX4_kindAt cX4_kindAt 2 (some .int) ∈ wd := wd_2 (List.mem_of_getElem? (i := 197) (rfl)) rfl
theorem wi_492 : Cond.methodLink RX5 41 yX4_powerAt ∈ wd := wd_2 (List.mem_of_getElem? (i := 198) (by decide +kernel)) rfl
theorem wi_493 : Cond.methodLink RX5 44 yJ9_abs_067f4 ∈ wd := wd_2 (List.mem_of_getElem? (i := 199) (by decide +kernel)) rfl
theorem wi_494 : Cond.methodLink RX5 50 yX4_bottomAt ∈ wd := wd_2 (List.mem_of_getElem? (i := 200) (by decide +kernel)) rfl
theorem wi_495 : Cond.instanceMethod yX4_bottomAt ∈ wd := wd_2 (List.mem_of_getElem? (i := 201) (by decide +kernel)) rfl
theorem wi_496 : Cond.selects RX4 yX4_bottomAt yX4_bottomAt ∈ wd := wd_2 (List.mem_of_getElem? (i := 202) (by decide +kernel)) rfl
theorem wi_497 : Cond.code yX4_bottomAt cX4_bottomAt 2 (some .long) ∈ wd := wd_2 (List.mem_of_getElem? (i := 203) (rfl)) rfl
theorem wi_498 : Cond.methodLink RX5 53 yX5_writeCoefficient ∈ wd := wd_2 (List.mem_of_getElem? (i := 204) (by decide +kernel)) rfl
theorem wi_500 : Cond.instanceMethod yX5_writeCoefficient ∈ wd := wd_2 (List.mem_of_getElem? (i := 206) (by decide +kernel)) rfl
theorem wi_501 : Cond.code yX5_writeCoefficient cX5_writeCoefficient 6 none ∈ wd := wd_2 (List.mem_of_getElem? (i := 207) (rfl)) rfl
theorem wi_502 : Cond.methodLink RX5 68 yX5_writeNumber ∈ wd := wd_2 (List.mem_of_getElem? (i := 208) (by decide +kernel)) rfl
theorem wi_504 : Cond.instanceMethod yX5_writeNumber ∈ wd := wd_2 (List.mem_of_getElem? (i := 210) (by decide +kernel)) rfl
theorem wi_505 : Cond.code yX5_writeNumber cX5_writeNumber 8 none ∈ wd := wd_2 (List.mem_of_getElem? (i := 211) (rfl)) rfl
theorem wi_506 : Cond.constantLong RX5 78 (10000000000) ∈ wd := wd_2 (List.mem_of_getElem? (i := 212) (by decide +kernel)) rfl
theorem wi_507 : Cond.constantLong RX5 80 (48) ∈ wd := wd_2 (List.mem_of_getElem? (i := 213) (by decide +kernel)) rfl
theorem wi_508 : Cond.constantLong RX5 82 (10) ∈ wd := wd_2 (List.mem_of_getElem? (i := 214) (by decide +kernel)) rfl
theorem wi_509 : Cond.methodLink RX5 57 yX5_writePower ∈ wd := wd_2 (List.mem_of_getElem? (i := 215) (by decide +kernel)) rfl
theorem wi_511 : Cond.instanceMethod yX5_writePower ∈ wd := wd_2 (List.mem_of_getElem? (i := 217) (by decide +kernel)) rfl
theorem wi_512 : Cond.code yX5_writePower cX5_writePower 2 none ∈ wd := wd_2 (List.mem_of_getElem? (i := 218) (rfl)) rfl
theorem wi_513 : Cond.methodLink RX5 72 yX5_writeExponent ∈ wd := wd_2 (List.mem_of_getElem? (i := 219) (by decide +kernel)) rfl
theorem wi_515 : Cond.instanceMethod yX5_writeExponent ∈ wd := wd_2 (List.mem_of_getElem? (i := 221) (by decide +kernel)) rfl
theorem wi_516 : Cond.code yX5_writeExponent cX5_writeExponent 2 none ∈ wd := wd_2 (List.mem_of_getElem? (i := 222) (rfl)) rfl
theorem wi_517 : Cond.methodLink RX5 61 yX4_argumentAt ∈ wd := wd_2 (List.mem_of_getElem? (i := 223) (by decide +kernel)) rfl
theorem wi_518 : Cond.methodLink RX5 64 yX5_writeFunction ∈ wd := wd_2 (List.mem_of_getElem? (i := 224) (by decide +kernel)) rfl
theorem wi_520 : Cond.instanceMethod yX5_writeFunction ∈ wd := wd_2 (List.mem_of_getElem? (i := 226) (by decide +kernel)) rfl
theorem wi_521 : Cond.code yX5_writeFunction cX5_writeFunction 3 none ∈ wd := wd_2 (List.mem_of_getElem? (i := 227) (rfl)) rfl
theorem wi_522 : Cond.methodLink RX5 75 yX5_writeMultiple ∈ wd := wd_2 (List.mem_of_getElem? (i := 228) (by decide +kernel)) rfl
theorem wi_524 : Cond.instanceMethod yX5_writeMultiple ∈ wd := wd_2 (List.mem_of_getElem? (i := 230) (by decide +kernel)) rfl
theorem wi_525 : Cond.code yX5_writeMultiple cX5_writeMultiple 2 none ∈ wd := wd_2 (List.mem_of_getElem? (i := 231) (rfl)) rfl
theorem wi_526 : Cond.methodLink RX6 91 yX5_length ∈ wd := wd_2 (List.mem_of_getElem? (i := 232) (by decide +kernel)) rfl
theorem wi_527 : Cond.instanceMethod yX5_length ∈ wd := wd_2 (List.mem_of_getElem? (i := 233) (by decide +kernel)) rfl
theorem wi_528 : Cond.selects RX5 yX5_length yX5_length ∈ wd := wd_2 (List.mem_of_getElem? (i := 234) (by decide +kernel)) rfl
theorem wi_529 : Cond.code yX5_length cX5_length 1 (some .int) ∈ wd := wd_2 (List.mem_of_getElem? (i := 235) (rfl)) rfl
theorem wi_530 : Cond.methodLink RL 83 yL_add ∈ wd := wd_2 (List.mem_of_getElem? (i := 236) (by decide +kernel)) rfl
theorem wi_531 : Cond.static yL_add ∈ wd := wd_2 (List.mem_of_getElem? (i := 237) (by decide +kernel)) rfl
theorem wi_533 : Cond.methodLink RL 24 yX6_add ∈ wd := wd_2 (List.mem_of_getElem? (i := 239) (by decide +kernel)) rfl
theorem wi_534 : Cond.instanceMethod yX6_add ∈ wd := wd_3 (List.mem_of_getElem? (i := 0) (by decide +kernel)) rfl
theorem wi_535 : Cond.selects RX6 yX6_add yX6_add ∈ wd := wd_3 (List.mem_of_getElem? (i := 1) (by decide +kernel)) rfl
theorem wi_536 : Cond.code yX6_add cX6_add 6 (some .int) ∈ wd := wd_3 (List.mem_of_getElem? (i := 2) (rfl)) rfl
theorem wi_538 : Cond.methodLink RX6 98 yX4_isSmall ∈ wd := wd_3 (List.mem_of_getElem? (i := 4) (by decide +kernel)) rfl
theorem wi_539 : Cond.instanceMethod yX4_isSmall ∈ wd := wd_3 (List.mem_of_getElem? (i := 5) (by decide +kernel)) rfl
theorem wi_540 : Cond.selects RX4 yX4_isSmall yX4_isSmall ∈ wd := wd_3 (List.mem_of_getElem? (i := 6) (by decide +kernel)) rfl
theorem wi_541 : Cond.code yX4_isSmall cX4_isSmall 1 (some .boolean) ∈ wd := wd_3 (List.mem_of_getElem? (i := 7) (rfl)) rfl
theorem wi_542 : Cond.constantLong RX4 77 (100) ∈ wd := wd_3 (List.mem_of_getElem? (i := 8) (by decide +kernel)) rfl
theorem wi_543 : Cond.constantLong RX4 79 (6) ∈ wd := wd_3 (List.mem_of_getElem? (i := 9) (by decide +kernel)) rfl
theorem wi_545 : Cond.methodLink RX6 104 yX4_clear ∈ wd := wd_3 (List.mem_of_getElem? (i := 11) (by decide +kernel)) rfl
theorem wi_546 : Cond.methodLink RX6 105 yX4_putAll ∈ wd := wd_3 (List.mem_of_getElem? (i := 12) (by decide +kernel)) rfl
theorem wi_547 : Cond.instanceMethod yX4_putAll ∈ wd := wd_3 (List.mem_of_getElem? (i := 13) (by decide +kernel)) rfl
theorem wi_548 : Cond.selects RX4 yX4_putAll yX4_putAll ∈ wd := wd_3 (List.mem_of_getElem? (i := 14) (by decide +kernel)) rfl
theorem wi_549 : Cond.code yX4_putAll cX4_putAll 7 none ∈ wd := wd_3 (List.mem_of_getElem? (i := 15) (rfl)) rfl
theorem wi_550 : Cond.methodLink RL 86 yL_times ∈ wd := wd_3 (List.mem_of_getElem? (i := 16) (by decide +kernel)) rfl
theorem wi_551 : Cond.static yL_times ∈ wd := wd_3 (List.mem_of_getElem? (i := 17) (by decide +kernel)) rfl
theorem wi_553 : Cond.methodLink RL 27 yX6_times ∈ wd := wd_3 (List.mem_of_getElem? (i := 19) (by decide +kernel)) rfl
theorem wi_554 : Cond.instanceMethod yX6_times ∈ wd := wd_3 (List.mem_of_getElem? (i := 20) (by decide +kernel)) rfl
theorem wi_555 : Cond.selects RX6 yX6_times yX6_times ∈ wd := wd_3 (List.mem_of_getElem? (i := 21) (by decide +kernel)) rfl
theorem wi_556 : Cond.code yX6_times cX6_times 4 (some .int) ∈ wd := wd_3 (List.mem_of_getElem? (i := 22) (rfl)) rfl
theorem wi_558 : Cond.methodLink RX6 114 yX2_canBeTold ∈ wd := wd_3 (List.mem_of_getElem? (i := 24) (by decide +kernel)) rfl
theorem wi_559 : Cond.static yX2_canBeTold ∈ wd := wd_3 (List.mem_of_getElem? (i := 25) (by decide +kernel)) rfl
theorem wi_560 : Cond.code yX2_canBeTold cX2_canBeTold 4 (some .boolean) ∈ wd := wd_3 (List.mem_of_getElem? (i := 26) (rfl)) rfl
theorem wi_561 : Cond.methodLink RX2 9 yX4_size ∈ wd := wd_3 (List.mem_of_getElem? (i := 27) (by decide +kernel)) rfl
theorem wi_562 : Cond.methodLink RX2 15 yX4_kindAt ∈ wd := wd_3 (List.mem_of_getElem? (i := 28) (by decide +kernel)) rfl
theorem wi_563 : Cond.methodLink RX2 19 yX2_canMeet ∈ wd := wd_3 (List.mem_of_getElem? (i := 29) (by decide +kernel)) rfl
theorem wi_564 : Cond.static yX2_canMeet ∈ wd := wd_3 (List.mem_of_getElem? (i := 30) (by decide +kernel)) rfl
theorem wi_565 : Cond.code yX2_canMeet cX2_canMeet 2 (some .boolean) ∈ wd := wd_3 (List.mem_of_getElem? (i := 31) (rfl)) rfl
theorem wi_566 : Cond.methodLink RX2 25 yX2_isWave ∈ wd := wd_3 (List.mem_of_getElem? (i := 32) (by decide +kernel)) rfl
theorem wi_567 : Cond.static yX2_isWave ∈ wd := wd_3 (List.mem_of_getElem? (i := 33) (by decide +kernel)) rfl
theorem wi_568 : Cond.code yX2_isWave cX2_isWave 1 (some .boolean) ∈ wd := wd_3 (List.mem_of_getElem? (i := 34) (rfl)) rfl
theorem wi_569 : Cond.methodLink RX6 120 yX2_putProduct ∈ wd := wd_3 (List.mem_of_getElem? (i := 35) (by decide +kernel)) rfl
theorem wi_570 : Cond.static yX2_putProduct ∈ wd := wd_3 (List.mem_of_getElem? (i := 36) (by decide +kernel)) rfl
theorem wi_571 : Cond.code yX2_putProduct cX2_putProduct 5 none ∈ wd := wd_3 (List.mem_of_getElem? (i := 37) (rfl)) rfl
theorem wi_572 : Cond.methodLink RX2 29 yX2_putWaves ∈ wd := wd_3 (List.mem_of_getElem? (i := 38) (by decide +kernel)) rfl
theorem wi_573 : Cond.static yX2_putWaves ∈ wd := wd_3 (List.mem_of_getElem? (i := 39) (by decide +kernel)) rfl
theorem wi_574 : Cond.code yX2_putWaves cX2_putWaves 15 none ∈ wd := wd_3 (List.mem_of_getElem? (i := 40) (rfl)) rfl
theorem wi_575 : Cond.methodLink RX2 45 yX4_powerAt ∈ wd := wd_3 (List.mem_of_getElem? (i := 41) (by decide +kernel)) rfl
theorem wi_576 : Cond.methodLink RX2 48 yX4_topAt ∈ wd := wd_3 (List.mem_of_getElem? (i := 42) (by decide +kernel)) rfl
theorem wi_577 : Cond.constantLong RX2 59 (2) ∈ wd := wd_3 (List.mem_of_getElem? (i := 43) (by decide +kernel)) rfl
theorem wi_578 : Cond.methodLink RX2 52 yX4_bottomAt ∈ wd := wd_3 (List.mem_of_getElem? (i := 44) (by decide +kernel)) rfl
theorem wi_579 : Cond.methodLink RX2 42 yX4_argumentAt ∈ wd := wd_3 (List.mem_of_getElem? (i := 45) (by decide +kernel)) rfl
theorem wi_580 : Cond.methodLink RX2 55 yX4_put ∈ wd := wd_3 (List.mem_of_getElem? (i := 46) (by decide +kernel)) rfl
theorem wi_581 : Cond.methodLink RX2 33 yX2_putJoined ∈ wd := wd_3 (List.mem_of_getElem? (i := 47) (by decide +kernel)) rfl
theorem wi_582 : Cond.static yX2_putJoined ∈ wd := wd_3 (List.mem_of_getElem? (i := 48) (by decide +kernel)) rfl
theorem wi_583 : Cond.code yX2_putJoined cX2_putJoined 5 none ∈ wd := wd_3 (List.mem_of_getElem? (i := 49) (rfl)) rfl
theorem wi_584 : Cond.methodLink RX2 36 yJ9_max_7cf53 ∈ wd := wd_3 (List.mem_of_getElem? (i := 50) (by decide +kernel)) rfl
theorem wi_585 : Cond.static yJ9_max_7cf53 ∈ wd := wd_3 (List.mem_of_getElem? (i := 51) (by decide +kernel)) rfl
theorem wi_586 : Cond.code yJ9_max_7cf53 cJ9_max_7cf53 2 (some .int) ∈ wd := wd_3 (List.mem_of_getElem? (i := 52) (rfl)) rfl
theorem wi_587 : Cond.methodLink RL 90 yL_derive ∈ wd := wd_3 (List.mem_of_getElem? (i := 53) (by decide +kernel)) rfl
theorem wi_588 : Cond.static yL_derive ∈ wd := wd_3 (List.mem_of_getElem? (i := 54) (by decide +kernel)) rfl
theorem wi_590 : Cond.methodLink RL 31 yX6_derive ∈ wd := wd_3 (List.mem_of_getElem? (i := 56) (by decide +kernel)) rfl
theorem wi_591 : Cond.instanceMethod yX6_derive ∈ wd := wd_3 (List.mem_of_getElem? (i := 57) (by decide +kernel)) rfl
theorem wi_592 : Cond.selects RX6 yX6_derive yX6_derive ∈ wd := wd_3 (List.mem_of_getElem? (i := 58) (by decide +kernel)) rfl
theorem wi_593 : Cond.code yX6_derive cX6_derive 3 (some .int) ∈ wd := wd_3 (List.mem_of_getElem? (i := 59) (rfl)) rfl
theorem wi_594 : Cond.methodLink RX6 124 yX0_putDerivative ∈ wd := wd_3 (List.mem_of_getElem? (i := 60) (by decide +kernel)) rfl
theorem wi_595 : Cond.static yX0_putDerivative ∈ wd := wd_3 (List.mem_of_getElem? (i := 61) (by decide +kernel)) rfl
theorem wi_596 : Cond.code yX0_putDerivative cX0_putDerivative 10 none ∈ wd := wd_3 (List.mem_of_getElem? (i := 62) (rfl)) rfl
theorem wi_597 : Cond.methodLink RX0 9 yX4_size ∈ wd := wd_3 (List.mem_of_getElem? (i := 63) (by decide +kernel)) rfl
theorem wi_598 : Cond.methodLink RX0 15 yX4_kindAt ∈ wd := wd_3 (List.mem_of_getElem? (i := 64) (by decide +kernel)) rfl
theorem wi_599 : Cond.methodLink RX0 19 yX4_argumentAt ∈ wd := wd_3 (List.mem_of_getElem? (i := 65) (by decide +kernel)) rfl
theorem wi_600 : Cond.methodLink RX0 22 yX4_powerAt ∈ wd := wd_3 (List.mem_of_getElem? (i := 66) (by decide +kernel)) rfl
theorem wi_601 : Cond.methodLink RX0 25 yX4_topAt ∈ wd := wd_3 (List.mem_of_getElem? (i := 67) (by decide +kernel)) rfl
theorem wi_602 : Cond.methodLink RX0 29 yX4_bottomAt ∈ wd := wd_3 (List.mem_of_getElem? (i := 68) (by decide +kernel)) rfl
theorem wi_603 : Cond.methodLink RX0 32 yX4_put ∈ wd := wd_3 (List.mem_of_getElem? (i := 69) (by decide +kernel)) rfl
theorem wi_604 : Cond.methodLink RX0 36 yX0_turned ∈ wd := wd_3 (List.mem_of_getElem? (i := 70) (by decide +kernel)) rfl
theorem wi_605 : Cond.static yX0_turned ∈ wd := wd_3 (List.mem_of_getElem? (i := 71) (by decide +kernel)) rfl
theorem wi_606 : Cond.code yX0_turned cX0_turned 1 (some .int) ∈ wd := wd_3 (List.mem_of_getElem? (i := 72) (rfl)) rfl
theorem wi_607 : Cond.methodLink RX0 41 yX0_signDerived ∈ wd := wd_3 (List.mem_of_getElem? (i := 73) (by decide +kernel)) rfl
theorem wi_608 : Cond.static yX0_signDerived ∈ wd := wd_3 (List.mem_of_getElem? (i := 74) (by decide +kernel)) rfl
theorem wi_609 : Cond.code yX0_signDerived cX0_signDerived 1 (some .int) ∈ wd := wd_3 (List.mem_of_getElem? (i := 75) (rfl)) rfl
theorem wi_610 : Cond.methodLink RL 94 yL_integrate ∈ wd := wd_3 (List.mem_of_getElem? (i := 76) (by decide +kernel)) rfl
theorem wi_611 : Cond.static yL_integrate ∈ wd := wd_3 (List.mem_of_getElem? (i := 77) (by decide +kernel)) rfl
theorem wi_613 : Cond.methodLink RL 35 yX6_integrate ∈ wd := wd_3 (List.mem_of_getElem? (i := 79) (by decide +kernel)) rfl
theorem wi_614 : Cond.instanceMethod yX6_integrate ∈ wd := wd_3 (List.mem_of_getElem? (i := 80) (by decide +kernel)) rfl
theorem wi_615 : Cond.selects RX6 yX6_integrate yX6_integrate ∈ wd := wd_3 (List.mem_of_getElem? (i := 81) (by decide +kernel)) rfl
theorem wi_616 : Cond.code yX6_integrate cX6_integrate 4 (some .int) ∈ wd := wd_3 (List.mem_of_getElem? (i := 82) (rfl)) rfl
theorem wi_618 : Cond.methodLink RX6 132 yX0_putIntegral ∈ wd := wd_3 (List.mem_of_getElem? (i := 84) (by decide +kernel)) rfl
theorem wi_619 : Cond.static yX0_putIntegral ∈ wd := wd_3 (List.mem_of_getElem? (i := 85) (by decide +kernel)) rfl
theorem wi_620 : Cond.code yX0_putIntegral cX0_putIntegral 11 none ∈ wd := wd_3 (List.mem_of_getElem? (i := 86) (rfl)) rfl
theorem wi_621 : Cond.methodLink RX0 44 yX0_integrateLog ∈ wd := wd_3 (List.mem_of_getElem? (i := 87) (by decide +kernel)) rfl
theorem wi_622 : Cond.static yX0_integrateLog ∈ wd := wd_3 (List.mem_of_getElem? (i := 88) (by decide +kernel)) rfl
theorem wi_623 : Cond.code yX0_integrateLog cX0_integrateLog 12 none ∈ wd := wd_3 (List.mem_of_getElem? (i := 89) (rfl)) rfl
theorem wi_624 : Cond.methodLink RX0 48 yX0_lowerPower ∈ wd := wd_3 (List.mem_of_getElem? (i := 90) (by decide +kernel)) rfl
theorem wi_625 : Cond.static yX0_lowerPower ∈ wd := wd_3 (List.mem_of_getElem? (i := 91) (by decide +kernel)) rfl
theorem wi_626 : Cond.code yX0_lowerPower cX0_lowerPower 14 none ∈ wd := wd_3 (List.mem_of_getElem? (i := 92) (rfl)) rfl
theorem wi_627 : Cond.methodLink RX0 56 yX0_signIntegrated ∈ wd := wd_3 (List.mem_of_getElem? (i := 93) (by decide +kernel)) rfl
theorem wi_628 : Cond.static yX0_signIntegrated ∈ wd := wd_3 (List.mem_of_getElem? (i := 94) (by decide +kernel)) rfl
theorem wi_629 : Cond.code yX0_signIntegrated cX0_signIntegrated 1 (some .int) ∈ wd := wd_3 (List.mem_of_getElem? (i := 95) (rfl)) rfl
theorem wi_630 : Cond.methodLink RX0 52 yX0_raisePower ∈ wd := wd_3 (List.mem_of_getElem? (i := 96) (by decide +kernel)) rfl
theorem wi_631 : Cond.static yX0_raisePower ∈ wd := wd_3 (List.mem_of_getElem? (i := 97) (by decide +kernel)) rfl
theorem wi_632 : Cond.code yX0_raisePower cX0_raisePower 15 none ∈ wd := wd_3 (List.mem_of_getElem? (i := 98) (rfl)) rfl
theorem wi_633 : Cond.methodLink RL 97 yL_same ∈ wd := wd_3 (List.mem_of_getElem? (i := 99) (by decide +kernel)) rfl
theorem wi_634 : Cond.static yL_same ∈ wd := wd_3 (List.mem_of_getElem? (i := 100) (by decide +kernel)) rfl
theorem wi_636 : Cond.methodLink RL 38 yX6_same ∈ wd := wd_3 (List.mem_of_getElem? (i := 102) (by decide +kernel)) rfl
theorem wi_637 : Cond.instanceMethod yX6_same ∈ wd := wd_3 (List.mem_of_getElem? (i := 103) (by decide +kernel)) rfl
theorem wi_638 : Cond.selects RX6 yX6_same yX6_same ∈ wd := wd_3 (List.mem_of_getElem? (i := 104) (by decide +kernel)) rfl
theorem wi_639 : Cond.code yX6_same cX6_same 3 (some .boolean) ∈ wd := wd_3 (List.mem_of_getElem? (i := 105) (rfl)) rfl
theorem wi_640 : Cond.methodLink RX6 141 yX4_matches ∈ wd := wd_3 (List.mem_of_getElem? (i := 106) (by decide +kernel)) rfl
theorem wi_641 : Cond.instanceMethod yX4_matches ∈ wd := wd_3 (List.mem_of_getElem? (i := 107) (by decide +kernel)) rfl
theorem wi_642 : Cond.selects RX4 yX4_matches yX4_matches ∈ wd := wd_3 (List.mem_of_getElem? (i := 108) (by decide +kernel)) rfl
theorem wi_643 : Cond.code yX4_matches cX4_matches 3 (some .boolean) ∈ wd := wd_3 (List.mem_of_getElem? (i := 109) (rfl)) rfl
theorem wi_644 : Cond.methodLink RL 100 yL_terms ∈ wd := wd_3 (List.mem_of_getElem? (i := 110) (by decide +kernel)) rfl
theorem wi_645 : Cond.static yL_terms ∈ wd := wd_3 (List.mem_of_getElem? (i := 111) (by decide +kernel)) rfl
theorem wi_647 : Cond.methodLink RL 42 yX6_terms ∈ wd := wd_3 (List.mem_of_getElem? (i := 113) (by decide +kernel)) rfl
theorem wi_648 : Cond.instanceMethod yX6_terms ∈ wd := wd_3 (List.mem_of_getElem? (i := 114) (by decide +kernel)) rfl
theorem wi_649 : Cond.selects RX6 yX6_terms yX6_terms ∈ wd := wd_3 (List.mem_of_getElem? (i := 115) (by decide +kernel)) rfl
theorem wi_650 : Cond.code yX6_terms cX6_terms 2 (some .int) ∈ wd := wd_3 (List.mem_of_getElem? (i := 116) (rfl)) rfl
theorem wi_651 : Cond.methodLink RL 103 yL_term ∈ wd := wd_3 (List.mem_of_getElem? (i := 117) (by decide +kernel)) rfl
theorem wi_652 : Cond.static yL_term ∈ wd := wd_3 (List.mem_of_getElem? (i := 118) (by decide +kernel)) rfl
theorem wi_654 : Cond.methodLink RL 45 yX6_term ∈ wd := wd_3 (List.mem_of_getElem? (i := 120) (by decide +kernel)) rfl
theorem wi_655 : Cond.instanceMethod yX6_term ∈ wd := wd_3 (List.mem_of_getElem? (i := 121) (by decide +kernel)) rfl
theorem wi_656 : Cond.selects RX6 yX6_term yX6_term ∈ wd := wd_3 (List.mem_of_getElem? (i := 122) (by decide +kernel)) rfl
theorem wi_657 : Cond.code yX6_term cX6_term 5 (some .long) ∈ wd := wd_3 (List.mem_of_getElem? (i := 123) (rfl)) rfl
theorem wi_659 : Cond.methodLink RX6 147 yX4_has ∈ wd := wd_3 (List.mem_of_getElem? (i := 125) (by decide +kernel)) rfl
theorem wi_660 : Cond.methodLink RX6 150 yX4_topAt ∈ wd := wd_3 (List.mem_of_getElem? (i := 126) (by decide +kernel)) rfl
theorem wi_661 : Cond.methodLink RX6 154 yX4_bottomAt ∈ wd := wd_3 (List.mem_of_getElem? (i := 127) (by decide +kernel)) rfl
theorem wi_662 : Cond.methodLink RX6 157 yX4_kindAt ∈ wd := wd_3 (List.mem_of_getElem? (i := 128) (by decide +kernel)) rfl
theorem wi_663 : Cond.methodLink RX6 160 yX4_argumentAt ∈ wd := wd_3 (List.mem_of_getElem? (i := 129) (by decide +kernel)) rfl
theorem wi_664 : Cond.methodLink RX6 163 yX4_powerAt ∈ wd := wd_3 (List.mem_of_getElem? (i := 130) (by decide +kernel)) rfl
theorem wi_665 : Cond.classLink RL 50 RX7 ∈ wd := wd_3 (List.mem_of_getElem? (i := 131) (by decide +kernel)) rfl
theorem wi_666 : Cond.instantiable RX7 13 ∈ wd := wd_3 (List.mem_of_getElem? (i := 132) (by decide +kernel)) rfl
theorem wi_667 : Cond.methodLink RL 52 yX7_init ∈ wd := wd_3 (List.mem_of_getElem? (i := 133) (by decide +kernel)) rfl
theorem wi_668 : Cond.instanceMethod yX7_init ∈ wd := wd_3 (List.mem_of_getElem? (i := 134) (by decide +kernel)) rfl
theorem wi_669 : Cond.code yX7_init cX7_init 2 none ∈ wd := wd_3 (List.mem_of_getElem? (i := 135) (rfl)) rfl
theorem wi_671 : Cond.fieldLink RX7 27 "AntiDeskModel" "refusal" "I" ∈ wd := wd_3 (List.mem_of_getElem? (i := 137) (by decide +kernel)) rfl
theorem wi_672 : Cond.fieldLink RX7 7 "AntiDeskModel" "line" "[C" ∈ wd := wd_3 (List.mem_of_getElem? (i := 138) (by decide +kernel)) rfl
theorem wi_673 : Cond.fieldLink RX7 72 "AntiDeskModel" "lineSize" "I" ∈ wd := wd_3 (List.mem_of_getElem? (i := 139) (by decide +kernel)) rfl
theorem wi_674 : Cond.fieldLink RX7 13 "AntiDeskModel" "out" "[C" ∈ wd := wd_3 (List.mem_of_getElem? (i := 140) (by decide +kernel)) rfl
theorem wi_675 : Cond.fieldLink RX7 129 "AntiDeskModel" "outSize" "I" ∈ wd := wd_3 (List.mem_of_getElem? (i := 141) (by decide +kernel)) rfl
theorem wi_676 : Cond.fieldLink RX7 16 "AntiDeskModel" "wrongPlace" "I" ∈ wd := wd_3 (List.mem_of_getElem? (i := 142) (by decide +kernel)) rfl
theorem wi_677 : Cond.fieldLink RX7 20 "AntiDeskModel" "up" "[J" ∈ wd := wd_3 (List.mem_of_getElem? (i := 143) (by decide +kernel)) rfl
theorem wi_678 : Cond.fieldLink RX7 24 "AntiDeskModel" "down" "[J" ∈ wd := wd_3 (List.mem_of_getElem? (i := 144) (by decide +kernel)) rfl
theorem wi_679 : Cond.fieldLink RX7 30 "AntiDeskModel" "isFull" "Z" ∈ wd := wd_3 (List.mem_of_getElem? (i := 145) (by decide +kernel)) rfl
theorem wi_680 : Cond.fieldLink RX7 81 "AntiDeskModel" "at" "I" ∈ wd := wd_3 (List.mem_of_getElem? (i := 146) (by decide +kernel)) rfl
theorem wi_681 : Cond.fieldLink RX7 84 "AntiDeskModel" "fault" "I" ∈ wd := wd_3 (List.mem_of_getElem? (i := 147) (by decide +kernel)) rfl
theorem wi_682 : Cond.fieldLink RX7 168 "AntiDeskModel" "top" "J" ∈ wd := wd_3 (List.mem_of_getElem? (i := 148) (by decide +kernel)) rfl
theorem wi_683 : Cond.fieldLink RX7 172 "AntiDeskModel" "bottom" "J" ∈ wd := wd_3 (List.mem_of_getElem? (i := 149) (by decide +kernel)) rfl
theorem wi_711 : Cond.methodLink RL 59 yX7_thrown ∈ wd := wd_3 (List.mem_of_getElem? (i := 177) (by decide +kernel)) rfl
theorem wi_712 : Cond.instanceMethod yX7_thrown ∈ wd := wd_3 (List.mem_of_getElem? (i := 178) (by decide +kernel)) rfl
theorem wi_713 : Cond.selects RX7 yX7_thrown yX7_thrown ∈ wd := wd_3 (List.mem_of_getElem? (i := 179) (by decide +kernel)) rfl
theorem wi_714 : Cond.code yX7_thrown cX7_thrown 1 (some .int) ∈ wd := wd_3 (List.mem_of_getElem? (i := 180) (rfl)) rfl
theorem wi_715 : Cond.methodLink RL 58 yX7_type ∈ wd := wd_3 (List.mem_of_getElem? (i := 181) (by decide +kernel)) rfl
theorem wi_716 : Cond.instanceMethod yX7_type ∈ wd := wd_3 (List.mem_of_getElem? (i := 182) (by decide +kernel)) rfl
theorem wi_717 : Cond.selects RX7 yX7_type yX7_type ∈ wd := wd_3 (List.mem_of_getElem? (i := 183) (by decide +kernel)) rfl
theorem wi_718 : Cond.code yX7_type cX7_type 10 (some .int) ∈ wd := wd_3 (List.mem_of_getElem? (i := 184) (rfl)) rfl
theorem wi_719 : Cond.methodLink RX7 75 yX7_putCell ∈ wd := wd_3 (List.mem_of_getElem? (i := 185) (by decide +kernel)) rfl
theorem wi_721 : Cond.instanceMethod yX7_putCell ∈ wd := wd_3 (List.mem_of_getElem? (i := 187) (by decide +kernel)) rfl
theorem wi_722 : Cond.code yX7_putCell cX7_putCell 4 none ∈ wd := wd_3 (List.mem_of_getElem? (i := 188) (rfl)) rfl
theorem wi_723 : Cond.methodLink RX7 78 yX7_refused ∈ wd := wd_3 (List.mem_of_getElem? (i := 189) (by decide +kernel)) rfl
theorem wi_725 : Cond.instanceMethod yX7_refused ∈ wd := wd_3 (List.mem_of_getElem? (i := 191) (by decide +kernel)) rfl
theorem wi_726 : Cond.code yX7_refused cX7_refused 2 (some .boolean) ∈ wd := wd_3 (List.mem_of_getElem? (i := 192) (rfl)) rfl
theorem wi_727 : Cond.methodLink RL 66 yX7_erase ∈ wd := wd_3 (List.mem_of_getElem? (i := 193) (by decide +kernel)) rfl
theorem wi_728 : Cond.instanceMethod yX7_erase ∈ wd := wd_3 (List.mem_of_getElem? (i := 194) (by decide +kernel)) rfl
theorem wi_729 : Cond.selects RX7 yX7_erase yX7_erase ∈ wd := wd_3 (List.mem_of_getElem? (i := 195) (by decide +kernel)) rfl
theorem wi_730 : Cond.code yX7_erase cX7_erase 2 (some .int) ∈ wd := wd_3 (List.mem_of_getElem? (i := 196) (rfl)) rfl
theorem wi_731 : Cond.methodLink RL 70 yX7_read ∈ wd := wd_3 (List.mem_of_getElem? (i := 197) (by decide +kernel)) rfl
theorem wi_732 : Cond.instanceMethod yX7_read ∈ wd := wd_3 (List.mem_of_getElem? (i := 198) (by decide +kernel)) rfl
theorem wi_733 : Cond.selects RX7 yX7_read yX7_read ∈ wd := wd_3 (List.mem_of_getElem? (i := 199) (by decide +kernel)) rfl
theorem wi_734 : Cond.code yX7_read cX7_read 4 (some .int) ∈ wd := wd_3 (List.mem_of_getElem? (i := 200) (rfl)) rfl
theorem wi_735 : Cond.methodLink RX7 115 yX7_isSlot ∈ wd := wd_3 (List.mem_of_getElem? (i := 201) (by decide +kernel)) rfl
theorem wi_736 : Cond.static yX7_isSlot ∈ wd := wd_3 (List.mem_of_getElem? (i := 202) (by decide +kernel)) rfl
theorem wi_737 : Cond.code yX7_isSlot cX7_isSlot 1 (some .boolean) ∈ wd := wd_3 (List.mem_of_getElem? (i := 203) (rfl)) rfl
theorem wi_738 : Cond.methodLink RX7 118 yX7_empty ∈ wd := wd_3 (List.mem_of_getElem? (i := 204) (by decide +kernel)) rfl
theorem wi_740 : Cond.instanceMethod yX7_empty ∈ wd := wd_3 (List.mem_of_getElem? (i := 206) (by decide +kernel)) rfl
theorem wi_741 : Cond.code yX7_empty cX7_empty 3 none ∈ wd := wd_3 (List.mem_of_getElem? (i := 207) (rfl)) rfl
theorem wi_742 : Cond.methodLink RX7 91 yX7_takes ∈ wd := wd_3 (List.mem_of_getElem? (i := 208) (by decide +kernel)) rfl
theorem wi_744 : Cond.instanceMethod yX7_takes ∈ wd := wd_3 (List.mem_of_getElem? (i := 210) (by decide +kernel)) rfl
theorem wi_745 : Cond.code yX7_takes cX7_takes 2 (some .boolean) ∈ wd := wd_3 (List.mem_of_getElem? (i := 211) (rfl)) rfl
theorem wi_746 : Cond.methodLink RX7 87 yX7_next ∈ wd := wd_3 (List.mem_of_getElem? (i := 212) (by decide +kernel)) rfl
theorem wi_748 : Cond.instanceMethod yX7_next ∈ wd := wd_3 (List.mem_of_getElem? (i := 214) (by decide +kernel)) rfl
theorem wi_749 : Cond.code yX7_next cX7_next 1 (some .char) ∈ wd := wd_3 (List.mem_of_getElem? (i := 215) (rfl)) rfl
theorem wi_750 : Cond.methodLink RX7 122 yX7_readTerm ∈ wd := wd_3 (List.mem_of_getElem? (i := 216) (by decide +kernel)) rfl
theorem wi_752 : Cond.instanceMethod yX7_readTerm ∈ wd := wd_3 (List.mem_of_getElem? (i := 218) (by decide +kernel)) rfl
theorem wi_753 : Cond.code yX7_readTerm cX7_readTerm 12 none ∈ wd := wd_3 (List.mem_of_getElem? (i := 219) (rfl)) rfl
theorem wi_754 : Cond.methodLink RX7 98 yX7_isDigit ∈ wd := wd_3 (List.mem_of_getElem? (i := 220) (by decide +kernel)) rfl
theorem wi_755 : Cond.static yX7_isDigit ∈ wd := wd_3 (List.mem_of_getElem? (i := 221) (by decide +kernel)) rfl
theorem wi_756 : Cond.code yX7_isDigit cX7_isDigit 1 (some .boolean) ∈ wd := wd_3 (List.mem_of_getElem? (i := 222) (rfl)) rfl
theorem wi_757 : Cond.methodLink RX7 101 yX7_readNumber ∈ wd := wd_3 (List.mem_of_getElem? (i := 223) (by decide +kernel)) rfl
theorem wi_759 : Cond.instanceMethod yX7_readNumber ∈ wd := wd_3 (List.mem_of_getElem? (i := 225) (by decide +kernel)) rfl
theorem wi_760 : Cond.code yX7_readNumber cX7_readNumber 7 (some .int) ∈ wd := wd_3 (List.mem_of_getElem? (i := 226) (rfl)) rfl
theorem wi_761 : Cond.methodLink RX7 95 yX7_wrong ∈ wd := wd_3 (List.mem_of_getElem? (i := 227) (by decide +kernel)) rfl
theorem wi_763 : Cond.instanceMethod yX7_wrong ∈ wd := wd_3 (List.mem_of_getElem? (i := 229) (by decide +kernel)) rfl
theorem wi_764 : Cond.code yX7_wrong cX7_wrong 3 none ∈ wd := wd_3 (List.mem_of_getElem? (i := 230) (rfl)) rfl
theorem wi_765 : Cond.methodLink RX7 104 yX7_want ∈ wd := wd_3 (List.mem_of_getElem? (i := 231) (by decide +kernel)) rfl
theorem wi_767 : Cond.instanceMethod yX7_want ∈ wd := wd_3 (List.mem_of_getElem? (i := 233) (by decide +kernel)) rfl
theorem wi_768 : Cond.code yX7_want cX7_want 2 none ∈ wd := wd_3 (List.mem_of_getElem? (i := 234) (rfl)) rfl
theorem wi_769 : Cond.methodLink RX7 38 yX7_gcd ∈ wd := wd_3 (List.mem_of_getElem? (i := 235) (by decide +kernel)) rfl
theorem wi_770 : Cond.static yX7_gcd ∈ wd := wd_3 (List.mem_of_getElem? (i := 236) (by decide +kernel)) rfl
theorem wi_771 : Cond.code yX7_gcd cX7_gcd 10 (some .long) ∈ wd := wd_3 (List.mem_of_getElem? (i := 237) (rfl)) rfl
theorem wi_772 : Cond.methodLink RX7 108 yX7_addTerm ∈ wd := wd_3 (List.mem_of_getElem? (i := 238) (by decide +kernel)) rfl
theorem wi_774 : Cond.instanceMethod yX7_addTerm ∈ wd := wd_4 (List.mem_of_getElem? (i := 0) (by decide +kernel)) rfl
theorem wi_775 : Cond.code yX7_addTerm cX7_addTerm 20 none ∈ wd := wd_4 (List.mem_of_getElem? (i := 1) (rfl)) rfl
theorem wi_776 : Cond.methodLink RX7 34 yX7_functionOf ∈ wd := wd_4 (List.mem_of_getElem? (i := 2) (by decide +kernel)) rfl
theorem wi_777 : Cond.static yX7_functionOf ∈ wd := wd_4 (List.mem_of_getElem? (i := 3) (by decide +kernel)) rfl
theorem wi_778 : Cond.code yX7_functionOf cX7_functionOf 2 (some .int) ∈ wd := wd_4 (List.mem_of_getElem? (i := 4) (rfl)) rfl
theorem wi_779 : Cond.methodLink RX7 112 yX7_checkAll ∈ wd := wd_4 (List.mem_of_getElem? (i := 5) (by decide +kernel)) rfl
theorem wi_781 : Cond.instanceMethod yX7_checkAll ∈ wd := wd_4 (List.mem_of_getElem? (i := 7) (by decide +kernel)) rfl
theorem wi_782 : Cond.code yX7_checkAll cX7_checkAll 2 none ∈ wd := wd_4 (List.mem_of_getElem? (i := 8) (rfl)) rfl
theorem wi_783 : Cond.methodLink RX7 52 yX7_isOut ∈ wd := wd_4 (List.mem_of_getElem? (i := 9) (by decide +kernel)) rfl
theorem wi_785 : Cond.instanceMethod yX7_isOut ∈ wd := wd_4 (List.mem_of_getElem? (i := 11) (by decide +kernel)) rfl
theorem wi_786 : Cond.code yX7_isOut cX7_isOut 2 (some .boolean) ∈ wd := wd_4 (List.mem_of_getElem? (i := 12) (rfl)) rfl
theorem wi_787 : Cond.constantLong RX7 42 (10000000000) ∈ wd := wd_4 (List.mem_of_getElem? (i := 13) (by decide +kernel)) rfl
theorem wi_788 : Cond.constantLong RX7 44 (-10000000000) ∈ wd := wd_4 (List.mem_of_getElem? (i := 14) (by decide +kernel)) rfl
theorem wi_789 : Cond.constantLong RX7 46 (100000) ∈ wd := wd_4 (List.mem_of_getElem? (i := 15) (by decide +kernel)) rfl
theorem wi_790 : Cond.methodLink RX7 126 yX7_finish ∈ wd := wd_4 (List.mem_of_getElem? (i := 16) (by decide +kernel)) rfl
theorem wi_792 : Cond.instanceMethod yX7_finish ∈ wd := wd_4 (List.mem_of_getElem? (i := 18) (by decide +kernel)) rfl
theorem wi_793 : Cond.code yX7_finish cX7_finish 2 (some .int) ∈ wd := wd_4 (List.mem_of_getElem? (i := 19) (rfl)) rfl
theorem wi_794 : Cond.methodLink RX7 56 yX7_fits ∈ wd := wd_4 (List.mem_of_getElem? (i := 20) (by decide +kernel)) rfl
theorem wi_796 : Cond.instanceMethod yX7_fits ∈ wd := wd_4 (List.mem_of_getElem? (i := 22) (by decide +kernel)) rfl
theorem wi_797 : Cond.code yX7_fits cX7_fits 4 (some .boolean) ∈ wd := wd_4 (List.mem_of_getElem? (i := 23) (rfl)) rfl
theorem wi_798 : Cond.methodLink RX7 48 yX7_termsOf ∈ wd := wd_4 (List.mem_of_getElem? (i := 24) (by decide +kernel)) rfl
theorem wi_800 : Cond.instanceMethod yX7_termsOf ∈ wd := wd_4 (List.mem_of_getElem? (i := 26) (by decide +kernel)) rfl
theorem wi_801 : Cond.code yX7_termsOf cX7_termsOf 4 (some .int) ∈ wd := wd_4 (List.mem_of_getElem? (i := 27) (rfl)) rfl
theorem wi_802 : Cond.methodLink RX7 59 yX7_copy ∈ wd := wd_4 (List.mem_of_getElem? (i := 28) (by decide +kernel)) rfl
theorem wi_804 : Cond.instanceMethod yX7_copy ∈ wd := wd_4 (List.mem_of_getElem? (i := 30) (by decide +kernel)) rfl
theorem wi_805 : Cond.code yX7_copy cX7_copy 4 none ∈ wd := wd_4 (List.mem_of_getElem? (i := 31) (rfl)) rfl
theorem wi_806 : Cond.methodLink RL 74 yX7_place ∈ wd := wd_4 (List.mem_of_getElem? (i := 32) (by decide +kernel)) rfl
theorem wi_807 : Cond.instanceMethod yX7_place ∈ wd := wd_4 (List.mem_of_getElem? (i := 33) (by decide +kernel)) rfl
theorem wi_808 : Cond.selects RX7 yX7_place yX7_place ∈ wd := wd_4 (List.mem_of_getElem? (i := 34) (by decide +kernel)) rfl
theorem wi_809 : Cond.code yX7_place cX7_place 1 (some .int) ∈ wd := wd_4 (List.mem_of_getElem? (i := 35) (rfl)) rfl
theorem wi_810 : Cond.methodLink RL 77 yX7_write ∈ wd := wd_4 (List.mem_of_getElem? (i := 36) (by decide +kernel)) rfl
theorem wi_811 : Cond.instanceMethod yX7_write ∈ wd := wd_4 (List.mem_of_getElem? (i := 37) (by decide +kernel)) rfl
theorem wi_812 : Cond.selects RX7 yX7_write yX7_write ∈ wd := wd_4 (List.mem_of_getElem? (i := 38) (by decide +kernel)) rfl
theorem wi_813 : Cond.code yX7_write cX7_write 5 (some .int) ∈ wd := wd_4 (List.mem_of_getElem? (i := 39) (rfl)) rfl
theorem wi_814 : Cond.methodLink RX7 151 yX7_putTerm ∈ wd := wd_4 (List.mem_of_getElem? (i := 40) (by decide +kernel)) rfl
theorem wi_816 : Cond.instanceMethod yX7_putTerm ∈ wd := wd_4 (List.mem_of_getElem? (i := 42) (by decide +kernel)) rfl
theorem wi_817 : Cond.code yX7_putTerm cX7_putTerm 9 none ∈ wd := wd_4 (List.mem_of_getElem? (i := 43) (rfl)) rfl
theorem wi_818 : Cond.methodLink RX7 138 yX7_put ∈ wd := wd_4 (List.mem_of_getElem? (i := 44) (by decide +kernel)) rfl
theorem wi_820 : Cond.instanceMethod yX7_put ∈ wd := wd_4 (List.mem_of_getElem? (i := 46) (by decide +kernel)) rfl
theorem wi_821 : Cond.code yX7_put cX7_put 2 none ∈ wd := wd_4 (List.mem_of_getElem? (i := 47) (rfl)) rfl
theorem wi_822 : Cond.methodLink RX7 144 yX7_putNumber ∈ wd := wd_4 (List.mem_of_getElem? (i := 48) (by decide +kernel)) rfl
theorem wi_824 : Cond.instanceMethod yX7_putNumber ∈ wd := wd_4 (List.mem_of_getElem? (i := 50) (by decide +kernel)) rfl
theorem wi_825 : Cond.code yX7_putNumber cX7_putNumber 7 none ∈ wd := wd_4 (List.mem_of_getElem? (i := 51) (rfl)) rfl
theorem wi_826 : Cond.constantLong RX7 132 (9) ∈ wd := wd_4 (List.mem_of_getElem? (i := 52) (by decide +kernel)) rfl
theorem wi_827 : Cond.constantLong RX7 134 (10) ∈ wd := wd_4 (List.mem_of_getElem? (i := 53) (by decide +kernel)) rfl
theorem wi_828 : Cond.constantLong RX7 136 (48) ∈ wd := wd_4 (List.mem_of_getElem? (i := 54) (by decide +kernel)) rfl
theorem wi_829 : Cond.methodLink RX7 148 yX7_putFunction ∈ wd := wd_4 (List.mem_of_getElem? (i := 55) (by decide +kernel)) rfl
theorem wi_831 : Cond.instanceMethod yX7_putFunction ∈ wd := wd_4 (List.mem_of_getElem? (i := 57) (by decide +kernel)) rfl
theorem wi_832 : Cond.code yX7_putFunction cX7_putFunction 5 none ∈ wd := wd_4 (List.mem_of_getElem? (i := 58) (rfl)) rfl
theorem wi_833 : Cond.methodLink RX7 141 yX7_kindOf ∈ wd := wd_4 (List.mem_of_getElem? (i := 59) (by decide +kernel)) rfl
theorem wi_834 : Cond.static yX7_kindOf ∈ wd := wd_4 (List.mem_of_getElem? (i := 60) (by decide +kernel)) rfl
theorem wi_835 : Cond.code yX7_kindOf cX7_kindOf 1 (some .int) ∈ wd := wd_4 (List.mem_of_getElem? (i := 61) (rfl)) rfl
theorem wi_836 : Cond.methodLink RX7 63 yX7_countOf ∈ wd := wd_4 (List.mem_of_getElem? (i := 62) (by decide +kernel)) rfl
theorem wi_837 : Cond.static yX7_countOf ∈ wd := wd_4 (List.mem_of_getElem? (i := 63) (by decide +kernel)) rfl
theorem wi_838 : Cond.code yX7_countOf cX7_countOf 1 (some .int) ∈ wd := wd_4 (List.mem_of_getElem? (i := 64) (rfl)) rfl
theorem wi_839 : Cond.methodLink RL 82 yX7_output ∈ wd := wd_4 (List.mem_of_getElem? (i := 65) (by decide +kernel)) rfl
theorem wi_840 : Cond.instanceMethod yX7_output ∈ wd := wd_4 (List.mem_of_getElem? (i := 66) (by decide +kernel)) rfl
theorem wi_841 : Cond.selects RX7 yX7_output yX7_output ∈ wd := wd_4 (List.mem_of_getElem? (i := 67) (by decide +kernel)) rfl
theorem wi_842 : Cond.code yX7_output cX7_output 2 (some .char) ∈ wd := wd_4 (List.mem_of_getElem? (i := 68) (rfl)) rfl
theorem wi_843 : Cond.methodLink RL 85 yX7_add ∈ wd := wd_4 (List.mem_of_getElem? (i := 69) (by decide +kernel)) rfl
theorem wi_844 : Cond.instanceMethod yX7_add ∈ wd := wd_4 (List.mem_of_getElem? (i := 70) (by decide +kernel)) rfl
theorem wi_845 : Cond.selects RX7 yX7_add yX7_add ∈ wd := wd_4 (List.mem_of_getElem? (i := 71) (by decide +kernel)) rfl
theorem wi_846 : Cond.code yX7_add cX7_add 16 (some .int) ∈ wd := wd_4 (List.mem_of_getElem? (i := 72) (rfl)) rfl
theorem wi_847 : Cond.methodLink RX7 155 yX7_isSmall ∈ wd := wd_4 (List.mem_of_getElem? (i := 73) (by decide +kernel)) rfl
theorem wi_849 : Cond.instanceMethod yX7_isSmall ∈ wd := wd_4 (List.mem_of_getElem? (i := 75) (by decide +kernel)) rfl
theorem wi_850 : Cond.code yX7_isSmall cX7_isSmall 7 (some .boolean) ∈ wd := wd_4 (List.mem_of_getElem? (i := 76) (rfl)) rfl
theorem wi_851 : Cond.constantLong RX7 66 (100) ∈ wd := wd_4 (List.mem_of_getElem? (i := 77) (by decide +kernel)) rfl
theorem wi_852 : Cond.constantLong RX7 68 (-100) ∈ wd := wd_4 (List.mem_of_getElem? (i := 78) (by decide +kernel)) rfl
theorem wi_853 : Cond.constantLong RX7 70 (6) ∈ wd := wd_4 (List.mem_of_getElem? (i := 79) (by decide +kernel)) rfl
theorem wi_854 : Cond.methodLink RL 89 yX7_times ∈ wd := wd_4 (List.mem_of_getElem? (i := 80) (by decide +kernel)) rfl
theorem wi_855 : Cond.instanceMethod yX7_times ∈ wd := wd_4 (List.mem_of_getElem? (i := 81) (by decide +kernel)) rfl
theorem wi_856 : Cond.selects RX7 yX7_times yX7_times ∈ wd := wd_4 (List.mem_of_getElem? (i := 82) (by decide +kernel)) rfl
theorem wi_857 : Cond.code yX7_times cX7_times 10 (some .int) ∈ wd := wd_4 (List.mem_of_getElem? (i := 83) (rfl)) rfl
theorem wi_858 : Cond.methodLink RX7 160 yX7_clash ∈ wd := wd_4 (List.mem_of_getElem? (i := 84) (by decide +kernel)) rfl
theorem wi_859 : Cond.static yX7_clash ∈ wd := wd_4 (List.mem_of_getElem? (i := 85) (by decide +kernel)) rfl
theorem wi_860 : Cond.code yX7_clash cX7_clash 2 (some .boolean) ∈ wd := wd_4 (List.mem_of_getElem? (i := 86) (rfl)) rfl
theorem wi_861 : Cond.methodLink RX7 164 yX7_multiply ∈ wd := wd_4 (List.mem_of_getElem? (i := 87) (by decide +kernel)) rfl
theorem wi_863 : Cond.instanceMethod yX7_multiply ∈ wd := wd_4 (List.mem_of_getElem? (i := 89) (by decide +kernel)) rfl
theorem wi_864 : Cond.code yX7_multiply cX7_multiply 14 none ∈ wd := wd_4 (List.mem_of_getElem? (i := 90) (rfl)) rfl
theorem wi_865 : Cond.constantLong RX7 158 (2) ∈ wd := wd_4 (List.mem_of_getElem? (i := 91) (by decide +kernel)) rfl
theorem wi_866 : Cond.methodLink RL 93 yX7_derive ∈ wd := wd_4 (List.mem_of_getElem? (i := 92) (by decide +kernel)) rfl
theorem wi_867 : Cond.instanceMethod yX7_derive ∈ wd := wd_4 (List.mem_of_getElem? (i := 93) (by decide +kernel)) rfl
theorem wi_868 : Cond.selects RX7 yX7_derive yX7_derive ∈ wd := wd_4 (List.mem_of_getElem? (i := 94) (by decide +kernel)) rfl
theorem wi_869 : Cond.code yX7_derive cX7_derive 11 (some .int) ∈ wd := wd_4 (List.mem_of_getElem? (i := 95) (rfl)) rfl
theorem wi_870 : Cond.methodLink RL 96 yX7_integrate ∈ wd := wd_4 (List.mem_of_getElem? (i := 96) (by decide +kernel)) rfl
theorem wi_871 : Cond.instanceMethod yX7_integrate ∈ wd := wd_4 (List.mem_of_getElem? (i := 97) (by decide +kernel)) rfl
theorem wi_872 : Cond.selects RX7 yX7_integrate yX7_integrate ∈ wd := wd_4 (List.mem_of_getElem? (i := 98) (by decide +kernel)) rfl
theorem wi_873 : Cond.code yX7_integrate cX7_integrate 8 (some .int) ∈ wd := wd_4 (List.mem_of_getElem? (i := 99) (rfl)) rfl
theorem wi_874 : Cond.methodLink RX7 184 yX7_integrateLog ∈ wd := wd_4 (List.mem_of_getElem? (i := 100) (by decide +kernel)) rfl
theorem wi_876 : Cond.instanceMethod yX7_integrateLog ∈ wd := wd_4 (List.mem_of_getElem? (i := 102) (by decide +kernel)) rfl
theorem wi_877 : Cond.code yX7_integrateLog cX7_integrateLog 4 none ∈ wd := wd_4 (List.mem_of_getElem? (i := 103) (rfl)) rfl
theorem wi_878 : Cond.methodLink RX7 179 yX7_lay ∈ wd := wd_4 (List.mem_of_getElem? (i := 104) (by decide +kernel)) rfl
theorem wi_880 : Cond.instanceMethod yX7_lay ∈ wd := wd_4 (List.mem_of_getElem? (i := 106) (by decide +kernel)) rfl
theorem wi_881 : Cond.code yX7_lay cX7_lay 12 none ∈ wd := wd_4 (List.mem_of_getElem? (i := 107) (rfl)) rfl
theorem wi_882 : Cond.methodLink RX7 175 yX7_scale ∈ wd := wd_4 (List.mem_of_getElem? (i := 108) (by decide +kernel)) rfl
theorem wi_884 : Cond.instanceMethod yX7_scale ∈ wd := wd_4 (List.mem_of_getElem? (i := 110) (by decide +kernel)) rfl
theorem wi_885 : Cond.code yX7_scale cX7_scale 11 none ∈ wd := wd_4 (List.mem_of_getElem? (i := 111) (rfl)) rfl
theorem wi_886 : Cond.methodLink RX7 187 yX7_integrateOther ∈ wd := wd_4 (List.mem_of_getElem? (i := 112) (by decide +kernel)) rfl
theorem wi_888 : Cond.instanceMethod yX7_integrateOther ∈ wd := wd_4 (List.mem_of_getElem? (i := 114) (by decide +kernel)) rfl
theorem wi_889 : Cond.code yX7_integrateOther cX7_integrateOther 6 none ∈ wd := wd_4 (List.mem_of_getElem? (i := 115) (rfl)) rfl
theorem wi_890 : Cond.constantLong RX7 182 (-1) ∈ wd := wd_4 (List.mem_of_getElem? (i := 116) (by decide +kernel)) rfl
theorem wi_891 : Cond.methodLink RL 99 yX7_same ∈ wd := wd_4 (List.mem_of_getElem? (i := 117) (by decide +kernel)) rfl
theorem wi_892 : Cond.instanceMethod yX7_same ∈ wd := wd_4 (List.mem_of_getElem? (i := 118) (by decide +kernel)) rfl
theorem wi_893 : Cond.selects RX7 yX7_same yX7_same ∈ wd := wd_4 (List.mem_of_getElem? (i := 119) (by decide +kernel)) rfl
theorem wi_894 : Cond.code yX7_same cX7_same 5 (some .boolean) ∈ wd := wd_4 (List.mem_of_getElem? (i := 120) (rfl)) rfl
theorem wi_895 : Cond.methodLink RL 102 yX7_terms ∈ wd := wd_4 (List.mem_of_getElem? (i := 121) (by decide +kernel)) rfl
theorem wi_896 : Cond.instanceMethod yX7_terms ∈ wd := wd_4 (List.mem_of_getElem? (i := 122) (by decide +kernel)) rfl
theorem wi_897 : Cond.selects RX7 yX7_terms yX7_terms ∈ wd := wd_4 (List.mem_of_getElem? (i := 123) (by decide +kernel)) rfl
theorem wi_898 : Cond.code yX7_terms cX7_terms 2 (some .int) ∈ wd := wd_4 (List.mem_of_getElem? (i := 124) (rfl)) rfl
theorem wi_899 : Cond.methodLink RL 105 yX7_term ∈ wd := wd_4 (List.mem_of_getElem? (i := 125) (by decide +kernel)) rfl
theorem wi_900 : Cond.instanceMethod yX7_term ∈ wd := wd_4 (List.mem_of_getElem? (i := 126) (by decide +kernel)) rfl
theorem wi_901 : Cond.selects RX7 yX7_term yX7_term ∈ wd := wd_4 (List.mem_of_getElem? (i := 127) (by decide +kernel)) rfl
theorem wi_902 : Cond.code yX7_term cX7_term 8 (some .long) ∈ wd := wd_4 (List.mem_of_getElem? (i := 128) (rfl)) rfl
theorem fin_X1 : ∀ w ∈ u_ws RX1 TX1 2, w ∈ wd := by
  intro w hw
  obtain ⟨k, hk, rfl⟩ := List.mem_map.mp hw
  have hk := List.mem_range.mp hk
  match k, hk with
  | 0, _ => exact wd_1 (List.mem_of_getElem? (i := 61) (by decide +kernel)) rfl
  | 1, _ => exact wd_1 (List.mem_of_getElem? (i := 63) (by decide +kernel)) rfl
  | k + 2, h => exact absurd h (by omega)
theorem fin_X3 : ∀ w ∈ u_ws RX3 TX3 10, w ∈ wd := by
  intro w hw
  obtain ⟨k, hk, rfl⟩ := List.mem_map.mp hw
  have hk := List.mem_range.mp hk
  match k, hk with
  | 0, _ => exact wd_1 (List.mem_of_getElem? (i := 83) (by decide +kernel)) rfl
  | 1, _ => exact wd_1 (List.mem_of_getElem? (i := 85) (by decide +kernel)) rfl
  | 2, _ => exact wd_1 (List.mem_of_getElem? (i := 87) (by decide +kernel)) rfl
  | 3, _ => exact wd_1 (List.mem_of_getElem? (i := 89) (by decide +kernel)) rfl
  | 4, _ => exact wd_1 (List.mem_of_getElem? (i := 91) (by decide +kernel)) rfl
  | 5, _ => exact wd_1 (List.mem_of_getElem? (i := 93) (by decide +kernel)) rfl
  | 6, _ => exact wd_1 (List.mem_of_getElem? (i := 95) (by decide +kernel)) rfl
  | 7, _ => exact wd_1 (List.mem_of_getElem? (i := 97) (by decide +kernel)) rfl
  | 8, _ => exact wd_1 (List.mem_of_getElem? (i := 99) (by decide +kernel)) rfl
  | 9, _ => exact wd_1 (List.mem_of_getElem? (i := 101) (by decide +kernel)) rfl
  | k + 10, h => exact absurd h (by omega)
theorem fin_X4 : ∀ w ∈ u_ws RX4 TX4 6, w ∈ wd := by
  intro w hw
  obtain ⟨k, hk, rfl⟩ := List.mem_map.mp hw
  have hk := List.mem_range.mp hk
  match k, hk with
  | 0, _ => exact wd_1 (List.mem_of_getElem? (i := 36) (by decide +kernel)) rfl
  | 1, _ => exact wd_1 (List.mem_of_getElem? (i := 38) (by decide +kernel)) rfl
  | 2, _ => exact wd_1 (List.mem_of_getElem? (i := 40) (by decide +kernel)) rfl
  | 3, _ => exact wd_1 (List.mem_of_getElem? (i := 42) (by decide +kernel)) rfl
  | 4, _ => exact wd_1 (List.mem_of_getElem? (i := 44) (by decide +kernel)) rfl
  | 5, _ => exact wd_1 (List.mem_of_getElem? (i := 46) (by decide +kernel)) rfl
  | k + 6, h => exact absurd h (by omega)
theorem fin_X5 : ∀ w ∈ u_ws RX5 TX5 2, w ∈ wd := by
  intro w hw
  obtain ⟨k, hk, rfl⟩ := List.mem_map.mp hw
  have hk := List.mem_range.mp hk
  match k, hk with
  | 0, _ => exact wd_1 (List.mem_of_getElem? (i := 112) (by decide +kernel)) rfl
  | 1, _ => exact wd_1 (List.mem_of_getElem? (i := 114) (by decide +kernel)) rfl
  | k + 2, h => exact absurd h (by omega)
theorem fin_X6 : ∀ w ∈ u_ws RX6 TX6 6, w ∈ wd := by
  intro w hw
  obtain ⟨k, hk, rfl⟩ := List.mem_map.mp hw
  have hk := List.mem_range.mp hk
  match k, hk with
  | 0, _ => exact wd_1 (List.mem_of_getElem? (i := 123) (by decide +kernel)) rfl
  | 1, _ => exact wd_1 (List.mem_of_getElem? (i := 125) (by decide +kernel)) rfl
  | 2, _ => exact wd_1 (List.mem_of_getElem? (i := 127) (by decide +kernel)) rfl
  | 3, _ => exact wd_1 (List.mem_of_getElem? (i := 129) (by decide +kernel)) rfl
  | 4, _ => exact wd_1 (List.mem_of_getElem? (i := 131) (by decide +kernel)) rfl
  | 5, _ => exact wd_1 (List.mem_of_getElem? (i := 133) (by decide +kernel)) rfl
  | k + 6, h => exact absurd h (by omega)
theorem fin_X7 : ∀ w ∈ u_ws RX7 TX7 13, w ∈ wd := by
  intro w hw
  obtain ⟨k, hk, rfl⟩ := List.mem_map.mp hw
  have hk := List.mem_range.mp hk
  match k, hk with
  | 0, _ => exact wd_3 (List.mem_of_getElem? (i := 150) (by decide +kernel)) rfl
  | 1, _ => exact wd_3 (List.mem_of_getElem? (i := 152) (by decide +kernel)) rfl
  | 2, _ => exact wd_3 (List.mem_of_getElem? (i := 154) (by decide +kernel)) rfl
  | 3, _ => exact wd_3 (List.mem_of_getElem? (i := 156) (by decide +kernel)) rfl
  | 4, _ => exact wd_3 (List.mem_of_getElem? (i := 158) (by decide +kernel)) rfl
  | 5, _ => exact wd_3 (List.mem_of_getElem? (i := 160) (by decide +kernel)) rfl
  | 6, _ => exact wd_3 (List.mem_of_getElem? (i := 162) (by decide +kernel)) rfl
  | 7, _ => exact wd_3 (List.mem_of_getElem? (i := 164) (by decide +kernel)) rfl
  | 8, _ => exact wd_3 (List.mem_of_getElem? (i := 166) (by decide +kernel)) rfl
  | 9, _ => exact wd_3 (List.mem_of_getElem? (i := 168) (by decide +kernel)) rfl
  | 10, _ => exact wd_3 (List.mem_of_getElem? (i := 170) (by decide +kernel)) rfl
  | 11, _ => exact wd_3 (List.mem_of_getElem? (i := 172) (by decide +kernel)) rfl
  | 12, _ => exact wd_3 (List.mem_of_getElem? (i := 174) (by decide +kernel)) rfl
  | k + 13, h => exact absurd h (by omega)
