theorem dX10_needOwnCell_13 : decode cX10_needOwnCell 13 = .ok (.if_icmp .eq 14, 3) := by decide +kernel
theorem dX10_needOwnCell_16 : decode cX10_needOwnCell 16 = .ok (.new 116, 3) := by decide +kernel
theorem dX10_needOwnCell_19 : decode cX10_needOwnCell 19 = .ok (.dup, 1) := by decide +kernel
theorem dX10_needOwnCell_20 : decode cX10_needOwnCell 20 = .ok (.ldc_w 355, 3) := by decide +kernel
theorem dX10_needOwnCell_23 : decode cX10_needOwnCell 23 = .ok (.invokespecial 120, 3) := by decide +kernel
theorem dX10_needOwnCell_26 : decode cX10_needOwnCell 26 = .ok (.athrow, 1) := by decide +kernel
theorem dX10_needOwnCell_27 : decode cX10_needOwnCell 27 = .ok (.return_, 1) := by decide +kernel
theorem dX10_needReader_0 : decode cX10_needReader 0 = .ok (.aload_n 0, 1) := by decide +kernel
theorem dX10_needReader_1 : decode cX10_needReader 1 = .ok (.getfield 10, 3) := by decide +kernel
theorem dX10_needReader_4 : decode cX10_needReader 4 = .ok (.getfield 66, 3) := by decide +kernel
theorem dX10_needReader_7 : decode cX10_needReader 7 = .ok (.iload_n 1, 1) := by decide +kernel
theorem dX10_needReader_8 : decode cX10_needReader 8 = .ok (.iload_n 2, 1) := by decide +kernel
theorem dX10_needReader_9 : decode cX10_needReader 9 = .ok (.invokevirtual 93, 3) := by decide +kernel
theorem dX10_needReader_12 : decode cX10_needReader 12 = .ok (.ifCond .ne 14, 3) := by decide +kernel
theorem dX10_needReader_15 : decode cX10_needReader 15 = .ok (.new 116, 3) := by decide +kernel
theorem dX10_needReader_18 : decode cX10_needReader 18 = .ok (.dup, 1) := by decide +kernel
theorem dX10_needReader_19 : decode cX10_needReader 19 = .ok (.ldc_w 357, 3) := by decide +kernel
theorem dX10_needReader_22 : decode cX10_needReader 22 = .ok (.invokespecial 120, 3) := by decide +kernel
theorem dX10_needReader_25 : decode cX10_needReader 25 = .ok (.athrow, 1) := by decide +kernel
theorem dX10_needReader_26 : decode cX10_needReader 26 = .ok (.return_, 1) := by decide +kernel
theorem dX10_needEditable_0 : decode cX10_needEditable 0 = .ok (.aload_n 0, 1) := by decide +kernel
theorem dX10_needEditable_1 : decode cX10_needEditable 1 = .ok (.iload_n 1, 1) := by decide +kernel
theorem dX10_needEditable_2 : decode cX10_needEditable 2 = .ok (.iload_n 2, 1) := by decide +kernel
theorem dX10_needEditable_3 : decode cX10_needEditable 3 = .ok (.invokevirtual 62, 3) := by decide +kernel
theorem dX10_needEditable_6 : decode cX10_needEditable 6 = .ok (.aload_n 0, 1) := by decide +kernel
theorem dX10_needEditable_7 : decode cX10_needEditable 7 = .ok (.getfield 19, 3) := by decide +kernel
theorem dX10_needEditable_10 : decode cX10_needEditable 10 = .ok (.getfield 212, 3) := by decide +kernel
theorem dX10_needEditable_13 : decode cX10_needEditable 13 = .ok (.iload_n 2, 1) := by decide +kernel
theorem dX10_needEditable_14 : decode cX10_needEditable 14 = .ok (.bipush 6, 2) := by decide +kernel
theorem dX10_needEditable_16 : decode cX10_needEditable 16 = .ok (.idiv, 1) := by decide +kernel
theorem dX10_needEditable_17 : decode cX10_needEditable 17 = .ok (.aaload, 1) := by decide +kernel
theorem dX10_needEditable_18 : decode cX10_needEditable 18 = .ok (.invokevirtual 216, 3) := by decide +kernel
theorem dX10_needEditable_21 : decode cX10_needEditable 21 = .ok (.ifCond .eq 13, 3) := by decide +kernel
theorem dX10_needEditable_24 : decode cX10_needEditable 24 = .ok (.new 116, 3) := by decide +kernel
theorem dX10_needEditable_27 : decode cX10_needEditable 27 = .ok (.dup, 1) := by decide +kernel
theorem dX10_needEditable_28 : decode cX10_needEditable 28 = .ok (.ldc 222, 2) := by decide +kernel
theorem dX10_needEditable_30 : decode cX10_needEditable 30 = .ok (.invokespecial 120, 3) := by decide +kernel
theorem dX10_needEditable_33 : decode cX10_needEditable 33 = .ok (.athrow, 1) := by decide +kernel
theorem dX10_needEditable_34 : decode cX10_needEditable 34 = .ok (.aload_n 0, 1) := by decide +kernel
theorem dX10_needEditable_35 : decode cX10_needEditable 35 = .ok (.getfield 10, 3) := by decide +kernel
theorem dX10_needEditable_38 : decode cX10_needEditable 38 = .ok (.getfield 348, 3) := by decide +kernel
theorem dX10_needEditable_41 : decode cX10_needEditable 41 = .ok (.invokeinterface 228 1, 5) := by decide +kernel
theorem dX10_needEditable_46 : decode cX10_needEditable 46 = .ok (.bipush 60, 2) := by decide +kernel
theorem dX10_needEditable_48 : decode cX10_needEditable 48 = .ok (.if_icmp .lt 14, 3) := by decide +kernel
theorem dX10_needEditable_51 : decode cX10_needEditable 51 = .ok (.new 116, 3) := by decide +kernel
theorem dX10_needEditable_54 : decode cX10_needEditable 54 = .ok (.dup, 1) := by decide +kernel
theorem dX10_needEditable_55 : decode cX10_needEditable 55 = .ok (.ldc_w 359, 3) := by decide +kernel
theorem dX10_needEditable_58 : decode cX10_needEditable 58 = .ok (.invokespecial 120, 3) := by decide +kernel
theorem dX10_needEditable_61 : decode cX10_needEditable 61 = .ok (.athrow, 1) := by decide +kernel
theorem dX10_needEditable_62 : decode cX10_needEditable 62 = .ok (.return_, 1) := by decide +kernel
theorem dX10_bidNumbered_0 : decode cX10_bidNumbered 0 = .ok (.iload_n 1, 1) := by decide +kernel
theorem dX10_bidNumbered_1 : decode cX10_bidNumbered 1 = .ok (.ifCond .lt 19, 3) := by decide +kernel
theorem dX10_bidNumbered_4 : decode cX10_bidNumbered 4 = .ok (.iload_n 1, 1) := by decide +kernel
theorem dX10_bidNumbered_5 : decode cX10_bidNumbered 5 = .ok (.aload_n 0, 1) := by decide +kernel
theorem dX10_bidNumbered_6 : decode cX10_bidNumbered 6 = .ok (.getfield 19, 3) := by decide +kernel
theorem dX10_bidNumbered_9 : decode cX10_bidNumbered 9 = .ok (.getfield 224, 3) := by decide +kernel
theorem dX10_bidNumbered_12 : decode cX10_bidNumbered 12 = .ok (.invokeinterface 228 1, 5) := by decide +kernel
theorem dX10_bidNumbered_17 : decode cX10_bidNumbered 17 = .ok (.if_icmp .lt 14, 3) := by decide +kernel
theorem dX10_bidNumbered_20 : decode cX10_bidNumbered 20 = .ok (.new 177, 3) := by decide +kernel
theorem dX10_bidNumbered_23 : decode cX10_bidNumbered 23 = .ok (.dup, 1) := by decide +kernel
theorem dX10_bidNumbered_24 : decode cX10_bidNumbered 24 = .ok (.ldc_w 361, 3) := by decide +kernel
theorem dX10_bidNumbered_27 : decode cX10_bidNumbered 27 = .ok (.invokespecial 181, 3) := by decide +kernel
theorem dX10_bidNumbered_30 : decode cX10_bidNumbered 30 = .ok (.athrow, 1) := by decide +kernel
theorem dX10_bidNumbered_31 : decode cX10_bidNumbered 31 = .ok (.aload_n 0, 1) := by decide +kernel
theorem dX10_bidNumbered_32 : decode cX10_bidNumbered 32 = .ok (.getfield 19, 3) := by decide +kernel
theorem dX10_bidNumbered_35 : decode cX10_bidNumbered 35 = .ok (.getfield 224, 3) := by decide +kernel
theorem dX10_bidNumbered_38 : decode cX10_bidNumbered 38 = .ok (.iload_n 1, 1) := by decide +kernel
theorem dX10_bidNumbered_39 : decode cX10_bidNumbered 39 = .ok (.invokeinterface 323 2, 5) := by decide +kernel
theorem dX10_bidNumbered_44 : decode cX10_bidNumbered 44 = .ok (.checkcast 244, 3) := by decide +kernel
theorem dX10_bidNumbered_47 : decode cX10_bidNumbered 47 = .ok (.areturn, 1) := by decide +kernel
theorem dX10_roundNumbered_0 : decode cX10_roundNumbered 0 = .ok (.iload_n 1, 1) := by decide +kernel
theorem dX10_roundNumbered_1 : decode cX10_roundNumbered 1 = .ok (.ifCond .lt 19, 3) := by decide +kernel
theorem dX10_roundNumbered_4 : decode cX10_roundNumbered 4 = .ok (.iload_n 1, 1) := by decide +kernel
theorem dX10_roundNumbered_5 : decode cX10_roundNumbered 5 = .ok (.aload_n 0, 1) := by decide +kernel
theorem dX10_roundNumbered_6 : decode cX10_roundNumbered 6 = .ok (.getfield 19, 3) := by decide +kernel
theorem dX10_roundNumbered_9 : decode cX10_roundNumbered 9 = .ok (.getfield 290, 3) := by decide +kernel
theorem dX10_roundNumbered_12 : decode cX10_roundNumbered 12 = .ok (.invokeinterface 228 1, 5) := by decide +kernel
theorem dX10_roundNumbered_17 : decode cX10_roundNumbered 17 = .ok (.if_icmp .lt 14, 3) := by decide +kernel
theorem dX10_roundNumbered_20 : decode cX10_roundNumbered 20 = .ok (.new 177, 3) := by decide +kernel
theorem dX10_roundNumbered_23 : decode cX10_roundNumbered 23 = .ok (.dup, 1) := by decide +kernel
theorem dX10_roundNumbered_24 : decode cX10_roundNumbered 24 = .ok (.ldc_w 363, 3) := by decide +kernel
theorem dX10_roundNumbered_27 : decode cX10_roundNumbered 27 = .ok (.invokespecial 181, 3) := by decide +kernel
theorem dX10_roundNumbered_30 : decode cX10_roundNumbered 30 = .ok (.athrow, 1) := by decide +kernel
theorem dX10_roundNumbered_31 : decode cX10_roundNumbered 31 = .ok (.aload_n 0, 1) := by decide +kernel
theorem dX10_roundNumbered_32 : decode cX10_roundNumbered 32 = .ok (.getfield 19, 3) := by decide +kernel
theorem dX10_roundNumbered_35 : decode cX10_roundNumbered 35 = .ok (.getfield 290, 3) := by decide +kernel
theorem dX10_roundNumbered_38 : decode cX10_roundNumbered 38 = .ok (.iload_n 1, 1) := by decide +kernel
theorem dX10_roundNumbered_39 : decode cX10_roundNumbered 39 = .ok (.invokeinterface 323 2, 5) := by decide +kernel
theorem dX10_roundNumbered_44 : decode cX10_roundNumbered 44 = .ok (.checkcast 217, 3) := by decide +kernel
theorem dX10_roundNumbered_47 : decode cX10_roundNumbered 47 = .ok (.areturn, 1) := by decide +kernel
theorem dX10_taken_0 : decode cX10_taken 0 = .ok (.iload_n 0, 1) := by decide +kernel
theorem dX10_taken_1 : decode cX10_taken 1 = .ok (.bipush 14, 2) := by decide +kernel
theorem dX10_taken_3 : decode cX10_taken 3 = .ok (.if_icmp .ne 5, 3) := by decide +kernel
theorem dX10_taken_6 : decode cX10_taken 6 = .ok (.iconst 3, 1) := by decide +kernel
theorem dX10_taken_7 : decode cX10_taken 7 = .ok (.ireturn, 1) := by decide +kernel
theorem dX10_taken_8 : decode cX10_taken 8 = .ok (.iload_n 0, 1) := by decide +kernel
theorem dX10_taken_9 : decode cX10_taken 9 = .ok (.bipush 8, 2) := by decide +kernel
theorem dX10_taken_11 : decode cX10_taken 11 = .ok (.if_icmp .lt 7, 3) := by decide +kernel
theorem dX10_taken_14 : decode cX10_taken 14 = .ok (.iconst 2, 1) := by decide +kernel
theorem dX10_taken_15 : decode cX10_taken 15 = .ok (.goto 4, 3) := by decide +kernel
theorem dX10_taken_18 : decode cX10_taken 18 = .ok (.iconst 0, 1) := by decide +kernel
theorem dX10_taken_19 : decode cX10_taken 19 = .ok (.ireturn, 1) := by decide +kernel
theorem dX11_init_0 : decode cX11_init 0 = .ok (.aload_n 0, 1) := by decide +kernel
theorem dX11_init_1 : decode cX11_init 1 = .ok (.invokespecial 1, 3) := by decide +kernel
theorem dX11_init_4 : decode cX11_init 4 = .ok (.aload_n 0, 1) := by decide +kernel
theorem dX11_init_5 : decode cX11_init 5 = .ok (.sipush 1200, 3) := by decide +kernel
theorem dX11_init_8 : decode cX11_init 8 = .ok (.newarray .int, 2) := by decide +kernel
theorem dX11_init_10 : decode cX11_init 10 = .ok (.putfield 7, 3) := by decide +kernel
theorem dX11_init_13 : decode cX11_init 13 = .ok (.aload_n 0, 1) := by decide +kernel
theorem dX11_init_14 : decode cX11_init 14 = .ok (.sipush 1200, 3) := by decide +kernel
theorem dX11_init_17 : decode cX11_init 17 = .ok (.newarray .int, 2) := by decide +kernel
theorem dX11_init_19 : decode cX11_init 19 = .ok (.putfield 13, 3) := by decide +kernel
theorem dX11_init_22 : decode cX11_init 22 = .ok (.aload_n 0, 1) := by decide +kernel
theorem dX11_init_23 : decode cX11_init 23 = .ok (.sipush 1200, 3) := by decide +kernel
theorem dX11_init_26 : decode cX11_init 26 = .ok (.newarray .int, 2) := by decide +kernel
theorem dX11_init_28 : decode cX11_init 28 = .ok (.putfield 16, 3) := by decide +kernel
theorem dX11_init_31 : decode cX11_init 31 = .ok (.aload_n 0, 1) := by decide +kernel
theorem dX11_init_32 : decode cX11_init 32 = .ok (.sipush 1200, 3) := by decide +kernel
theorem dX11_init_35 : decode cX11_init 35 = .ok (.newarray .int, 2) := by decide +kernel
theorem dX11_init_37 : decode cX11_init 37 = .ok (.putfield 19, 3) := by decide +kernel
theorem dX11_init_40 : decode cX11_init 40 = .ok (.aload_n 0, 1) := by decide +kernel
theorem dX11_init_41 : decode cX11_init 41 = .ok (.sipush 1200, 3) := by decide +kernel
theorem dX11_init_44 : decode cX11_init 44 = .ok (.newarray .int, 2) := by decide +kernel
theorem dX11_init_46 : decode cX11_init 46 = .ok (.putfield 22, 3) := by decide +kernel
theorem dX11_init_49 : decode cX11_init 49 = .ok (.aload_n 0, 1) := by decide +kernel
theorem dX11_init_50 : decode cX11_init 50 = .ok (.sipush 1200, 3) := by decide +kernel
theorem dX11_init_53 : decode cX11_init 53 = .ok (.newarray .int, 2) := by decide +kernel
theorem dX11_init_55 : decode cX11_init 55 = .ok (.putfield 25, 3) := by decide +kernel
theorem dX11_init_58 : decode cX11_init 58 = .ok (.aload_n 0, 1) := by decide +kernel
theorem dX11_init_59 : decode cX11_init 59 = .ok (.sipush 1200, 3) := by decide +kernel
theorem dX11_init_62 : decode cX11_init 62 = .ok (.newarray .int, 2) := by decide +kernel
theorem dX11_init_64 : decode cX11_init 64 = .ok (.putfield 28, 3) := by decide +kernel
theorem dX11_init_67 : decode cX11_init 67 = .ok (.aload_n 0, 1) := by decide +kernel
theorem dX11_init_68 : decode cX11_init 68 = .ok (.bipush 36, 2) := by decide +kernel
theorem dX11_init_70 : decode cX11_init 70 = .ok (.newarray .int, 2) := by decide +kernel
theorem dX11_init_72 : decode cX11_init 72 = .ok (.putfield 31, 3) := by decide +kernel
theorem dX11_init_75 : decode cX11_init 75 = .ok (.aload_n 0, 1) := by decide +kernel
theorem dX11_init_76 : decode cX11_init 76 = .ok (.bipush 60, 2) := by decide +kernel
theorem dX11_init_78 : decode cX11_init 78 = .ok (.newarray .int, 2) := by decide +kernel
theorem dX11_init_80 : decode cX11_init 80 = .ok (.putfield 34, 3) := by decide +kernel
theorem dX11_init_83 : decode cX11_init 83 = .ok (.aload_n 0, 1) := by decide +kernel
theorem dX11_init_84 : decode cX11_init 84 = .ok (.bipush 60, 2) := by decide +kernel
theorem dX11_init_86 : decode cX11_init 86 = .ok (.newarray .int, 2) := by decide +kernel
theorem dX11_init_88 : decode cX11_init 88 = .ok (.putfield 37, 3) := by decide +kernel
theorem dX11_init_91 : decode cX11_init 91 = .ok (.aload_n 0, 1) := by decide +kernel
theorem dX11_init_92 : decode cX11_init 92 = .ok (.bipush 60, 2) := by decide +kernel
theorem dX11_init_94 : decode cX11_init 94 = .ok (.newarray .int, 2) := by decide +kernel
theorem dX11_init_96 : decode cX11_init 96 = .ok (.putfield 40, 3) := by decide +kernel
theorem dX11_init_99 : decode cX11_init 99 = .ok (.aload_n 0, 1) := by decide +kernel
theorem dX11_init_100 : decode cX11_init 100 = .ok (.bipush 60, 2) := by decide +kernel
theorem dX11_init_102 : decode cX11_init 102 = .ok (.newarray .int, 2) := by decide +kernel
theorem dX11_init_104 : decode cX11_init 104 = .ok (.putfield 43, 3) := by decide +kernel
theorem dX11_init_107 : decode cX11_init 107 = .ok (.aload_n 0, 1) := by decide +kernel
theorem dX11_init_108 : decode cX11_init 108 = .ok (.bipush 60, 2) := by decide +kernel
theorem dX11_init_110 : decode cX11_init 110 = .ok (.newarray .int, 2) := by decide +kernel
theorem dX11_init_112 : decode cX11_init 112 = .ok (.putfield 46, 3) := by decide +kernel
theorem dX11_init_115 : decode cX11_init 115 = .ok (.aload_n 0, 1) := by decide +kernel
theorem dX11_init_116 : decode cX11_init 116 = .ok (.bipush 60, 2) := by decide +kernel
theorem dX11_init_118 : decode cX11_init 118 = .ok (.newarray .boolean, 2) := by decide +kernel
theorem dX11_init_120 : decode cX11_init 120 = .ok (.putfield 49, 3) := by decide +kernel
theorem dX11_init_123 : decode cX11_init 123 = .ok (.aload_n 0, 1) := by decide +kernel
theorem dX11_init_124 : decode cX11_init 124 = .ok (.sipush 2160, 3) := by decide +kernel
theorem dX11_init_127 : decode cX11_init 127 = .ok (.newarray .int, 2) := by decide +kernel
theorem dX11_init_129 : decode cX11_init 129 = .ok (.putfield 53, 3) := by decide +kernel
theorem dX11_init_132 : decode cX11_init 132 = .ok (.aload_n 0, 1) := by decide +kernel
theorem dX11_init_133 : decode cX11_init 133 = .ok (.iconst 4, 1) := by decide +kernel
theorem dX11_init_134 : decode cX11_init 134 = .ok (.newarray .int, 2) := by decide +kernel
theorem dX11_init_136 : decode cX11_init 136 = .ok (.putfield 56, 3) := by decide +kernel
theorem dX11_init_139 : decode cX11_init 139 = .ok (.aload_n 0, 1) := by decide +kernel
theorem dX11_init_140 : decode cX11_init 140 = .ok (.iconst 4, 1) := by decide +kernel
theorem dX11_init_141 : decode cX11_init 141 = .ok (.newarray .boolean, 2) := by decide +kernel
theorem dX11_init_143 : decode cX11_init 143 = .ok (.putfield 59, 3) := by decide +kernel
theorem dX11_init_146 : decode cX11_init 146 = .ok (.aload_n 0, 1) := by decide +kernel
theorem dX11_init_147 : decode cX11_init 147 = .ok (.iconst 4, 1) := by decide +kernel
theorem dX11_init_148 : decode cX11_init 148 = .ok (.newarray .int, 2) := by decide +kernel
theorem dX11_init_150 : decode cX11_init 150 = .ok (.putfield 62, 3) := by decide +kernel
theorem dX11_init_153 : decode cX11_init 153 = .ok (.aload_n 0, 1) := by decide +kernel
theorem dX11_init_154 : decode cX11_init 154 = .ok (.iconst 4, 1) := by decide +kernel
theorem dX11_init_155 : decode cX11_init 155 = .ok (.newarray .boolean, 2) := by decide +kernel
theorem dX11_init_157 : decode cX11_init 157 = .ok (.putfield 65, 3) := by decide +kernel
theorem dX11_init_160 : decode cX11_init 160 = .ok (.aload_n 0, 1) := by decide +kernel
theorem dX11_init_161 : decode cX11_init 161 = .ok (.bipush 80, 2) := by decide +kernel
theorem dX11_init_163 : decode cX11_init 163 = .ok (.newarray .int, 2) := by decide +kernel
theorem dX11_init_165 : decode cX11_init 165 = .ok (.putfield 68, 3) := by decide +kernel
theorem dX11_init_168 : decode cX11_init 168 = .ok (.aload_n 0, 1) := by decide +kernel
theorem dX11_init_169 : decode cX11_init 169 = .ok (.bipush 80, 2) := by decide +kernel
theorem dX11_init_171 : decode cX11_init 171 = .ok (.newarray .int, 2) := by decide +kernel
theorem dX11_init_173 : decode cX11_init 173 = .ok (.putfield 71, 3) := by decide +kernel
theorem dX11_init_176 : decode cX11_init 176 = .ok (.aload_n 0, 1) := by decide +kernel
theorem dX11_init_177 : decode cX11_init 177 = .ok (.bipush 80, 2) := by decide +kernel
theorem dX11_init_179 : decode cX11_init 179 = .ok (.newarray .boolean, 2) := by decide +kernel
theorem dX11_init_181 : decode cX11_init 181 = .ok (.putfield 74, 3) := by decide +kernel
theorem dX11_init_184 : decode cX11_init 184 = .ok (.aload_n 0, 1) := by decide +kernel
theorem dX11_init_185 : decode cX11_init 185 = .ok (.bipush 80, 2) := by decide +kernel
theorem dX11_init_187 : decode cX11_init 187 = .ok (.newarray .int, 2) := by decide +kernel
theorem dX11_init_189 : decode cX11_init 189 = .ok (.putfield 77, 3) := by decide +kernel
theorem dX11_init_192 : decode cX11_init 192 = .ok (.aload_n 0, 1) := by decide +kernel
theorem dX11_init_193 : decode cX11_init 193 = .ok (.bipush 80, 2) := by decide +kernel
theorem dX11_init_195 : decode cX11_init 195 = .ok (.newarray .int, 2) := by decide +kernel
theorem dX11_init_197 : decode cX11_init 197 = .ok (.putfield 80, 3) := by decide +kernel
theorem dX11_init_200 : decode cX11_init 200 = .ok (.aload_n 0, 1) := by decide +kernel
theorem dX11_init_201 : decode cX11_init 201 = .ok (.bipush 80, 2) := by decide +kernel
theorem dX11_init_203 : decode cX11_init 203 = .ok (.newarray .int, 2) := by decide +kernel
theorem dX11_init_205 : decode cX11_init 205 = .ok (.putfield 83, 3) := by decide +kernel
theorem dX11_init_208 : decode cX11_init 208 = .ok (.aload_n 0, 1) := by decide +kernel
theorem dX11_init_209 : decode cX11_init 209 = .ok (.bipush 80, 2) := by decide +kernel
theorem dX11_init_211 : decode cX11_init 211 = .ok (.newarray .int, 2) := by decide +kernel
theorem dX11_init_213 : decode cX11_init 213 = .ok (.putfield 86, 3) := by decide +kernel
theorem dX11_init_216 : decode cX11_init 216 = .ok (.aload_n 0, 1) := by decide +kernel
theorem dX11_init_217 : decode cX11_init 217 = .ok (.bipush 80, 2) := by decide +kernel
theorem dX11_init_219 : decode cX11_init 219 = .ok (.newarray .int, 2) := by decide +kernel
theorem dX11_init_221 : decode cX11_init 221 = .ok (.putfield 89, 3) := by decide +kernel
theorem dX11_init_224 : decode cX11_init 224 = .ok (.aload_n 0, 1) := by decide +kernel
theorem dX11_init_225 : decode cX11_init 225 = .ok (.bipush 80, 2) := by decide +kernel
theorem dX11_init_227 : decode cX11_init 227 = .ok (.newarray .boolean, 2) := by decide +kernel
theorem dX11_init_229 : decode cX11_init 229 = .ok (.putfield 92, 3) := by decide +kernel
theorem dX11_init_232 : decode cX11_init 232 = .ok (.aload_n 0, 1) := by decide +kernel
theorem dX11_init_233 : decode cX11_init 233 = .ok (.bipush 80, 2) := by decide +kernel
theorem dX11_init_235 : decode cX11_init 235 = .ok (.newarray .int, 2) := by decide +kernel
theorem dX11_init_237 : decode cX11_init 237 = .ok (.putfield 95, 3) := by decide +kernel
theorem dX11_init_240 : decode cX11_init 240 = .ok (.aload_n 0, 1) := by decide +kernel
theorem dX11_init_241 : decode cX11_init 241 = .ok (.bipush 80, 2) := by decide +kernel
theorem dX11_init_243 : decode cX11_init 243 = .ok (.newarray .int, 2) := by decide +kernel
theorem dX11_init_245 : decode cX11_init 245 = .ok (.putfield 98, 3) := by decide +kernel
theorem dX11_init_248 : decode cX11_init 248 = .ok (.aload_n 0, 1) := by decide +kernel
theorem dX11_init_249 : decode cX11_init 249 = .ok (.bipush 30, 2) := by decide +kernel
theorem dX11_init_251 : decode cX11_init 251 = .ok (.newarray .int, 2) := by decide +kernel
theorem dX11_init_253 : decode cX11_init 253 = .ok (.putfield 101, 3) := by decide +kernel
theorem dX11_init_256 : decode cX11_init 256 = .ok (.aload_n 0, 1) := by decide +kernel
theorem dX11_init_257 : decode cX11_init 257 = .ok (.bipush 30, 2) := by decide +kernel
theorem dX11_init_259 : decode cX11_init 259 = .ok (.newarray .int, 2) := by decide +kernel
theorem dX11_init_261 : decode cX11_init 261 = .ok (.putfield 104, 3) := by decide +kernel
theorem dX11_init_264 : decode cX11_init 264 = .ok (.aload_n 0, 1) := by decide +kernel
theorem dX11_init_265 : decode cX11_init 265 = .ok (.bipush 30, 2) := by decide +kernel
theorem dX11_init_267 : decode cX11_init 267 = .ok (.newarray .int, 2) := by decide +kernel
theorem dX11_init_269 : decode cX11_init 269 = .ok (.putfield 107, 3) := by decide +kernel
theorem dX11_init_272 : decode cX11_init 272 = .ok (.aload_n 0, 1) := by decide +kernel
theorem dX11_init_273 : decode cX11_init 273 = .ok (.bipush 30, 2) := by decide +kernel
theorem dX11_init_275 : decode cX11_init 275 = .ok (.newarray .boolean, 2) := by decide +kernel
theorem dX11_init_277 : decode cX11_init 277 = .ok (.putfield 110, 3) := by decide +kernel
theorem dX11_init_280 : decode cX11_init 280 = .ok (.aload_n 0, 1) := by decide +kernel
theorem dX11_init_281 : decode cX11_init 281 = .ok (.bipush 30, 2) := by decide +kernel
theorem dX11_init_283 : decode cX11_init 283 = .ok (.newarray .int, 2) := by decide +kernel
theorem dX11_init_285 : decode cX11_init 285 = .ok (.putfield 113, 3) := by decide +kernel
theorem dX11_init_288 : decode cX11_init 288 = .ok (.aload_n 0, 1) := by decide +kernel
theorem dX11_init_289 : decode cX11_init 289 = .ok (.bipush 30, 2) := by decide +kernel
theorem dX11_init_291 : decode cX11_init 291 = .ok (.newarray .int, 2) := by decide +kernel
theorem dX11_init_293 : decode cX11_init 293 = .ok (.putfield 116, 3) := by decide +kernel
theorem dX11_init_296 : decode cX11_init 296 = .ok (.aload_n 0, 1) := by decide +kernel
theorem dX11_init_297 : decode cX11_init 297 = .ok (.bipush 30, 2) := by decide +kernel
theorem dX11_init_299 : decode cX11_init 299 = .ok (.newarray .int, 2) := by decide +kernel
theorem dX11_init_301 : decode cX11_init 301 = .ok (.putfield 119, 3) := by decide +kernel
theorem dX11_init_304 : decode cX11_init 304 = .ok (.aload_n 0, 1) := by decide +kernel
theorem dX11_init_305 : decode cX11_init 305 = .ok (.bipush 30, 2) := by decide +kernel
theorem dX11_init_307 : decode cX11_init 307 = .ok (.newarray .int, 2) := by decide +kernel
theorem dX11_init_309 : decode cX11_init 309 = .ok (.putfield 122, 3) := by decide +kernel
theorem dX11_init_312 : decode cX11_init 312 = .ok (.aload_n 0, 1) := by decide +kernel
theorem dX11_init_313 : decode cX11_init 313 = .ok (.bipush 90, 2) := by decide +kernel
theorem dX11_init_315 : decode cX11_init 315 = .ok (.newarray .int, 2) := by decide +kernel
theorem dX11_init_317 : decode cX11_init 317 = .ok (.putfield 125, 3) := by decide +kernel
theorem dX11_init_320 : decode cX11_init 320 = .ok (.aload_n 0, 1) := by decide +kernel
theorem dX11_init_321 : decode cX11_init 321 = .ok (.bipush 24, 2) := by decide +kernel
theorem dX11_init_323 : decode cX11_init 323 = .ok (.newarray .long, 2) := by decide +kernel
theorem dX11_init_325 : decode cX11_init 325 = .ok (.putfield 128, 3) := by decide +kernel
theorem dX11_init_328 : decode cX11_init 328 = .ok (.aload_n 0, 1) := by decide +kernel
theorem dX11_init_329 : decode cX11_init 329 = .ok (.bipush 6, 2) := by decide +kernel
theorem dX11_init_331 : decode cX11_init 331 = .ok (.newarray .int, 2) := by decide +kernel
theorem dX11_init_333 : decode cX11_init 333 = .ok (.putfield 132, 3) := by decide +kernel
theorem dX11_init_336 : decode cX11_init 336 = .ok (.aload_n 0, 1) := by decide +kernel
theorem dX11_init_337 : decode cX11_init 337 = .ok (.bipush 6, 2) := by decide +kernel
theorem dX11_init_339 : decode cX11_init 339 = .ok (.newarray .int, 2) := by decide +kernel
theorem dX11_init_341 : decode cX11_init 341 = .ok (.putfield 135, 3) := by decide +kernel
theorem dX11_init_344 : decode cX11_init 344 = .ok (.aload_n 0, 1) := by decide +kernel
theorem dX11_init_345 : decode cX11_init 345 = .ok (.bipush 25, 2) := by decide +kernel
theorem dX11_init_347 : decode cX11_init 347 = .ok (.newarray .int, 2) := by decide +kernel
theorem dX11_init_349 : decode cX11_init 349 = .ok (.putfield 138, 3) := by decide +kernel
theorem dX11_init_352 : decode cX11_init 352 = .ok (.aload_n 0, 1) := by decide +kernel
theorem dX11_init_353 : decode cX11_init 353 = .ok (.bipush 25, 2) := by decide +kernel
theorem dX11_init_355 : decode cX11_init 355 = .ok (.newarray .int, 2) := by decide +kernel
theorem dX11_init_357 : decode cX11_init 357 = .ok (.putfield 141, 3) := by decide +kernel
theorem dX11_init_360 : decode cX11_init 360 = .ok (.aload_n 0, 1) := by decide +kernel
theorem dX11_init_361 : decode cX11_init 361 = .ok (.bipush 25, 2) := by decide +kernel
theorem dX11_init_363 : decode cX11_init 363 = .ok (.newarray .int, 2) := by decide +kernel
theorem dX11_init_365 : decode cX11_init 365 = .ok (.putfield 144, 3) := by decide +kernel
theorem dX11_init_368 : decode cX11_init 368 = .ok (.aload_n 0, 1) := by decide +kernel
theorem dX11_init_369 : decode cX11_init 369 = .ok (.bipush 25, 2) := by decide +kernel
theorem dX11_init_371 : decode cX11_init 371 = .ok (.newarray .int, 2) := by decide +kernel
theorem dX11_init_373 : decode cX11_init 373 = .ok (.putfield 147, 3) := by decide +kernel
theorem dX11_init_376 : decode cX11_init 376 = .ok (.aload_n 0, 1) := by decide +kernel
theorem dX11_init_377 : decode cX11_init 377 = .ok (.sipush 320, 3) := by decide +kernel
theorem dX11_init_380 : decode cX11_init 380 = .ok (.newarray .int, 2) := by decide +kernel
theorem dX11_init_382 : decode cX11_init 382 = .ok (.putfield 150, 3) := by decide +kernel
theorem dX11_init_385 : decode cX11_init 385 = .ok (.aload_n 0, 1) := by decide +kernel
theorem dX11_init_386 : decode cX11_init 386 = .ok (.bipush 24, 2) := by decide +kernel
theorem dX11_init_388 : decode cX11_init 388 = .ok (.newarray .boolean, 2) := by decide +kernel
theorem dX11_init_390 : decode cX11_init 390 = .ok (.putfield 153, 3) := by decide +kernel
theorem dX11_init_393 : decode cX11_init 393 = .ok (.aload_n 0, 1) := by decide +kernel
theorem dX11_init_394 : decode cX11_init 394 = .ok (.bipush 24, 2) := by decide +kernel
theorem dX11_init_396 : decode cX11_init 396 = .ok (.newarray .int, 2) := by decide +kernel
theorem dX11_init_398 : decode cX11_init 398 = .ok (.putfield 156, 3) := by decide +kernel
theorem dX11_init_401 : decode cX11_init 401 = .ok (.iconst 0, 1) := by decide +kernel
theorem dX11_init_402 : decode cX11_init 402 = .ok (.istore_n 1, 1) := by decide +kernel
theorem dX11_init_403 : decode cX11_init 403 = .ok (.iload_n 1, 1) := by decide +kernel
theorem dX11_init_404 : decode cX11_init 404 = .ok (.iconst 4, 1) := by decide +kernel
theorem dX11_init_405 : decode cX11_init 405 = .ok (.if_icmp .ge 16, 3) := by decide +kernel
theorem dX11_init_408 : decode cX11_init 408 = .ok (.aload_n 0, 1) := by decide +kernel
theorem dX11_init_409 : decode cX11_init 409 = .ok (.getfield 62, 3) := by decide +kernel
theorem dX11_init_412 : decode cX11_init 412 = .ok (.iload_n 1, 1) := by decide +kernel
theorem dX11_init_413 : decode cX11_init 413 = .ok (.iconst (-1), 1) := by decide +kernel
theorem dX11_init_414 : decode cX11_init 414 = .ok (.iastore, 1) := by decide +kernel
theorem dX11_init_415 : decode cX11_init 415 = .ok (.iinc 1 1, 3) := by decide +kernel
theorem dX11_init_418 : decode cX11_init 418 = .ok (.goto (-15), 3) := by decide +kernel
theorem dX11_init_421 : decode cX11_init 421 = .ok (.iconst 0, 1) := by decide +kernel
theorem dX11_init_422 : decode cX11_init 422 = .ok (.istore_n 1, 1) := by decide +kernel
theorem dX11_init_423 : decode cX11_init 423 = .ok (.iload_n 1, 1) := by decide +kernel
theorem dX11_init_424 : decode cX11_init 424 = .ok (.bipush 6, 2) := by decide +kernel
theorem dX11_init_426 : decode cX11_init 426 = .ok (.if_icmp .ge 17, 3) := by decide +kernel
theorem dX11_init_429 : decode cX11_init 429 = .ok (.aload_n 0, 1) := by decide +kernel
theorem dX11_init_430 : decode cX11_init 430 = .ok (.getfield 135, 3) := by decide +kernel
theorem dX11_init_433 : decode cX11_init 433 = .ok (.iload_n 1, 1) := by decide +kernel
theorem dX11_init_434 : decode cX11_init 434 = .ok (.ldc 159, 2) := by decide +kernel
theorem dX11_init_436 : decode cX11_init 436 = .ok (.iastore, 1) := by decide +kernel
theorem dX11_init_437 : decode cX11_init 437 = .ok (.iinc 1 1, 3) := by decide +kernel
theorem dX11_init_440 : decode cX11_init 440 = .ok (.goto (-17), 3) := by decide +kernel
theorem dX11_init_443 : decode cX11_init 443 = .ok (.return_, 1) := by decide +kernel
theorem dX11_thrown_0 : decode cX11_thrown 0 = .ok (.aload_n 0, 1) := by decide +kernel
theorem dX11_thrown_1 : decode cX11_thrown 1 = .ok (.getfield 160, 3) := by decide +kernel
theorem dX11_thrown_4 : decode cX11_thrown 4 = .ok (.ireturn, 1) := by decide +kernel
theorem dX11_fails_0 : decode cX11_fails 0 = .ok (.aload_n 0, 1) := by decide +kernel
theorem dX11_fails_1 : decode cX11_fails 1 = .ok (.iload_n 1, 1) := by decide +kernel
theorem dX11_fails_2 : decode cX11_fails 2 = .ok (.putfield 160, 3) := by decide +kernel
theorem dX11_fails_5 : decode cX11_fails 5 = .ok (.iconst 0, 1) := by decide +kernel
theorem dX11_fails_6 : decode cX11_fails 6 = .ok (.ireturn, 1) := by decide +kernel
theorem dX11_asks_0 : decode cX11_asks 0 = .ok (.aload_n 0, 1) := by decide +kernel
theorem dX11_asks_1 : decode cX11_asks 1 = .ok (.iload_n 1, 1) := by decide +kernel
theorem dX11_asks_2 : decode cX11_asks 2 = .ok (.ifCond .eq 7, 3) := by decide +kernel
theorem dX11_asks_5 : decode cX11_asks 5 = .ok (.iconst 0, 1) := by decide +kernel
theorem dX11_asks_6 : decode cX11_asks 6 = .ok (.goto 4, 3) := by decide +kernel
theorem dX11_asks_9 : decode cX11_asks 9 = .ok (.iconst 1, 1) := by decide +kernel
theorem dX11_asks_10 : decode cX11_asks 10 = .ok (.putfield 160, 3) := by decide +kernel
theorem dX11_asks_13 : decode cX11_asks 13 = .ok (.iload_n 1, 1) := by decide +kernel
theorem dX11_asks_14 : decode cX11_asks 14 = .ok (.ireturn, 1) := by decide +kernel
theorem dX11_in_0 : decode cX11_in 0 = .ok (.iload_n 0, 1) := by decide +kernel
theorem dX11_in_1 : decode cX11_in 1 = .ok (.iload_n 1, 1) := by decide +kernel
theorem dX11_in_2 : decode cX11_in 2 = .ok (.if_icmp .lt 12, 3) := by decide +kernel
theorem dX11_in_5 : decode cX11_in 5 = .ok (.iload_n 0, 1) := by decide +kernel
theorem dX11_in_6 : decode cX11_in 6 = .ok (.iload_n 2, 1) := by decide +kernel
theorem dX11_in_7 : decode cX11_in 7 = .ok (.if_icmp .gt 7, 3) := by decide +kernel
theorem dX11_in_10 : decode cX11_in 10 = .ok (.iconst 1, 1) := by decide +kernel
theorem dX11_in_11 : decode cX11_in 11 = .ok (.goto 4, 3) := by decide +kernel
theorem dX11_in_14 : decode cX11_in 14 = .ok (.iconst 0, 1) := by decide +kernel
theorem dX11_in_15 : decode cX11_in 15 = .ok (.ireturn, 1) := by decide +kernel
theorem dX11_isOwner_0 : decode cX11_isOwner 0 = .ok (.iload_n 0, 1) := by decide +kernel
theorem dX11_isOwner_1 : decode cX11_isOwner 1 = .ok (.ifCond .lt 13, 3) := by decide +kernel
theorem dX11_isOwner_4 : decode cX11_isOwner 4 = .ok (.iload_n 0, 1) := by decide +kernel
theorem dX11_isOwner_5 : decode cX11_isOwner 5 = .ok (.bipush 6, 2) := by decide +kernel
theorem dX11_isOwner_7 : decode cX11_isOwner 7 = .ok (.if_icmp .ge 7, 3) := by decide +kernel
theorem dX11_isOwner_10 : decode cX11_isOwner 10 = .ok (.iconst 1, 1) := by decide +kernel
theorem dX11_isOwner_11 : decode cX11_isOwner 11 = .ok (.goto 4, 3) := by decide +kernel
theorem dX11_isOwner_14 : decode cX11_isOwner 14 = .ok (.iconst 0, 1) := by decide +kernel
theorem dX11_isOwner_15 : decode cX11_isOwner 15 = .ok (.ireturn, 1) := by decide +kernel
theorem dX11_isCell_0 : decode cX11_isCell 0 = .ok (.iload_n 0, 1) := by decide +kernel
theorem dX11_isCell_1 : decode cX11_isCell 1 = .ok (.ifCond .lt 22, 3) := by decide +kernel
theorem dX11_isCell_4 : decode cX11_isCell 4 = .ok (.iload_n 0, 1) := by decide +kernel
theorem dX11_isCell_5 : decode cX11_isCell 5 = .ok (.iconst 4, 1) := by decide +kernel
theorem dX11_isCell_6 : decode cX11_isCell 6 = .ok (.if_icmp .ge 17, 3) := by decide +kernel
theorem dX11_isCell_9 : decode cX11_isCell 9 = .ok (.iload_n 1, 1) := by decide +kernel
theorem dX11_isCell_10 : decode cX11_isCell 10 = .ok (.ifCond .lt 13, 3) := by decide +kernel
theorem dX11_isCell_13 : decode cX11_isCell 13 = .ok (.iload_n 1, 1) := by decide +kernel
theorem dX11_isCell_14 : decode cX11_isCell 14 = .ok (.bipush 6, 2) := by decide +kernel
theorem dX11_isCell_16 : decode cX11_isCell 16 = .ok (.if_icmp .ge 7, 3) := by decide +kernel
theorem dX11_isCell_19 : decode cX11_isCell 19 = .ok (.iconst 1, 1) := by decide +kernel
theorem dX11_isCell_20 : decode cX11_isCell 20 = .ok (.goto 4, 3) := by decide +kernel
theorem dX11_isCell_23 : decode cX11_isCell 23 = .ok (.iconst 0, 1) := by decide +kernel
theorem dX11_isCell_24 : decode cX11_isCell 24 = .ok (.ireturn, 1) := by decide +kernel
theorem dX11_act_0 : decode cX11_act 0 = .ok (.aload_n 0, 1) := by decide +kernel
theorem dX11_act_1 : decode cX11_act 1 = .ok (.dup, 1) := by decide +kernel
theorem dX11_act_2 : decode cX11_act 2 = .ok (.getfield 164, 3) := by decide +kernel
theorem dX11_act_5 : decode cX11_act 5 = .ok (.iconst 1, 1) := by decide +kernel
theorem dX11_act_6 : decode cX11_act 6 = .ok (.iadd, 1) := by decide +kernel
theorem dX11_act_7 : decode cX11_act 7 = .ok (.putfield 164, 3) := by decide +kernel
theorem dX11_act_10 : decode cX11_act 10 = .ok (.iload_n 1, 1) := by decide +kernel
theorem dX11_act_11 : decode cX11_act 11 = .ok (.ireturn, 1) := by decide +kernel
theorem dX11_ownerAt_0 : decode cX11_ownerAt 0 = .ok (.iload_n 1, 1) := by decide +kernel
theorem dX11_ownerAt_1 : decode cX11_ownerAt 1 = .ok (.bipush 6, 2) := by decide +kernel
theorem dX11_ownerAt_3 : decode cX11_ownerAt 3 = .ok (.idiv, 1) := by decide +kernel
theorem dX11_ownerAt_4 : decode cX11_ownerAt 4 = .ok (.istore_n 3, 1) := by decide +kernel
theorem dX11_ownerAt_5 : decode cX11_ownerAt 5 = .ok (.iconst 0, 1) := by decide +kernel
theorem dX11_ownerAt_6 : decode cX11_ownerAt 6 = .ok (.istore 4, 2) := by decide +kernel
theorem dX11_ownerAt_8 : decode cX11_ownerAt 8 = .ok (.iload 4, 2) := by decide +kernel
theorem dX11_ownerAt_10 : decode cX11_ownerAt 10 = .ok (.aload_n 0, 1) := by decide +kernel
theorem dX11_ownerAt_11 : decode cX11_ownerAt 11 = .ok (.getfield 167, 3) := by decide +kernel
theorem dX11_ownerAt_14 : decode cX11_ownerAt 14 = .ok (.if_icmp .ge 43, 3) := by decide +kernel
theorem dX11_ownerAt_17 : decode cX11_ownerAt 17 = .ok (.aload_n 0, 1) := by decide +kernel
theorem dX11_ownerAt_18 : decode cX11_ownerAt 18 = .ok (.getfield 13, 3) := by decide +kernel
theorem dX11_ownerAt_21 : decode cX11_ownerAt 21 = .ok (.iload 4, 2) := by decide +kernel
theorem dX11_ownerAt_23 : decode cX11_ownerAt 23 = .ok (.iaload, 1) := by decide +kernel
theorem dX11_ownerAt_24 : decode cX11_ownerAt 24 = .ok (.iload_n 1, 1) := by decide +kernel
theorem dX11_ownerAt_25 : decode cX11_ownerAt 25 = .ok (.if_icmp .ne 24, 3) := by decide +kernel
theorem dX11_ownerAt_28 : decode cX11_ownerAt 28 = .ok (.aload_n 0, 1) := by decide +kernel
theorem dX11_ownerAt_29 : decode cX11_ownerAt 29 = .ok (.getfield 7, 3) := by decide +kernel
theorem dX11_ownerAt_32 : decode cX11_ownerAt 32 = .ok (.iload 4, 2) := by decide +kernel
theorem dX11_ownerAt_34 : decode cX11_ownerAt 34 = .ok (.iaload, 1) := by decide +kernel
theorem dX11_ownerAt_35 : decode cX11_ownerAt 35 = .ok (.iload_n 2, 1) := by decide +kernel
theorem dX11_ownerAt_36 : decode cX11_ownerAt 36 = .ok (.if_icmp .ge 13, 3) := by decide +kernel
theorem dX11_ownerAt_39 : decode cX11_ownerAt 39 = .ok (.aload_n 0, 1) := by decide +kernel
theorem dX11_ownerAt_40 : decode cX11_ownerAt 40 = .ok (.getfield 16, 3) := by decide +kernel
theorem dX11_ownerAt_43 : decode cX11_ownerAt 43 = .ok (.iload 4, 2) := by decide +kernel
theorem dX11_ownerAt_45 : decode cX11_ownerAt 45 = .ok (.iaload, 1) := by decide +kernel
theorem dX11_ownerAt_46 : decode cX11_ownerAt 46 = .ok (.goto 4, 3) := by decide +kernel
theorem dX11_ownerAt_49 : decode cX11_ownerAt 49 = .ok (.iload_n 3, 1) := by decide +kernel
theorem dX11_ownerAt_50 : decode cX11_ownerAt 50 = .ok (.istore_n 3, 1) := by decide +kernel
theorem dX11_ownerAt_51 : decode cX11_ownerAt 51 = .ok (.iinc 4 1, 3) := by decide +kernel
theorem dX11_ownerAt_54 : decode cX11_ownerAt 54 = .ok (.goto (-46), 3) := by decide +kernel
theorem dX11_ownerAt_57 : decode cX11_ownerAt 57 = .ok (.iload_n 3, 1) := by decide +kernel
theorem dX11_ownerAt_58 : decode cX11_ownerAt 58 = .ok (.ireturn, 1) := by decide +kernel
theorem dX11_readsAt_0 : decode cX11_readsAt 0 = .ok (.aload_n 0, 1) := by decide +kernel
theorem dX11_readsAt_1 : decode cX11_readsAt 1 = .ok (.iload_n 2, 1) := by decide +kernel
theorem dX11_readsAt_2 : decode cX11_readsAt 2 = .ok (.iload_n 3, 1) := by decide +kernel
theorem dX11_readsAt_3 : decode cX11_readsAt 3 = .ok (.invokevirtual 170, 3) := by decide +kernel
theorem dX11_readsAt_6 : decode cX11_readsAt 6 = .ok (.iload_n 1, 1) := by decide +kernel
theorem dX11_readsAt_7 : decode cX11_readsAt 7 = .ok (.if_icmp .ne 5, 3) := by decide +kernel
theorem dX11_readsAt_10 : decode cX11_readsAt 10 = .ok (.iconst 1, 1) := by decide +kernel
theorem dX11_readsAt_11 : decode cX11_readsAt 11 = .ok (.ireturn, 1) := by decide +kernel
theorem dX11_readsAt_12 : decode cX11_readsAt 12 = .ok (.iconst 0, 1) := by decide +kernel
theorem dX11_readsAt_13 : decode cX11_readsAt 13 = .ok (.istore 4, 2) := by decide +kernel
theorem dX11_readsAt_15 : decode cX11_readsAt 15 = .ok (.iconst 0, 1) := by decide +kernel
theorem dX11_readsAt_16 : decode cX11_readsAt 16 = .ok (.istore 5, 2) := by decide +kernel
theorem dX11_readsAt_18 : decode cX11_readsAt 18 = .ok (.iload 5, 2) := by decide +kernel
theorem dX11_readsAt_20 : decode cX11_readsAt 20 = .ok (.aload_n 0, 1) := by decide +kernel
theorem dX11_readsAt_21 : decode cX11_readsAt 21 = .ok (.getfield 174, 3) := by decide +kernel
theorem dX11_readsAt_24 : decode cX11_readsAt 24 = .ok (.if_icmp .ge 147, 3) := by decide +kernel
theorem dX11_readsAt_27 : decode cX11_readsAt 27 = .ok (.aload_n 0, 1) := by decide +kernel
theorem dX11_readsAt_28 : decode cX11_readsAt 28 = .ok (.getfield 19, 3) := by decide +kernel
theorem dX11_readsAt_31 : decode cX11_readsAt 31 = .ok (.iload 5, 2) := by decide +kernel
theorem dX11_readsAt_33 : decode cX11_readsAt 33 = .ok (.iaload, 1) := by decide +kernel
theorem dX11_readsAt_34 : decode cX11_readsAt 34 = .ok (.iload_n 3, 1) := by decide +kernel
theorem dX11_readsAt_35 : decode cX11_readsAt 35 = .ok (.if_icmp .ge 73, 3) := by decide +kernel
theorem dX11_readsAt_38 : decode cX11_readsAt 38 = .ok (.aload_n 0, 1) := by decide +kernel
theorem dX11_readsAt_39 : decode cX11_readsAt 39 = .ok (.getfield 25, 3) := by decide +kernel
theorem dX11_readsAt_42 : decode cX11_readsAt 42 = .ok (.iload 5, 2) := by decide +kernel
theorem dX11_readsAt_44 : decode cX11_readsAt 44 = .ok (.iaload, 1) := by decide +kernel
theorem dX11_readsAt_45 : decode cX11_readsAt 45 = .ok (.iload_n 1, 1) := by decide +kernel
theorem dX11_readsAt_46 : decode cX11_readsAt 46 = .ok (.if_icmp .ne 62, 3) := by decide +kernel
theorem dX11_readsAt_49 : decode cX11_readsAt 49 = .ok (.aload_n 0, 1) := by decide +kernel
theorem dX11_readsAt_50 : decode cX11_readsAt 50 = .ok (.getfield 28, 3) := by decide +kernel
theorem dX11_readsAt_53 : decode cX11_readsAt 53 = .ok (.iload 5, 2) := by decide +kernel
theorem dX11_readsAt_55 : decode cX11_readsAt 55 = .ok (.iaload, 1) := by decide +kernel
theorem dX11_readsAt_56 : decode cX11_readsAt 56 = .ok (.iconst 4, 1) := by decide +kernel
theorem dX11_readsAt_57 : decode cX11_readsAt 57 = .ok (.irem, 1) := by decide +kernel
theorem dX11_readsAt_58 : decode cX11_readsAt 58 = .ok (.iload_n 2, 1) := by decide +kernel
theorem dX11_readsAt_59 : decode cX11_readsAt 59 = .ok (.bipush 6, 2) := by decide +kernel
theorem dX11_readsAt_61 : decode cX11_readsAt 61 = .ok (.idiv, 1) := by decide +kernel
theorem dX11_readsAt_62 : decode cX11_readsAt 62 = .ok (.if_icmp .ne 46, 3) := by decide +kernel
theorem dX11_readsAt_65 : decode cX11_readsAt 65 = .ok (.aload_n 0, 1) := by decide +kernel
theorem dX11_readsAt_66 : decode cX11_readsAt 66 = .ok (.getfield 28, 3) := by decide +kernel
theorem dX11_readsAt_69 : decode cX11_readsAt 69 = .ok (.iload 5, 2) := by decide +kernel
theorem dX11_readsAt_71 : decode cX11_readsAt 71 = .ok (.iaload, 1) := by decide +kernel
theorem dX11_readsAt_72 : decode cX11_readsAt 72 = .ok (.iconst 4, 1) := by decide +kernel
theorem dX11_readsAt_73 : decode cX11_readsAt 73 = .ok (.idiv, 1) := by decide +kernel
theorem dX11_readsAt_74 : decode cX11_readsAt 74 = .ok (.bipush 8, 2) := by decide +kernel
theorem dX11_readsAt_76 : decode cX11_readsAt 76 = .ok (.irem, 1) := by decide +kernel
theorem dX11_readsAt_77 : decode cX11_readsAt 77 = .ok (.iload_n 2, 1) := by decide +kernel
theorem dX11_readsAt_78 : decode cX11_readsAt 78 = .ok (.bipush 6, 2) := by decide +kernel
theorem dX11_readsAt_80 : decode cX11_readsAt 80 = .ok (.irem, 1) := by decide +kernel
theorem dX11_readsAt_81 : decode cX11_readsAt 81 = .ok (.if_icmp .gt 27, 3) := by decide +kernel
theorem dX11_readsAt_84 : decode cX11_readsAt 84 = .ok (.aload_n 0, 1) := by decide +kernel
theorem dX11_readsAt_85 : decode cX11_readsAt 85 = .ok (.getfield 28, 3) := by decide +kernel
theorem dX11_readsAt_88 : decode cX11_readsAt 88 = .ok (.iload 5, 2) := by decide +kernel
theorem dX11_readsAt_90 : decode cX11_readsAt 90 = .ok (.iaload, 1) := by decide +kernel
theorem dX11_readsAt_91 : decode cX11_readsAt 91 = .ok (.bipush 32, 2) := by decide +kernel
theorem dX11_readsAt_93 : decode cX11_readsAt 93 = .ok (.idiv, 1) := by decide +kernel
theorem dX11_readsAt_94 : decode cX11_readsAt 94 = .ok (.bipush 8, 2) := by decide +kernel
theorem dX11_readsAt_96 : decode cX11_readsAt 96 = .ok (.irem, 1) := by decide +kernel
theorem dX11_readsAt_97 : decode cX11_readsAt 97 = .ok (.iload_n 2, 1) := by decide +kernel
theorem dX11_readsAt_98 : decode cX11_readsAt 98 = .ok (.bipush 6, 2) := by decide +kernel
theorem dX11_readsAt_100 : decode cX11_readsAt 100 = .ok (.irem, 1) := by decide +kernel
theorem dX11_readsAt_101 : decode cX11_readsAt 101 = .ok (.if_icmp .lt 7, 3) := by decide +kernel
theorem dX11_readsAt_104 : decode cX11_readsAt 104 = .ok (.iconst 1, 1) := by decide +kernel
theorem dX11_readsAt_105 : decode cX11_readsAt 105 = .ok (.goto 4, 3) := by decide +kernel
theorem dX11_readsAt_108 : decode cX11_readsAt 108 = .ok (.iconst 0, 1) := by decide +kernel
theorem dX11_readsAt_109 : decode cX11_readsAt 109 = .ok (.istore 6, 2) := by decide +kernel
theorem dX11_readsAt_111 : decode cX11_readsAt 111 = .ok (.iload 6, 2) := by decide +kernel
theorem dX11_readsAt_113 : decode cX11_readsAt 113 = .ok (.ifCond .eq 48, 3) := by decide +kernel
theorem dX11_readsAt_116 : decode cX11_readsAt 116 = .ok (.aload_n 0, 1) := by decide +kernel
theorem dX11_readsAt_117 : decode cX11_readsAt 117 = .ok (.iload_n 2, 1) := by decide +kernel
theorem dX11_readsAt_118 : decode cX11_readsAt 118 = .ok (.aload_n 0, 1) := by decide +kernel
theorem dX11_readsAt_119 : decode cX11_readsAt 119 = .ok (.getfield 19, 3) := by decide +kernel
theorem dX11_readsAt_122 : decode cX11_readsAt 122 = .ok (.iload 5, 2) := by decide +kernel
theorem dX11_readsAt_124 : decode cX11_readsAt 124 = .ok (.iaload, 1) := by decide +kernel
theorem dX11_readsAt_125 : decode cX11_readsAt 125 = .ok (.invokevirtual 170, 3) := by decide +kernel
theorem dX11_readsAt_128 : decode cX11_readsAt 128 = .ok (.aload_n 0, 1) := by decide +kernel
theorem dX11_readsAt_129 : decode cX11_readsAt 129 = .ok (.getfield 22, 3) := by decide +kernel
theorem dX11_readsAt_132 : decode cX11_readsAt 132 = .ok (.iload 5, 2) := by decide +kernel
theorem dX11_readsAt_134 : decode cX11_readsAt 134 = .ok (.iaload, 1) := by decide +kernel
theorem dX11_readsAt_135 : decode cX11_readsAt 135 = .ok (.if_icmp .ne 26, 3) := by decide +kernel
theorem dX11_readsAt_138 : decode cX11_readsAt 138 = .ok (.aload_n 0, 1) := by decide +kernel
theorem dX11_readsAt_139 : decode cX11_readsAt 139 = .ok (.getfield 28, 3) := by decide +kernel
theorem dX11_readsAt_142 : decode cX11_readsAt 142 = .ok (.iload 5, 2) := by decide +kernel
theorem dX11_readsAt_144 : decode cX11_readsAt 144 = .ok (.iaload, 1) := by decide +kernel
theorem dX11_readsAt_145 : decode cX11_readsAt 145 = .ok (.sipush 256, 3) := by decide +kernel
theorem dX11_readsAt_148 : decode cX11_readsAt 148 = .ok (.idiv, 1) := by decide +kernel
theorem dX11_readsAt_149 : decode cX11_readsAt 149 = .ok (.iconst 1, 1) := by decide +kernel
theorem dX11_readsAt_150 : decode cX11_readsAt 150 = .ok (.if_icmp .ne 7, 3) := by decide +kernel
theorem dX11_readsAt_153 : decode cX11_readsAt 153 = .ok (.iconst 1, 1) := by decide +kernel
theorem dX11_readsAt_154 : decode cX11_readsAt 154 = .ok (.goto 9, 3) := by decide +kernel
theorem dX11_readsAt_157 : decode cX11_readsAt 157 = .ok (.iconst 0, 1) := by decide +kernel
theorem dX11_readsAt_158 : decode cX11_readsAt 158 = .ok (.goto 5, 3) := by decide +kernel
theorem dX11_readsAt_161 : decode cX11_readsAt 161 = .ok (.iload 4, 2) := by decide +kernel
theorem dX11_readsAt_163 : decode cX11_readsAt 163 = .ok (.istore 4, 2) := by decide +kernel
theorem dX11_readsAt_165 : decode cX11_readsAt 165 = .ok (.iinc 5 1, 3) := by decide +kernel
theorem dX11_readsAt_168 : decode cX11_readsAt 168 = .ok (.goto (-150), 3) := by decide +kernel
theorem dX11_readsAt_171 : decode cX11_readsAt 171 = .ok (.iload 4, 2) := by decide +kernel
theorem dX11_readsAt_173 : decode cX11_readsAt 173 = .ok (.ireturn, 1) := by decide +kernel
theorem dX11_give_0 : decode cX11_give 0 = .ok (.aload_n 0, 1) := by decide +kernel
theorem dX11_give_1 : decode cX11_give 1 = .ok (.iload_n 1, 1) := by decide +kernel
theorem dX11_give_2 : decode cX11_give 2 = .ok (.invokestatic 177, 3) := by decide +kernel
theorem dX11_give_5 : decode cX11_give 5 = .ok (.ifCond .eq 23, 3) := by decide +kernel
theorem dX11_give_8 : decode cX11_give 8 = .ok (.iload_n 2, 1) := by decide +kernel
theorem dX11_give_9 : decode cX11_give 9 = .ok (.iload_n 3, 1) := by decide +kernel
theorem dX11_give_10 : decode cX11_give 10 = .ok (.invokestatic 181, 3) := by decide +kernel
theorem dX11_give_13 : decode cX11_give 13 = .ok (.ifCond .eq 15, 3) := by decide +kernel
theorem dX11_give_16 : decode cX11_give 16 = .ok (.iload 4, 2) := by decide +kernel
theorem dX11_give_18 : decode cX11_give 18 = .ok (.invokestatic 177, 3) := by decide +kernel
theorem dX11_give_21 : decode cX11_give 21 = .ok (.ifCond .eq 7, 3) := by decide +kernel
theorem dX11_give_24 : decode cX11_give 24 = .ok (.iconst 1, 1) := by decide +kernel
theorem dX11_give_25 : decode cX11_give 25 = .ok (.goto 4, 3) := by decide +kernel
theorem dX11_give_28 : decode cX11_give 28 = .ok (.iconst 0, 1) := by decide +kernel
theorem dX11_give_29 : decode cX11_give 29 = .ok (.invokevirtual 185, 3) := by decide +kernel
theorem dX11_give_32 : decode cX11_give 32 = .ok (.ifCond .ne 5, 3) := by decide +kernel
theorem dX11_give_35 : decode cX11_give 35 = .ok (.iconst 0, 1) := by decide +kernel
theorem dX11_give_36 : decode cX11_give 36 = .ok (.ireturn, 1) := by decide +kernel
theorem dX11_give_37 : decode cX11_give 37 = .ok (.bipush 6, 2) := by decide +kernel
theorem dX11_give_39 : decode cX11_give 39 = .ok (.iload_n 2, 1) := by decide +kernel
theorem dX11_give_40 : decode cX11_give 40 = .ok (.imul, 1) := by decide +kernel
theorem dX11_give_41 : decode cX11_give 41 = .ok (.iload_n 3, 1) := by decide +kernel
theorem dX11_give_42 : decode cX11_give 42 = .ok (.iadd, 1) := by decide +kernel
theorem dX11_give_43 : decode cX11_give 43 = .ok (.istore 5, 2) := by decide +kernel
theorem dX11_give_45 : decode cX11_give 45 = .ok (.aload_n 0, 1) := by decide +kernel
theorem dX11_give_46 : decode cX11_give 46 = .ok (.iload 5, 2) := by decide +kernel
theorem dX11_give_48 : decode cX11_give 48 = .ok (.aload_n 0, 1) := by decide +kernel
theorem dX11_give_49 : decode cX11_give 49 = .ok (.getfield 164, 3) := by decide +kernel
theorem dX11_give_52 : decode cX11_give 52 = .ok (.invokevirtual 170, 3) := by decide +kernel
theorem dX11_give_55 : decode cX11_give 55 = .ok (.iload_n 1, 1) := by decide +kernel
theorem dX11_give_56 : decode cX11_give 56 = .ok (.if_icmp .eq 9, 3) := by decide +kernel
theorem dX11_give_59 : decode cX11_give 59 = .ok (.aload_n 0, 1) := by decide +kernel
theorem dX11_give_60 : decode cX11_give 60 = .ok (.iconst 2, 1) := by decide +kernel
theorem dX11_give_61 : decode cX11_give 61 = .ok (.invokevirtual 189, 3) := by decide +kernel
theorem dX11_give_64 : decode cX11_give 64 = .ok (.ireturn, 1) := by decide +kernel
theorem dX11_give_65 : decode cX11_give 65 = .ok (.aload_n 0, 1) := by decide +kernel
theorem dX11_give_66 : decode cX11_give 66 = .ok (.getfield 7, 3) := by decide +kernel
theorem dX11_give_69 : decode cX11_give 69 = .ok (.aload_n 0, 1) := by decide +kernel
theorem dX11_give_70 : decode cX11_give 70 = .ok (.getfield 167, 3) := by decide +kernel
theorem dX11_give_73 : decode cX11_give 73 = .ok (.aload_n 0, 1) := by decide +kernel
theorem dX11_give_74 : decode cX11_give 74 = .ok (.getfield 164, 3) := by decide +kernel
theorem dX11_give_77 : decode cX11_give 77 = .ok (.iastore, 1) := by decide +kernel
theorem dX11_give_78 : decode cX11_give 78 = .ok (.aload_n 0, 1) := by decide +kernel
theorem dX11_give_79 : decode cX11_give 79 = .ok (.getfield 13, 3) := by decide +kernel
theorem dX11_give_82 : decode cX11_give 82 = .ok (.aload_n 0, 1) := by decide +kernel
theorem dX11_give_83 : decode cX11_give 83 = .ok (.getfield 167, 3) := by decide +kernel
theorem dX11_give_86 : decode cX11_give 86 = .ok (.iload 5, 2) := by decide +kernel
theorem dX11_give_88 : decode cX11_give 88 = .ok (.iastore, 1) := by decide +kernel
theorem dX11_give_89 : decode cX11_give 89 = .ok (.aload_n 0, 1) := by decide +kernel
theorem dX11_give_90 : decode cX11_give 90 = .ok (.getfield 16, 3) := by decide +kernel
theorem dX11_give_93 : decode cX11_give 93 = .ok (.aload_n 0, 1) := by decide +kernel
theorem dX11_give_94 : decode cX11_give 94 = .ok (.getfield 167, 3) := by decide +kernel
theorem dX11_give_97 : decode cX11_give 97 = .ok (.iload 4, 2) := by decide +kernel
theorem dX11_give_99 : decode cX11_give 99 = .ok (.iastore, 1) := by decide +kernel
theorem dX11_give_100 : decode cX11_give 100 = .ok (.aload_n 0, 1) := by decide +kernel
theorem dX11_give_101 : decode cX11_give 101 = .ok (.dup, 1) := by decide +kernel
theorem dX11_give_102 : decode cX11_give 102 = .ok (.getfield 167, 3) := by decide +kernel
theorem dX11_give_105 : decode cX11_give 105 = .ok (.iconst 1, 1) := by decide +kernel
theorem dX11_give_106 : decode cX11_give 106 = .ok (.iadd, 1) := by decide +kernel
theorem dX11_give_107 : decode cX11_give 107 = .ok (.putfield 167, 3) := by decide +kernel
theorem dX11_give_110 : decode cX11_give 110 = .ok (.aload_n 0, 1) := by decide +kernel
theorem dX11_give_111 : decode cX11_give 111 = .ok (.dup, 1) := by decide +kernel
theorem dX11_give_112 : decode cX11_give 112 = .ok (.getfield 164, 3) := by decide +kernel
theorem dX11_give_115 : decode cX11_give 115 = .ok (.iconst 1, 1) := by decide +kernel
theorem dX11_give_116 : decode cX11_give 116 = .ok (.iadd, 1) := by decide +kernel
theorem dX11_give_117 : decode cX11_give 117 = .ok (.putfield 164, 3) := by decide +kernel
theorem dX11_give_120 : decode cX11_give 120 = .ok (.iconst 0, 1) := by decide +kernel
theorem dX11_give_121 : decode cX11_give 121 = .ok (.istore 6, 2) := by decide +kernel
theorem dX11_give_123 : decode cX11_give 123 = .ok (.iconst 0, 1) := by decide +kernel
theorem dX11_give_124 : decode cX11_give 124 = .ok (.istore 7, 2) := by decide +kernel
theorem dX11_give_126 : decode cX11_give 126 = .ok (.iload 7, 2) := by decide +kernel
theorem dX11_give_128 : decode cX11_give 128 = .ok (.bipush 24, 2) := by decide +kernel
theorem dX11_give_130 : decode cX11_give 130 = .ok (.if_icmp .ge 34, 3) := by decide +kernel
theorem dX11_give_133 : decode cX11_give 133 = .ok (.iload 6, 2) := by decide +kernel
theorem dX11_give_135 : decode cX11_give 135 = .ok (.aload_n 0, 1) := by decide +kernel
theorem dX11_give_136 : decode cX11_give 136 = .ok (.iload 7, 2) := by decide +kernel
theorem dX11_give_138 : decode cX11_give 138 = .ok (.aload_n 0, 1) := by decide +kernel
theorem dX11_give_139 : decode cX11_give 139 = .ok (.getfield 164, 3) := by decide +kernel
theorem dX11_give_142 : decode cX11_give 142 = .ok (.invokevirtual 170, 3) := by decide +kernel
theorem dX11_give_145 : decode cX11_give 145 = .ok (.iload 4, 2) := by decide +kernel
theorem dX11_give_147 : decode cX11_give 147 = .ok (.if_icmp .ne 7, 3) := by decide +kernel
theorem dX11_give_150 : decode cX11_give 150 = .ok (.iconst 1, 1) := by decide +kernel
theorem dX11_give_151 : decode cX11_give 151 = .ok (.goto 4, 3) := by decide +kernel
theorem dX11_give_154 : decode cX11_give 154 = .ok (.iconst 0, 1) := by decide +kernel
theorem dX11_give_155 : decode cX11_give 155 = .ok (.iadd, 1) := by decide +kernel
theorem dX11_give_156 : decode cX11_give 156 = .ok (.istore 6, 2) := by decide +kernel
theorem dX11_give_158 : decode cX11_give 158 = .ok (.iinc 7 1, 3) := by decide +kernel
theorem dX11_give_161 : decode cX11_give 161 = .ok (.goto (-35), 3) := by decide +kernel
theorem dX11_give_164 : decode cX11_give 164 = .ok (.iload 6, 2) := by decide +kernel
theorem dX11_give_166 : decode cX11_give 166 = .ok (.ireturn, 1) := by decide +kernel
theorem dX11_let_0 : decode cX11_let 0 = .ok (.aload_n 0, 1) := by decide +kernel
theorem dX11_let_1 : decode cX11_let 1 = .ok (.iload_n 1, 1) := by decide +kernel
theorem dX11_let_2 : decode cX11_let 2 = .ok (.invokestatic 177, 3) := by decide +kernel
theorem dX11_let_5 : decode cX11_let 5 = .ok (.ifCond .eq 32, 3) := by decide +kernel
theorem dX11_let_8 : decode cX11_let 8 = .ok (.iload_n 2, 1) := by decide +kernel
theorem dX11_let_9 : decode cX11_let 9 = .ok (.invokestatic 177, 3) := by decide +kernel
theorem dX11_let_12 : decode cX11_let 12 = .ok (.ifCond .eq 25, 3) := by decide +kernel
theorem dX11_let_15 : decode cX11_let 15 = .ok (.iload_n 3, 1) := by decide +kernel
theorem dX11_let_16 : decode cX11_let 16 = .ok (.iload 4, 2) := by decide +kernel
theorem dX11_let_18 : decode cX11_let 18 = .ok (.invokestatic 181, 3) := by decide +kernel
theorem dX11_let_21 : decode cX11_let 21 = .ok (.ifCond .eq 16, 3) := by decide +kernel
theorem dX11_let_24 : decode cX11_let 24 = .ok (.iload_n 3, 1) := by decide +kernel
theorem dX11_let_25 : decode cX11_let 25 = .ok (.iload 5, 2) := by decide +kernel
theorem dX11_let_27 : decode cX11_let 27 = .ok (.invokestatic 181, 3) := by decide +kernel
theorem dX11_let_30 : decode cX11_let 30 = .ok (.ifCond .eq 7, 3) := by decide +kernel
theorem dX11_let_33 : decode cX11_let 33 = .ok (.iconst 1, 1) := by decide +kernel
theorem dX11_let_34 : decode cX11_let 34 = .ok (.goto 4, 3) := by decide +kernel
theorem dX11_let_37 : decode cX11_let 37 = .ok (.iconst 0, 1) := by decide +kernel
theorem dX11_let_38 : decode cX11_let 38 = .ok (.invokevirtual 185, 3) := by decide +kernel
theorem dX11_let_41 : decode cX11_let 41 = .ok (.ifCond .ne 5, 3) := by decide +kernel
theorem dX11_let_44 : decode cX11_let 44 = .ok (.iconst 0, 1) := by decide +kernel
theorem dX11_let_45 : decode cX11_let 45 = .ok (.ireturn, 1) := by decide +kernel
theorem dX11_let_46 : decode cX11_let 46 = .ok (.iload_n 1, 1) := by decide +kernel
theorem dX11_let_47 : decode cX11_let 47 = .ok (.iload_n 2, 1) := by decide +kernel
theorem dX11_let_48 : decode cX11_let 48 = .ok (.if_icmp .eq 10, 3) := by decide +kernel
theorem dX11_let_51 : decode cX11_let 51 = .ok (.iload 5, 2) := by decide +kernel
theorem dX11_let_53 : decode cX11_let 53 = .ok (.iload 4, 2) := by decide +kernel
theorem dX11_let_55 : decode cX11_let 55 = .ok (.if_icmp .ge 9, 3) := by decide +kernel
theorem dX11_let_58 : decode cX11_let 58 = .ok (.aload_n 0, 1) := by decide +kernel
theorem dX11_let_59 : decode cX11_let 59 = .ok (.iconst 2, 1) := by decide +kernel
theorem dX11_let_60 : decode cX11_let 60 = .ok (.invokevirtual 189, 3) := by decide +kernel
theorem dX11_let_63 : decode cX11_let 63 = .ok (.ireturn, 1) := by decide +kernel
theorem dX11_let_64 : decode cX11_let 64 = .ok (.iconst 0, 1) := by decide +kernel
theorem dX11_let_65 : decode cX11_let 65 = .ok (.istore 7, 2) := by decide +kernel
theorem dX11_let_67 : decode cX11_let 67 = .ok (.iload 4, 2) := by decide +kernel
theorem dX11_let_69 : decode cX11_let 69 = .ok (.istore 8, 2) := by decide +kernel
theorem dX11_let_71 : decode cX11_let 71 = .ok (.iload 8, 2) := by decide +kernel
theorem dX11_let_73 : decode cX11_let 73 = .ok (.iload 5, 2) := by decide +kernel
theorem dX11_let_75 : decode cX11_let 75 = .ok (.if_icmp .gt 38, 3) := by decide +kernel
theorem dX11_let_78 : decode cX11_let 78 = .ok (.iload 7, 2) := by decide +kernel
theorem dX11_let_80 : decode cX11_let 80 = .ok (.aload_n 0, 1) := by decide +kernel
theorem dX11_let_81 : decode cX11_let 81 = .ok (.bipush 6, 2) := by decide +kernel
theorem dX11_let_83 : decode cX11_let 83 = .ok (.iload_n 3, 1) := by decide +kernel
theorem dX11_let_84 : decode cX11_let 84 = .ok (.imul, 1) := by decide +kernel
theorem dX11_let_85 : decode cX11_let 85 = .ok (.iload 8, 2) := by decide +kernel
theorem dX11_let_87 : decode cX11_let 87 = .ok (.iadd, 1) := by decide +kernel
theorem dX11_let_88 : decode cX11_let 88 = .ok (.aload_n 0, 1) := by decide +kernel
theorem dX11_let_89 : decode cX11_let 89 = .ok (.getfield 164, 3) := by decide +kernel
theorem dX11_let_92 : decode cX11_let 92 = .ok (.invokevirtual 170, 3) := by decide +kernel
theorem dX11_let_95 : decode cX11_let 95 = .ok (.iload_n 1, 1) := by decide +kernel
theorem dX11_let_96 : decode cX11_let 96 = .ok (.if_icmp .ne 7, 3) := by decide +kernel
theorem dX11_let_99 : decode cX11_let 99 = .ok (.iconst 1, 1) := by decide +kernel
theorem dX11_let_100 : decode cX11_let 100 = .ok (.goto 4, 3) := by decide +kernel
theorem dX11_let_103 : decode cX11_let 103 = .ok (.iconst 0, 1) := by decide +kernel
theorem dX11_let_104 : decode cX11_let 104 = .ok (.iadd, 1) := by decide +kernel
theorem dX11_let_105 : decode cX11_let 105 = .ok (.istore 7, 2) := by decide +kernel
theorem dX11_let_107 : decode cX11_let 107 = .ok (.iinc 8 1, 3) := by decide +kernel
theorem dX11_let_110 : decode cX11_let 110 = .ok (.goto (-39), 3) := by decide +kernel
theorem dX11_let_113 : decode cX11_let 113 = .ok (.aload_n 0, 1) := by decide +kernel
theorem dX11_let_114 : decode cX11_let 114 = .ok (.getfield 19, 3) := by decide +kernel
theorem dX11_let_117 : decode cX11_let 117 = .ok (.aload_n 0, 1) := by decide +kernel
theorem dX11_let_118 : decode cX11_let 118 = .ok (.getfield 174, 3) := by decide +kernel
theorem dX11_let_121 : decode cX11_let 121 = .ok (.aload_n 0, 1) := by decide +kernel
theorem dX11_let_122 : decode cX11_let 122 = .ok (.getfield 164, 3) := by decide +kernel
theorem dX11_let_125 : decode cX11_let 125 = .ok (.iastore, 1) := by decide +kernel
theorem dX11_let_126 : decode cX11_let 126 = .ok (.aload_n 0, 1) := by decide +kernel
theorem dX11_let_127 : decode cX11_let 127 = .ok (.getfield 22, 3) := by decide +kernel
theorem dX11_let_130 : decode cX11_let 130 = .ok (.aload_n 0, 1) := by decide +kernel
theorem dX11_let_131 : decode cX11_let 131 = .ok (.getfield 174, 3) := by decide +kernel
theorem dX11_let_134 : decode cX11_let 134 = .ok (.iload_n 1, 1) := by decide +kernel
theorem dX11_let_135 : decode cX11_let 135 = .ok (.iastore, 1) := by decide +kernel
theorem dX11_let_136 : decode cX11_let 136 = .ok (.aload_n 0, 1) := by decide +kernel
theorem dX11_let_137 : decode cX11_let 137 = .ok (.getfield 25, 3) := by decide +kernel
theorem dX11_let_140 : decode cX11_let 140 = .ok (.aload_n 0, 1) := by decide +kernel
theorem dX11_let_141 : decode cX11_let 141 = .ok (.getfield 174, 3) := by decide +kernel
theorem dX11_let_144 : decode cX11_let 144 = .ok (.iload_n 2, 1) := by decide +kernel
theorem dX11_let_145 : decode cX11_let 145 = .ok (.iastore, 1) := by decide +kernel
theorem dX11_let_146 : decode cX11_let 146 = .ok (.aload_n 0, 1) := by decide +kernel
theorem dX11_let_147 : decode cX11_let 147 = .ok (.getfield 28, 3) := by decide +kernel
theorem dX11_let_150 : decode cX11_let 150 = .ok (.aload_n 0, 1) := by decide +kernel
theorem dX11_let_151 : decode cX11_let 151 = .ok (.getfield 174, 3) := by decide +kernel
theorem dX11_let_154 : decode cX11_let 154 = .ok (.iload_n 3, 1) := by decide +kernel
theorem dX11_let_155 : decode cX11_let 155 = .ok (.iconst 4, 1) := by decide +kernel
theorem dX11_let_156 : decode cX11_let 156 = .ok (.iload 4, 2) := by decide +kernel
theorem dX11_let_158 : decode cX11_let 158 = .ok (.imul, 1) := by decide +kernel
theorem dX11_let_159 : decode cX11_let 159 = .ok (.iadd, 1) := by decide +kernel
theorem dX11_let_160 : decode cX11_let 160 = .ok (.bipush 32, 2) := by decide +kernel
theorem dX11_let_162 : decode cX11_let 162 = .ok (.iload 5, 2) := by decide +kernel
theorem dX11_let_164 : decode cX11_let 164 = .ok (.imul, 1) := by decide +kernel
theorem dX11_let_165 : decode cX11_let 165 = .ok (.iadd, 1) := by decide +kernel
theorem dX11_let_166 : decode cX11_let 166 = .ok (.iload 6, 2) := by decide +kernel
theorem dX11_let_168 : decode cX11_let 168 = .ok (.ifCond .eq 9, 3) := by decide +kernel
theorem dX11_let_171 : decode cX11_let 171 = .ok (.sipush 256, 3) := by decide +kernel
theorem dX11_let_174 : decode cX11_let 174 = .ok (.goto 4, 3) := by decide +kernel
theorem dX11_let_177 : decode cX11_let 177 = .ok (.iconst 0, 1) := by decide +kernel
theorem dX11_let_178 : decode cX11_let 178 = .ok (.iadd, 1) := by decide +kernel
theorem dX11_let_179 : decode cX11_let 179 = .ok (.iastore, 1) := by decide +kernel
theorem dX11_let_180 : decode cX11_let 180 = .ok (.aload_n 0, 1) := by decide +kernel
theorem dX11_let_181 : decode cX11_let 181 = .ok (.dup, 1) := by decide +kernel
theorem dX11_let_182 : decode cX11_let 182 = .ok (.getfield 174, 3) := by decide +kernel
theorem dX11_let_185 : decode cX11_let 185 = .ok (.iconst 1, 1) := by decide +kernel
theorem dX11_let_186 : decode cX11_let 186 = .ok (.iadd, 1) := by decide +kernel
theorem dX11_let_187 : decode cX11_let 187 = .ok (.putfield 174, 3) := by decide +kernel
theorem dX11_let_190 : decode cX11_let 190 = .ok (.aload_n 0, 1) := by decide +kernel
theorem dX11_let_191 : decode cX11_let 191 = .ok (.iload 7, 2) := by decide +kernel
theorem dX11_let_193 : decode cX11_let 193 = .ok (.invokevirtual 193, 3) := by decide +kernel
theorem dX11_let_196 : decode cX11_let 196 = .ok (.ireturn, 1) := by decide +kernel
theorem dX11_ownerOf_0 : decode cX11_ownerOf 0 = .ok (.aload_n 0, 1) := by decide +kernel
theorem dX11_ownerOf_1 : decode cX11_ownerOf 1 = .ok (.iload_n 1, 1) := by decide +kernel
theorem dX11_ownerOf_2 : decode cX11_ownerOf 2 = .ok (.iload_n 2, 1) := by decide +kernel
theorem dX11_ownerOf_3 : decode cX11_ownerOf 3 = .ok (.invokestatic 181, 3) := by decide +kernel
theorem dX11_ownerOf_6 : decode cX11_ownerOf 6 = .ok (.invokevirtual 185, 3) := by decide +kernel
theorem dX11_ownerOf_9 : decode cX11_ownerOf 9 = .ok (.ifCond .eq 20, 3) := by decide +kernel
theorem dX11_ownerOf_12 : decode cX11_ownerOf 12 = .ok (.aload_n 0, 1) := by decide +kernel
theorem dX11_ownerOf_13 : decode cX11_ownerOf 13 = .ok (.bipush 6, 2) := by decide +kernel
theorem dX11_ownerOf_15 : decode cX11_ownerOf 15 = .ok (.iload_n 1, 1) := by decide +kernel
theorem dX11_ownerOf_16 : decode cX11_ownerOf 16 = .ok (.imul, 1) := by decide +kernel
theorem dX11_ownerOf_17 : decode cX11_ownerOf 17 = .ok (.iload_n 2, 1) := by decide +kernel
theorem dX11_ownerOf_18 : decode cX11_ownerOf 18 = .ok (.iadd, 1) := by decide +kernel
theorem dX11_ownerOf_19 : decode cX11_ownerOf 19 = .ok (.aload_n 0, 1) := by decide +kernel
theorem dX11_ownerOf_20 : decode cX11_ownerOf 20 = .ok (.getfield 164, 3) := by decide +kernel
theorem dX11_ownerOf_23 : decode cX11_ownerOf 23 = .ok (.invokevirtual 170, 3) := by decide +kernel
theorem dX11_ownerOf_26 : decode cX11_ownerOf 26 = .ok (.goto 4, 3) := by decide +kernel
theorem dX11_ownerOf_29 : decode cX11_ownerOf 29 = .ok (.iconst 0, 1) := by decide +kernel
theorem dX11_ownerOf_30 : decode cX11_ownerOf 30 = .ok (.ireturn, 1) := by decide +kernel
theorem dX11_reads_0 : decode cX11_reads 0 = .ok (.aload_n 0, 1) := by decide +kernel
theorem dX11_reads_1 : decode cX11_reads 1 = .ok (.iload_n 1, 1) := by decide +kernel
theorem dX11_reads_2 : decode cX11_reads 2 = .ok (.invokestatic 177, 3) := by decide +kernel
theorem dX11_reads_5 : decode cX11_reads 5 = .ok (.ifCond .eq 15, 3) := by decide +kernel
theorem dX11_reads_8 : decode cX11_reads 8 = .ok (.iload_n 2, 1) := by decide +kernel
theorem dX11_reads_9 : decode cX11_reads 9 = .ok (.iload_n 3, 1) := by decide +kernel
theorem dX11_reads_10 : decode cX11_reads 10 = .ok (.invokestatic 181, 3) := by decide +kernel
theorem dX11_reads_13 : decode cX11_reads 13 = .ok (.ifCond .eq 7, 3) := by decide +kernel
theorem dX11_reads_16 : decode cX11_reads 16 = .ok (.iconst 1, 1) := by decide +kernel
theorem dX11_reads_17 : decode cX11_reads 17 = .ok (.goto 4, 3) := by decide +kernel
theorem dX11_reads_20 : decode cX11_reads 20 = .ok (.iconst 0, 1) := by decide +kernel
theorem dX11_reads_21 : decode cX11_reads 21 = .ok (.invokevirtual 185, 3) := by decide +kernel
theorem dX11_reads_24 : decode cX11_reads 24 = .ok (.ifCond .eq 25, 3) := by decide +kernel
theorem dX11_reads_27 : decode cX11_reads 27 = .ok (.aload_n 0, 1) := by decide +kernel
theorem dX11_reads_28 : decode cX11_reads 28 = .ok (.iload_n 1, 1) := by decide +kernel
theorem dX11_reads_29 : decode cX11_reads 29 = .ok (.bipush 6, 2) := by decide +kernel
theorem dX11_reads_31 : decode cX11_reads 31 = .ok (.iload_n 2, 1) := by decide +kernel
theorem dX11_reads_32 : decode cX11_reads 32 = .ok (.imul, 1) := by decide +kernel
theorem dX11_reads_33 : decode cX11_reads 33 = .ok (.iload_n 3, 1) := by decide +kernel
theorem dX11_reads_34 : decode cX11_reads 34 = .ok (.iadd, 1) := by decide +kernel
theorem dX11_reads_35 : decode cX11_reads 35 = .ok (.aload_n 0, 1) := by decide +kernel
theorem dX11_reads_36 : decode cX11_reads 36 = .ok (.getfield 164, 3) := by decide +kernel
theorem dX11_reads_39 : decode cX11_reads 39 = .ok (.invokevirtual 196, 3) := by decide +kernel
theorem dX11_reads_42 : decode cX11_reads 42 = .ok (.ifCond .eq 7, 3) := by decide +kernel
theorem dX11_reads_45 : decode cX11_reads 45 = .ok (.iconst 1, 1) := by decide +kernel
theorem dX11_reads_46 : decode cX11_reads 46 = .ok (.goto 4, 3) := by decide +kernel
theorem dX11_reads_49 : decode cX11_reads 49 = .ok (.iconst 0, 1) := by decide +kernel
theorem dX11_reads_50 : decode cX11_reads 50 = .ok (.ireturn, 1) := by decide +kernel
theorem dX11_takes_0 : decode cX11_takes 0 = .ok (.iload_n 0, 1) := by decide +kernel
theorem dX11_takes_1 : decode cX11_takes 1 = .ok (.bipush 8, 2) := by decide +kernel
theorem dX11_takes_3 : decode cX11_takes 3 = .ok (.if_icmp .ge 7, 3) := by decide +kernel
theorem dX11_takes_6 : decode cX11_takes 6 = .ok (.iconst 0, 1) := by decide +kernel
theorem dX11_takes_7 : decode cX11_takes 7 = .ok (.goto 14, 3) := by decide +kernel
theorem dX11_takes_10 : decode cX11_takes 10 = .ok (.iload_n 0, 1) := by decide +kernel
theorem dX11_takes_11 : decode cX11_takes 11 = .ok (.bipush 14, 2) := by decide +kernel
theorem dX11_takes_13 : decode cX11_takes 13 = .ok (.if_icmp .ne 7, 3) := by decide +kernel
theorem dX11_takes_16 : decode cX11_takes 16 = .ok (.iconst 3, 1) := by decide +kernel
theorem dX11_takes_17 : decode cX11_takes 17 = .ok (.goto 4, 3) := by decide +kernel
theorem dX11_takes_20 : decode cX11_takes 20 = .ok (.iconst 2, 1) := by decide +kernel
theorem dX11_takes_21 : decode cX11_takes 21 = .ok (.ireturn, 1) := by decide +kernel
theorem dX11_pileOfDraft_0 : decode cX11_pileOfDraft 0 = .ok (.iconst 0, 1) := by decide +kernel
theorem dX11_pileOfDraft_1 : decode cX11_pileOfDraft 1 = .ok (.istore_n 1, 1) := by decide +kernel
theorem dX11_pileOfDraft_2 : decode cX11_pileOfDraft 2 = .ok (.iconst 0, 1) := by decide +kernel
theorem dX11_pileOfDraft_3 : decode cX11_pileOfDraft 3 = .ok (.istore_n 2, 1) := by decide +kernel
theorem dX11_pileOfDraft_4 : decode cX11_pileOfDraft 4 = .ok (.iload_n 2, 1) := by decide +kernel
theorem dX11_pileOfDraft_5 : decode cX11_pileOfDraft 5 = .ok (.aload_n 0, 1) := by decide +kernel
theorem dX11_pileOfDraft_6 : decode cX11_pileOfDraft 6 = .ok (.getfield 200, 3) := by decide +kernel
theorem dX11_pileOfDraft_9 : decode cX11_pileOfDraft 9 = .ok (.if_icmp .ge 25, 3) := by decide +kernel
theorem dX11_pileOfDraft_12 : decode cX11_pileOfDraft 12 = .ok (.iload_n 1, 1) := by decide +kernel
theorem dX11_pileOfDraft_13 : decode cX11_pileOfDraft 13 = .ok (.iconst 1, 1) := by decide +kernel
theorem dX11_pileOfDraft_14 : decode cX11_pileOfDraft 14 = .ok (.aload_n 0, 1) := by decide +kernel
theorem dX11_pileOfDraft_15 : decode cX11_pileOfDraft 15 = .ok (.getfield 31, 3) := by decide +kernel
theorem dX11_pileOfDraft_18 : decode cX11_pileOfDraft 18 = .ok (.iconst 3, 1) := by decide +kernel
theorem dX11_pileOfDraft_19 : decode cX11_pileOfDraft 19 = .ok (.iload_n 2, 1) := by decide +kernel
theorem dX11_pileOfDraft_20 : decode cX11_pileOfDraft 20 = .ok (.imul, 1) := by decide +kernel
theorem dX11_pileOfDraft_21 : decode cX11_pileOfDraft 21 = .ok (.iaload, 1) := by decide +kernel
theorem dX11_pileOfDraft_22 : decode cX11_pileOfDraft 22 = .ok (.invokestatic 203, 3) := by decide +kernel
theorem dX11_pileOfDraft_25 : decode cX11_pileOfDraft 25 = .ok (.isub, 1) := by decide +kernel
theorem dX11_pileOfDraft_26 : decode cX11_pileOfDraft 26 = .ok (.iadd, 1) := by decide +kernel
theorem dX11_pileOfDraft_27 : decode cX11_pileOfDraft 27 = .ok (.istore_n 1, 1) := by decide +kernel
theorem dX11_pileOfDraft_28 : decode cX11_pileOfDraft 28 = .ok (.iinc 2 1, 3) := by decide +kernel
theorem dX11_pileOfDraft_31 : decode cX11_pileOfDraft 31 = .ok (.goto (-27), 3) := by decide +kernel
theorem dX11_pileOfDraft_34 : decode cX11_pileOfDraft 34 = .ok (.iload_n 1, 1) := by decide +kernel
theorem dX11_pileOfDraft_35 : decode cX11_pileOfDraft 35 = .ok (.ireturn, 1) := by decide +kernel
theorem dX11_word_0 : decode cX11_word 0 = .ok (.iload_n 1, 1) := by decide +kernel
theorem dX11_word_1 : decode cX11_word 1 = .ok (.ifCond .ne 14, 3) := by decide +kernel
theorem dX11_word_4 : decode cX11_word 4 = .ok (.iload_n 2, 1) := by decide +kernel
theorem dX11_word_5 : decode cX11_word 5 = .ok (.ldc 206, 2) := by decide +kernel
theorem dX11_word_7 : decode cX11_word 7 = .ok (.ldc 207, 2) := by decide +kernel
theorem dX11_word_9 : decode cX11_word 9 = .ok (.invokestatic 208, 3) := by decide +kernel
theorem dX11_word_12 : decode cX11_word 12 = .ok (.goto 23, 3) := by decide +kernel
theorem dX11_word_15 : decode cX11_word 15 = .ok (.iload_n 1, 1) := by decide +kernel
theorem dX11_word_16 : decode cX11_word 16 = .ok (.bipush 7, 2) := by decide +kernel
theorem dX11_word_18 : decode cX11_word 18 = .ok (.if_icmp .gt 12, 3) := by decide +kernel
theorem dX11_word_21 : decode cX11_word 21 = .ok (.iload_n 2, 1) := by decide +kernel
theorem dX11_word_22 : decode cX11_word 22 = .ok (.iconst 0, 1) := by decide +kernel
theorem dX11_word_23 : decode cX11_word 23 = .ok (.iconst 3, 1) := by decide +kernel
theorem dX11_word_24 : decode cX11_word 24 = .ok (.invokestatic 208, 3) := by decide +kernel
theorem dX11_word_27 : decode cX11_word 27 = .ok (.ifCond .eq 7, 3) := by decide +kernel
theorem dX11_word_30 : decode cX11_word 30 = .ok (.iconst 1, 1) := by decide +kernel
theorem dX11_word_31 : decode cX11_word 31 = .ok (.goto 4, 3) := by decide +kernel
theorem dX11_word_34 : decode cX11_word 34 = .ok (.iconst 0, 1) := by decide +kernel
theorem dX11_word_35 : decode cX11_word 35 = .ok (.istore 4, 2) := by decide +kernel
theorem dX11_word_37 : decode cX11_word 37 = .ok (.aload_n 0, 1) := by decide +kernel
theorem dX11_word_38 : decode cX11_word 38 = .ok (.iload_n 1, 1) := by decide +kernel
theorem dX11_word_39 : decode cX11_word 39 = .ok (.iconst 0, 1) := by decide +kernel
theorem dX11_word_40 : decode cX11_word 40 = .ok (.bipush 14, 2) := by decide +kernel
theorem dX11_word_42 : decode cX11_word 42 = .ok (.invokestatic 208, 3) := by decide +kernel
theorem dX11_word_45 : decode cX11_word 45 = .ok (.ifCond .eq 26, 3) := by decide +kernel
theorem dX11_word_48 : decode cX11_word 48 = .ok (.iload 4, 2) := by decide +kernel
theorem dX11_word_50 : decode cX11_word 50 = .ok (.ifCond .eq 21, 3) := by decide +kernel
theorem dX11_word_53 : decode cX11_word 53 = .ok (.iload_n 1, 1) := by decide +kernel
theorem dX11_word_54 : decode cX11_word 54 = .ok (.iconst 1, 1) := by decide +kernel
theorem dX11_word_55 : decode cX11_word 55 = .ok (.if_icmp .ne 12, 3) := by decide +kernel
theorem dX11_word_58 : decode cX11_word 58 = .ok (.iload_n 3, 1) := by decide +kernel
theorem dX11_word_59 : decode cX11_word 59 = .ok (.iconst 0, 1) := by decide +kernel
theorem dX11_word_60 : decode cX11_word 60 = .ok (.iconst 5, 1) := by decide +kernel
theorem dX11_word_61 : decode cX11_word 61 = .ok (.invokestatic 208, 3) := by decide +kernel
theorem dX11_word_64 : decode cX11_word 64 = .ok (.ifCond .eq 7, 3) := by decide +kernel
theorem dX11_word_67 : decode cX11_word 67 = .ok (.iconst 1, 1) := by decide +kernel
theorem dX11_word_68 : decode cX11_word 68 = .ok (.goto 4, 3) := by decide +kernel
theorem dX11_word_71 : decode cX11_word 71 = .ok (.iconst 0, 1) := by decide +kernel
theorem dX11_word_72 : decode cX11_word 72 = .ok (.invokevirtual 185, 3) := by decide +kernel
theorem dX11_word_75 : decode cX11_word 75 = .ok (.ifCond .ne 5, 3) := by decide +kernel
theorem dX11_word_78 : decode cX11_word 78 = .ok (.iconst 0, 1) := by decide +kernel
theorem dX11_word_79 : decode cX11_word 79 = .ok (.ireturn, 1) := by decide +kernel
theorem dX11_word_80 : decode cX11_word 80 = .ok (.aload_n 0, 1) := by decide +kernel
theorem dX11_word_81 : decode cX11_word 81 = .ok (.getfield 200, 3) := by decide +kernel
theorem dX11_word_84 : decode cX11_word 84 = .ok (.bipush 12, 2) := by decide +kernel
theorem dX11_word_86 : decode cX11_word 86 = .ok (.if_icmp .eq 14, 3) := by decide +kernel
theorem dX11_word_89 : decode cX11_word 89 = .ok (.aload_n 0, 1) := by decide +kernel
theorem dX11_word_90 : decode cX11_word 90 = .ok (.invokevirtual 211, 3) := by decide +kernel
theorem dX11_word_93 : decode cX11_word 93 = .ok (.iload_n 1, 1) := by decide +kernel
theorem dX11_word_94 : decode cX11_word 94 = .ok (.invokestatic 203, 3) := by decide +kernel
theorem dX11_word_97 : decode cX11_word 97 = .ok (.if_icmp .ge 9, 3) := by decide +kernel
theorem dX11_word_100 : decode cX11_word 100 = .ok (.aload_n 0, 1) := by decide +kernel
theorem dX11_word_101 : decode cX11_word 101 = .ok (.iconst 2, 1) := by decide +kernel
theorem dX11_word_102 : decode cX11_word 102 = .ok (.invokevirtual 189, 3) := by decide +kernel
theorem dX11_word_105 : decode cX11_word 105 = .ok (.ireturn, 1) := by decide +kernel
theorem dX11_word_106 : decode cX11_word 106 = .ok (.aload_n 0, 1) := by decide +kernel
theorem dX11_word_107 : decode cX11_word 107 = .ok (.getfield 31, 3) := by decide +kernel
theorem dX11_word_110 : decode cX11_word 110 = .ok (.iconst 3, 1) := by decide +kernel
theorem dX11_word_111 : decode cX11_word 111 = .ok (.aload_n 0, 1) := by decide +kernel
theorem dX11_word_112 : decode cX11_word 112 = .ok (.getfield 200, 3) := by decide +kernel
theorem dX11_word_115 : decode cX11_word 115 = .ok (.imul, 1) := by decide +kernel
theorem dX11_word_116 : decode cX11_word 116 = .ok (.iload_n 1, 1) := by decide +kernel
theorem dX11_word_117 : decode cX11_word 117 = .ok (.iastore, 1) := by decide +kernel
theorem dX11_word_118 : decode cX11_word 118 = .ok (.aload_n 0, 1) := by decide +kernel
theorem dX11_word_119 : decode cX11_word 119 = .ok (.getfield 31, 3) := by decide +kernel
theorem dX11_word_122 : decode cX11_word 122 = .ok (.iconst 3, 1) := by decide +kernel
theorem dX11_word_123 : decode cX11_word 123 = .ok (.aload_n 0, 1) := by decide +kernel
theorem dX11_word_124 : decode cX11_word 124 = .ok (.getfield 200, 3) := by decide +kernel
theorem dX11_word_127 : decode cX11_word 127 = .ok (.imul, 1) := by decide +kernel
theorem dX11_word_128 : decode cX11_word 128 = .ok (.iconst 1, 1) := by decide +kernel
theorem dX11_word_129 : decode cX11_word 129 = .ok (.iadd, 1) := by decide +kernel
theorem dX11_word_130 : decode cX11_word 130 = .ok (.iload_n 2, 1) := by decide +kernel
theorem dX11_word_131 : decode cX11_word 131 = .ok (.iastore, 1) := by decide +kernel
theorem dX11_word_132 : decode cX11_word 132 = .ok (.aload_n 0, 1) := by decide +kernel
theorem dX11_word_133 : decode cX11_word 133 = .ok (.getfield 31, 3) := by decide +kernel
theorem dX11_word_136 : decode cX11_word 136 = .ok (.iconst 3, 1) := by decide +kernel
theorem dX11_word_137 : decode cX11_word 137 = .ok (.aload_n 0, 1) := by decide +kernel
theorem dX11_word_138 : decode cX11_word 138 = .ok (.getfield 200, 3) := by decide +kernel
theorem dX11_word_141 : decode cX11_word 141 = .ok (.imul, 1) := by decide +kernel
theorem dX11_word_142 : decode cX11_word 142 = .ok (.iconst 2, 1) := by decide +kernel
theorem dX11_word_143 : decode cX11_word 143 = .ok (.iadd, 1) := by decide +kernel
theorem dX11_word_144 : decode cX11_word 144 = .ok (.iload_n 3, 1) := by decide +kernel
theorem dX11_word_145 : decode cX11_word 145 = .ok (.iastore, 1) := by decide +kernel
theorem dX11_word_146 : decode cX11_word 146 = .ok (.aload_n 0, 1) := by decide +kernel
theorem dX11_word_147 : decode cX11_word 147 = .ok (.dup, 1) := by decide +kernel
theorem dX11_word_148 : decode cX11_word 148 = .ok (.getfield 200, 3) := by decide +kernel
theorem dX11_word_151 : decode cX11_word 151 = .ok (.iconst 1, 1) := by decide +kernel
theorem dX11_word_152 : decode cX11_word 152 = .ok (.iadd, 1) := by decide +kernel
theorem dX11_word_153 : decode cX11_word 153 = .ok (.putfield 200, 3) := by decide +kernel
theorem dX11_word_156 : decode cX11_word 156 = .ok (.aload_n 0, 1) := by decide +kernel
theorem dX11_word_157 : decode cX11_word 157 = .ok (.getfield 200, 3) := by decide +kernel
theorem dX11_word_160 : decode cX11_word 160 = .ok (.ireturn, 1) := by decide +kernel
theorem dX11_wipe_0 : decode cX11_wipe 0 = .ok (.aload_n 0, 1) := by decide +kernel
theorem dX11_wipe_1 : decode cX11_wipe 1 = .ok (.iconst 0, 1) := by decide +kernel
theorem dX11_wipe_2 : decode cX11_wipe 2 = .ok (.putfield 160, 3) := by decide +kernel
theorem dX11_wipe_5 : decode cX11_wipe 5 = .ok (.aload_n 0, 1) := by decide +kernel
theorem dX11_wipe_6 : decode cX11_wipe 6 = .ok (.getfield 200, 3) := by decide +kernel
theorem dX11_wipe_9 : decode cX11_wipe 9 = .ok (.istore_n 1, 1) := by decide +kernel
theorem dX11_wipe_10 : decode cX11_wipe 10 = .ok (.aload_n 0, 1) := by decide +kernel
theorem dX11_wipe_11 : decode cX11_wipe 11 = .ok (.iconst 0, 1) := by decide +kernel
theorem dX11_wipe_12 : decode cX11_wipe 12 = .ok (.putfield 200, 3) := by decide +kernel
theorem dX11_wipe_15 : decode cX11_wipe 15 = .ok (.iload_n 1, 1) := by decide +kernel
theorem dX11_wipe_16 : decode cX11_wipe 16 = .ok (.ireturn, 1) := by decide +kernel
theorem dX11_tellsEdit_0 : decode cX11_tellsEdit 0 = .ok (.aload_n 0, 1) := by decide +kernel
theorem dX11_tellsEdit_1 : decode cX11_tellsEdit 1 = .ok (.getfield 34, 3) := by decide +kernel
theorem dX11_tellsEdit_4 : decode cX11_tellsEdit 4 = .ok (.aload_n 0, 1) := by decide +kernel
theorem dX11_tellsEdit_5 : decode cX11_tellsEdit 5 = .ok (.getfield 215, 3) := by decide +kernel
theorem dX11_tellsEdit_8 : decode cX11_tellsEdit 8 = .ok (.iload_n 2, 1) := by decide +kernel
theorem dX11_tellsEdit_9 : decode cX11_tellsEdit 9 = .ok (.iastore, 1) := by decide +kernel
theorem dX11_tellsEdit_10 : decode cX11_tellsEdit 10 = .ok (.aload_n 0, 1) := by decide +kernel
theorem dX11_tellsEdit_11 : decode cX11_tellsEdit 11 = .ok (.getfield 37, 3) := by decide +kernel
theorem dX11_tellsEdit_14 : decode cX11_tellsEdit 14 = .ok (.aload_n 0, 1) := by decide +kernel
theorem dX11_tellsEdit_15 : decode cX11_tellsEdit 15 = .ok (.getfield 215, 3) := by decide +kernel
theorem dX11_tellsEdit_18 : decode cX11_tellsEdit 18 = .ok (.iload_n 1, 1) := by decide +kernel
theorem dX11_tellsEdit_19 : decode cX11_tellsEdit 19 = .ok (.iastore, 1) := by decide +kernel
theorem dX11_tellsEdit_20 : decode cX11_tellsEdit 20 = .ok (.aload_n 0, 1) := by decide +kernel
theorem dX11_tellsEdit_21 : decode cX11_tellsEdit 21 = .ok (.getfield 40, 3) := by decide +kernel
theorem dX11_tellsEdit_24 : decode cX11_tellsEdit 24 = .ok (.aload_n 0, 1) := by decide +kernel
theorem dX11_tellsEdit_25 : decode cX11_tellsEdit 25 = .ok (.getfield 215, 3) := by decide +kernel
theorem dX11_tellsEdit_28 : decode cX11_tellsEdit 28 = .ok (.aload_n 0, 1) := by decide +kernel
theorem dX11_tellsEdit_29 : decode cX11_tellsEdit 29 = .ok (.getfield 164, 3) := by decide +kernel
theorem dX11_tellsEdit_32 : decode cX11_tellsEdit 32 = .ok (.iastore, 1) := by decide +kernel
theorem dX11_tellsEdit_33 : decode cX11_tellsEdit 33 = .ok (.aload_n 0, 1) := by decide +kernel
theorem dX11_tellsEdit_34 : decode cX11_tellsEdit 34 = .ok (.getfield 56, 3) := by decide +kernel
theorem dX11_tellsEdit_37 : decode cX11_tellsEdit 37 = .ok (.iload_n 2, 1) := by decide +kernel
theorem dX11_tellsEdit_38 : decode cX11_tellsEdit 38 = .ok (.bipush 6, 2) := by decide +kernel
theorem dX11_tellsEdit_40 : decode cX11_tellsEdit 40 = .ok (.idiv, 1) := by decide +kernel
theorem dX11_tellsEdit_41 : decode cX11_tellsEdit 41 = .ok (.iaload, 1) := by decide +kernel
theorem dX11_tellsEdit_42 : decode cX11_tellsEdit 42 = .ok (.istore 4, 2) := by decide +kernel
theorem dX11_tellsEdit_44 : decode cX11_tellsEdit 44 = .ok (.aload_n 0, 1) := by decide +kernel
theorem dX11_tellsEdit_45 : decode cX11_tellsEdit 45 = .ok (.getfield 43, 3) := by decide +kernel
theorem dX11_tellsEdit_48 : decode cX11_tellsEdit 48 = .ok (.aload_n 0, 1) := by decide +kernel
theorem dX11_tellsEdit_49 : decode cX11_tellsEdit 49 = .ok (.getfield 215, 3) := by decide +kernel
theorem dX11_tellsEdit_52 : decode cX11_tellsEdit 52 = .ok (.aload_n 0, 1) := by decide +kernel
theorem dX11_tellsEdit_53 : decode cX11_tellsEdit 53 = .ok (.getfield 164, 3) := by decide +kernel
theorem dX11_tellsEdit_56 : decode cX11_tellsEdit 56 = .ok (.iload 4, 2) := by decide +kernel
theorem dX11_tellsEdit_58 : decode cX11_tellsEdit 58 = .ok (.iconst 1, 1) := by decide +kernel
theorem dX11_tellsEdit_59 : decode cX11_tellsEdit 59 = .ok (.if_icmp .ge 7, 3) := by decide +kernel
theorem dX11_tellsEdit_62 : decode cX11_tellsEdit 62 = .ok (.iconst 1, 1) := by decide +kernel
theorem dX11_tellsEdit_63 : decode cX11_tellsEdit 63 = .ok (.goto 5, 3) := by decide +kernel
theorem dX11_tellsEdit_66 : decode cX11_tellsEdit 66 = .ok (.iload 4, 2) := by decide +kernel
theorem dX11_tellsEdit_68 : decode cX11_tellsEdit 68 = .ok (.iadd, 1) := by decide +kernel
theorem dX11_tellsEdit_69 : decode cX11_tellsEdit 69 = .ok (.iastore, 1) := by decide +kernel
theorem dX11_tellsEdit_70 : decode cX11_tellsEdit 70 = .ok (.aload_n 0, 1) := by decide +kernel
theorem dX11_tellsEdit_71 : decode cX11_tellsEdit 71 = .ok (.getfield 46, 3) := by decide +kernel
theorem dX11_tellsEdit_74 : decode cX11_tellsEdit 74 = .ok (.aload_n 0, 1) := by decide +kernel
theorem dX11_tellsEdit_75 : decode cX11_tellsEdit 75 = .ok (.getfield 215, 3) := by decide +kernel
theorem dX11_tellsEdit_78 : decode cX11_tellsEdit 78 = .ok (.iload_n 3, 1) := by decide +kernel
theorem dX11_tellsEdit_79 : decode cX11_tellsEdit 79 = .ok (.iastore, 1) := by decide +kernel
theorem dX11_tellsEdit_80 : decode cX11_tellsEdit 80 = .ok (.iconst 0, 1) := by decide +kernel
theorem dX11_tellsEdit_81 : decode cX11_tellsEdit 81 = .ok (.istore 5, 2) := by decide +kernel
theorem dX11_tellsEdit_83 : decode cX11_tellsEdit 83 = .ok (.iload 5, 2) := by decide +kernel
theorem dX11_tellsEdit_85 : decode cX11_tellsEdit 85 = .ok (.iconst 3, 1) := by decide +kernel
theorem dX11_tellsEdit_86 : decode cX11_tellsEdit 86 = .ok (.iload_n 3, 1) := by decide +kernel
theorem dX11_tellsEdit_87 : decode cX11_tellsEdit 87 = .ok (.imul, 1) := by decide +kernel
theorem dX11_tellsEdit_88 : decode cX11_tellsEdit 88 = .ok (.if_icmp .ge 31, 3) := by decide +kernel
theorem dX11_tellsEdit_91 : decode cX11_tellsEdit 91 = .ok (.aload_n 0, 1) := by decide +kernel
theorem dX11_tellsEdit_92 : decode cX11_tellsEdit 92 = .ok (.getfield 53, 3) := by decide +kernel
theorem dX11_tellsEdit_95 : decode cX11_tellsEdit 95 = .ok (.bipush 36, 2) := by decide +kernel
theorem dX11_tellsEdit_97 : decode cX11_tellsEdit 97 = .ok (.aload_n 0, 1) := by decide +kernel
theorem dX11_tellsEdit_98 : decode cX11_tellsEdit 98 = .ok (.getfield 215, 3) := by decide +kernel
theorem dX11_tellsEdit_101 : decode cX11_tellsEdit 101 = .ok (.imul, 1) := by decide +kernel
theorem dX11_tellsEdit_102 : decode cX11_tellsEdit 102 = .ok (.iload 5, 2) := by decide +kernel
theorem dX11_tellsEdit_104 : decode cX11_tellsEdit 104 = .ok (.iadd, 1) := by decide +kernel
theorem dX11_tellsEdit_105 : decode cX11_tellsEdit 105 = .ok (.aload_n 0, 1) := by decide +kernel
theorem dX11_tellsEdit_106 : decode cX11_tellsEdit 106 = .ok (.getfield 31, 3) := by decide +kernel
theorem dX11_tellsEdit_109 : decode cX11_tellsEdit 109 = .ok (.iload 5, 2) := by decide +kernel
theorem dX11_tellsEdit_111 : decode cX11_tellsEdit 111 = .ok (.iaload, 1) := by decide +kernel
theorem dX11_tellsEdit_112 : decode cX11_tellsEdit 112 = .ok (.iastore, 1) := by decide +kernel
theorem dX11_tellsEdit_113 : decode cX11_tellsEdit 113 = .ok (.iinc 5 1, 3) := by decide +kernel
theorem dX11_tellsEdit_116 : decode cX11_tellsEdit 116 = .ok (.goto (-33), 3) := by decide +kernel
theorem dX11_tellsEdit_119 : decode cX11_tellsEdit 119 = .ok (.aload_n 0, 1) := by decide +kernel
theorem dX11_tellsEdit_120 : decode cX11_tellsEdit 120 = .ok (.dup, 1) := by decide +kernel
theorem dX11_tellsEdit_121 : decode cX11_tellsEdit 121 = .ok (.getfield 215, 3) := by decide +kernel
theorem dX11_tellsEdit_124 : decode cX11_tellsEdit 124 = .ok (.iconst 1, 1) := by decide +kernel
theorem dX11_tellsEdit_125 : decode cX11_tellsEdit 125 = .ok (.iadd, 1) := by decide +kernel
theorem dX11_tellsEdit_126 : decode cX11_tellsEdit 126 = .ok (.putfield 215, 3) := by decide +kernel
theorem dX11_tellsEdit_129 : decode cX11_tellsEdit 129 = .ok (.aload_n 0, 1) := by decide +kernel
theorem dX11_tellsEdit_130 : decode cX11_tellsEdit 130 = .ok (.aload_n 0, 1) := by decide +kernel
theorem dX11_tellsEdit_131 : decode cX11_tellsEdit 131 = .ok (.getfield 215, 3) := by decide +kernel
theorem dX11_tellsEdit_134 : decode cX11_tellsEdit 134 = .ok (.iconst 1, 1) := by decide +kernel
theorem dX11_tellsEdit_135 : decode cX11_tellsEdit 135 = .ok (.isub, 1) := by decide +kernel
theorem dX11_tellsEdit_136 : decode cX11_tellsEdit 136 = .ok (.invokevirtual 193, 3) := by decide +kernel
theorem dX11_tellsEdit_139 : decode cX11_tellsEdit 139 = .ok (.ireturn, 1) := by decide +kernel
theorem dX11_enter_0 : decode cX11_enter 0 = .ok (.aload_n 0, 1) := by decide +kernel
theorem dX11_enter_1 : decode cX11_enter 1 = .ok (.iload_n 1, 1) := by decide +kernel
theorem dX11_enter_2 : decode cX11_enter 2 = .ok (.invokestatic 177, 3) := by decide +kernel
theorem dX11_enter_5 : decode cX11_enter 5 = .ok (.ifCond .eq 15, 3) := by decide +kernel
theorem dX11_enter_8 : decode cX11_enter 8 = .ok (.iload_n 2, 1) := by decide +kernel
theorem dX11_enter_9 : decode cX11_enter 9 = .ok (.iload_n 3, 1) := by decide +kernel
theorem dX11_enter_10 : decode cX11_enter 10 = .ok (.invokestatic 181, 3) := by decide +kernel
theorem dX11_enter_13 : decode cX11_enter 13 = .ok (.ifCond .eq 7, 3) := by decide +kernel
theorem dX11_enter_16 : decode cX11_enter 16 = .ok (.iconst 1, 1) := by decide +kernel
theorem dX11_enter_17 : decode cX11_enter 17 = .ok (.goto 4, 3) := by decide +kernel
theorem dX11_enter_20 : decode cX11_enter 20 = .ok (.iconst 0, 1) := by decide +kernel
theorem dX11_enter_21 : decode cX11_enter 21 = .ok (.invokevirtual 185, 3) := by decide +kernel
theorem dX11_enter_24 : decode cX11_enter 24 = .ok (.ifCond .ne 5, 3) := by decide +kernel
theorem dX11_enter_27 : decode cX11_enter 27 = .ok (.iconst 0, 1) := by decide +kernel
theorem dX11_enter_28 : decode cX11_enter 28 = .ok (.ireturn, 1) := by decide +kernel
theorem dX11_enter_29 : decode cX11_enter 29 = .ok (.aload_n 0, 1) := by decide +kernel
theorem dX11_enter_30 : decode cX11_enter 30 = .ok (.bipush 6, 2) := by decide +kernel
theorem dX11_enter_32 : decode cX11_enter 32 = .ok (.iload_n 2, 1) := by decide +kernel
theorem dX11_enter_33 : decode cX11_enter 33 = .ok (.imul, 1) := by decide +kernel
theorem dX11_enter_34 : decode cX11_enter 34 = .ok (.iload_n 3, 1) := by decide +kernel
theorem dX11_enter_35 : decode cX11_enter 35 = .ok (.iadd, 1) := by decide +kernel
theorem dX11_enter_36 : decode cX11_enter 36 = .ok (.aload_n 0, 1) := by decide +kernel
theorem dX11_enter_37 : decode cX11_enter 37 = .ok (.getfield 164, 3) := by decide +kernel
theorem dX11_enter_40 : decode cX11_enter 40 = .ok (.invokevirtual 170, 3) := by decide +kernel
theorem dX11_enter_43 : decode cX11_enter 43 = .ok (.iload_n 1, 1) := by decide +kernel
theorem dX11_enter_44 : decode cX11_enter 44 = .ok (.if_icmp .ne 30, 3) := by decide +kernel
theorem dX11_enter_47 : decode cX11_enter 47 = .ok (.aload_n 0, 1) := by decide +kernel
theorem dX11_enter_48 : decode cX11_enter 48 = .ok (.getfield 62, 3) := by decide +kernel
theorem dX11_enter_51 : decode cX11_enter 51 = .ok (.iload_n 2, 1) := by decide +kernel
theorem dX11_enter_52 : decode cX11_enter 52 = .ok (.iaload, 1) := by decide +kernel
theorem dX11_enter_53 : decode cX11_enter 53 = .ok (.iconst (-1), 1) := by decide +kernel
theorem dX11_enter_54 : decode cX11_enter 54 = .ok (.if_icmp .ne 20, 3) := by decide +kernel
theorem dX11_enter_57 : decode cX11_enter 57 = .ok (.aload_n 0, 1) := by decide +kernel
theorem dX11_enter_58 : decode cX11_enter 58 = .ok (.invokevirtual 211, 3) := by decide +kernel
theorem dX11_enter_61 : decode cX11_enter 61 = .ok (.iconst 1, 1) := by decide +kernel
theorem dX11_enter_62 : decode cX11_enter 62 = .ok (.if_icmp .ne 12, 3) := by decide +kernel
theorem dX11_enter_65 : decode cX11_enter 65 = .ok (.aload_n 0, 1) := by decide +kernel
theorem dX11_enter_66 : decode cX11_enter 66 = .ok (.getfield 215, 3) := by decide +kernel
theorem dX11_enter_69 : decode cX11_enter 69 = .ok (.bipush 60, 2) := by decide +kernel
theorem dX11_enter_71 : decode cX11_enter 71 = .ok (.if_icmp .ne 9, 3) := by decide +kernel
theorem dX11_enter_74 : decode cX11_enter 74 = .ok (.aload_n 0, 1) := by decide +kernel
theorem dX11_enter_75 : decode cX11_enter 75 = .ok (.iconst 2, 1) := by decide +kernel
theorem dX11_enter_76 : decode cX11_enter 76 = .ok (.invokevirtual 189, 3) := by decide +kernel
theorem dX11_enter_79 : decode cX11_enter 79 = .ok (.ireturn, 1) := by decide +kernel
theorem dX11_enter_80 : decode cX11_enter 80 = .ok (.aload_n 0, 1) := by decide +kernel
theorem dX11_enter_81 : decode cX11_enter 81 = .ok (.iload_n 1, 1) := by decide +kernel
theorem dX11_enter_82 : decode cX11_enter 82 = .ok (.bipush 6, 2) := by decide +kernel
theorem dX11_enter_84 : decode cX11_enter 84 = .ok (.iload_n 2, 1) := by decide +kernel
theorem dX11_enter_85 : decode cX11_enter 85 = .ok (.imul, 1) := by decide +kernel
theorem dX11_enter_86 : decode cX11_enter 86 = .ok (.iload_n 3, 1) := by decide +kernel
theorem dX11_enter_87 : decode cX11_enter 87 = .ok (.iadd, 1) := by decide +kernel
theorem dX11_enter_88 : decode cX11_enter 88 = .ok (.aload_n 0, 1) := by decide +kernel
theorem dX11_enter_89 : decode cX11_enter 89 = .ok (.getfield 200, 3) := by decide +kernel
theorem dX11_enter_92 : decode cX11_enter 92 = .ok (.invokevirtual 218, 3) := by decide +kernel
theorem dX11_enter_95 : decode cX11_enter 95 = .ok (.istore 4, 2) := by decide +kernel
theorem dX11_enter_97 : decode cX11_enter 97 = .ok (.aload_n 0, 1) := by decide +kernel
theorem dX11_enter_98 : decode cX11_enter 98 = .ok (.iconst 0, 1) := by decide +kernel
theorem dX11_enter_99 : decode cX11_enter 99 = .ok (.putfield 200, 3) := by decide +kernel
theorem dX11_enter_102 : decode cX11_enter 102 = .ok (.iload 4, 2) := by decide +kernel
theorem dX11_enter_104 : decode cX11_enter 104 = .ok (.ireturn, 1) := by decide +kernel
theorem dX11_empty_0 : decode cX11_empty 0 = .ok (.aload_n 0, 1) := by decide +kernel
theorem dX11_empty_1 : decode cX11_empty 1 = .ok (.iload_n 1, 1) := by decide +kernel
theorem dX11_empty_2 : decode cX11_empty 2 = .ok (.invokestatic 177, 3) := by decide +kernel
theorem dX11_empty_5 : decode cX11_empty 5 = .ok (.ifCond .eq 15, 3) := by decide +kernel
theorem dX11_empty_8 : decode cX11_empty 8 = .ok (.iload_n 2, 1) := by decide +kernel
theorem dX11_empty_9 : decode cX11_empty 9 = .ok (.iload_n 3, 1) := by decide +kernel
theorem dX11_empty_10 : decode cX11_empty 10 = .ok (.invokestatic 181, 3) := by decide +kernel
theorem dX11_empty_13 : decode cX11_empty 13 = .ok (.ifCond .eq 7, 3) := by decide +kernel
theorem dX11_empty_16 : decode cX11_empty 16 = .ok (.iconst 1, 1) := by decide +kernel
theorem dX11_empty_17 : decode cX11_empty 17 = .ok (.goto 4, 3) := by decide +kernel
theorem dX11_empty_20 : decode cX11_empty 20 = .ok (.iconst 0, 1) := by decide +kernel
theorem dX11_empty_21 : decode cX11_empty 21 = .ok (.invokevirtual 185, 3) := by decide +kernel
theorem dX11_empty_24 : decode cX11_empty 24 = .ok (.ifCond .ne 5, 3) := by decide +kernel
theorem dX11_empty_27 : decode cX11_empty 27 = .ok (.iconst 0, 1) := by decide +kernel
theorem dX11_empty_28 : decode cX11_empty 28 = .ok (.ireturn, 1) := by decide +kernel
theorem dX11_empty_29 : decode cX11_empty 29 = .ok (.aload_n 0, 1) := by decide +kernel
theorem dX11_empty_30 : decode cX11_empty 30 = .ok (.bipush 6, 2) := by decide +kernel
theorem dX11_empty_32 : decode cX11_empty 32 = .ok (.iload_n 2, 1) := by decide +kernel
theorem dX11_empty_33 : decode cX11_empty 33 = .ok (.imul, 1) := by decide +kernel
theorem dX11_empty_34 : decode cX11_empty 34 = .ok (.iload_n 3, 1) := by decide +kernel
theorem dX11_empty_35 : decode cX11_empty 35 = .ok (.iadd, 1) := by decide +kernel
theorem dX11_empty_36 : decode cX11_empty 36 = .ok (.aload_n 0, 1) := by decide +kernel
theorem dX11_empty_37 : decode cX11_empty 37 = .ok (.getfield 164, 3) := by decide +kernel
theorem dX11_empty_40 : decode cX11_empty 40 = .ok (.invokevirtual 170, 3) := by decide +kernel
theorem dX11_empty_43 : decode cX11_empty 43 = .ok (.iload_n 1, 1) := by decide +kernel
theorem dX11_empty_44 : decode cX11_empty 44 = .ok (.if_icmp .ne 22, 3) := by decide +kernel
theorem dX11_empty_47 : decode cX11_empty 47 = .ok (.aload_n 0, 1) := by decide +kernel
theorem dX11_empty_48 : decode cX11_empty 48 = .ok (.getfield 62, 3) := by decide +kernel
theorem dX11_empty_51 : decode cX11_empty 51 = .ok (.iload_n 2, 1) := by decide +kernel
theorem dX11_empty_52 : decode cX11_empty 52 = .ok (.iaload, 1) := by decide +kernel
theorem dX11_empty_53 : decode cX11_empty 53 = .ok (.iconst (-1), 1) := by decide +kernel
theorem dX11_empty_54 : decode cX11_empty 54 = .ok (.if_icmp .ne 12, 3) := by decide +kernel
theorem dX11_empty_57 : decode cX11_empty 57 = .ok (.aload_n 0, 1) := by decide +kernel
theorem dX11_empty_58 : decode cX11_empty 58 = .ok (.getfield 215, 3) := by decide +kernel
theorem dX11_empty_61 : decode cX11_empty 61 = .ok (.bipush 60, 2) := by decide +kernel
theorem dX11_empty_63 : decode cX11_empty 63 = .ok (.if_icmp .ne 9, 3) := by decide +kernel
theorem dX11_empty_66 : decode cX11_empty 66 = .ok (.aload_n 0, 1) := by decide +kernel
theorem dX11_empty_67 : decode cX11_empty 67 = .ok (.iconst 2, 1) := by decide +kernel
theorem dX11_empty_68 : decode cX11_empty 68 = .ok (.invokevirtual 189, 3) := by decide +kernel
theorem dX11_empty_71 : decode cX11_empty 71 = .ok (.ireturn, 1) := by decide +kernel
theorem dX11_empty_72 : decode cX11_empty 72 = .ok (.aload_n 0, 1) := by decide +kernel
theorem dX11_empty_73 : decode cX11_empty 73 = .ok (.iload_n 1, 1) := by decide +kernel
theorem dX11_empty_74 : decode cX11_empty 74 = .ok (.bipush 6, 2) := by decide +kernel
theorem dX11_empty_76 : decode cX11_empty 76 = .ok (.iload_n 2, 1) := by decide +kernel
theorem dX11_empty_77 : decode cX11_empty 77 = .ok (.imul, 1) := by decide +kernel
theorem dX11_empty_78 : decode cX11_empty 78 = .ok (.iload_n 3, 1) := by decide +kernel
theorem dX11_empty_79 : decode cX11_empty 79 = .ok (.iadd, 1) := by decide +kernel
theorem dX11_empty_80 : decode cX11_empty 80 = .ok (.iconst 0, 1) := by decide +kernel
theorem dX11_empty_81 : decode cX11_empty 81 = .ok (.invokevirtual 218, 3) := by decide +kernel
theorem dX11_empty_84 : decode cX11_empty 84 = .ok (.ireturn, 1) := by decide +kernel
theorem dX11_notice_0 : decode cX11_notice 0 = .ok (.aload_n 0, 1) := by decide +kernel
theorem dX11_notice_1 : decode cX11_notice 1 = .ok (.iload_n 1, 1) := by decide +kernel
theorem dX11_notice_2 : decode cX11_notice 2 = .ok (.ifCond .lt 12, 3) := by decide +kernel
theorem dX11_notice_5 : decode cX11_notice 5 = .ok (.iload_n 1, 1) := by decide +kernel
theorem dX11_notice_6 : decode cX11_notice 6 = .ok (.iconst 4, 1) := by decide +kernel
theorem dX11_notice_7 : decode cX11_notice 7 = .ok (.if_icmp .ge 7, 3) := by decide +kernel
theorem dX11_notice_10 : decode cX11_notice 10 = .ok (.iconst 1, 1) := by decide +kernel
theorem dX11_notice_11 : decode cX11_notice 11 = .ok (.goto 4, 3) := by decide +kernel
theorem dX11_notice_14 : decode cX11_notice 14 = .ok (.iconst 0, 1) := by decide +kernel
theorem dX11_notice_15 : decode cX11_notice 15 = .ok (.invokevirtual 185, 3) := by decide +kernel
theorem dX11_notice_18 : decode cX11_notice 18 = .ok (.ifCond .ne 5, 3) := by decide +kernel
theorem dX11_notice_21 : decode cX11_notice 21 = .ok (.iconst 0, 1) := by decide +kernel
theorem dX11_notice_22 : decode cX11_notice 22 = .ok (.ireturn, 1) := by decide +kernel
theorem dX11_notice_23 : decode cX11_notice 23 = .ok (.iload_n 2, 1) := by decide +kernel
theorem dX11_notice_24 : decode cX11_notice 24 = .ok (.iconst 0, 1) := by decide +kernel
theorem dX11_notice_25 : decode cX11_notice 25 = .ok (.bipush 50, 2) := by decide +kernel
theorem dX11_notice_27 : decode cX11_notice 27 = .ok (.invokestatic 208, 3) := by decide +kernel
theorem dX11_notice_30 : decode cX11_notice 30 = .ok (.ifCond .ne 9, 3) := by decide +kernel
theorem dX11_notice_33 : decode cX11_notice 33 = .ok (.aload_n 0, 1) := by decide +kernel
theorem dX11_notice_34 : decode cX11_notice 34 = .ok (.iconst 2, 1) := by decide +kernel
theorem dX11_notice_35 : decode cX11_notice 35 = .ok (.invokevirtual 189, 3) := by decide +kernel
theorem dX11_notice_38 : decode cX11_notice 38 = .ok (.ireturn, 1) := by decide +kernel
theorem dX11_notice_39 : decode cX11_notice 39 = .ok (.aload_n 0, 1) := by decide +kernel
theorem dX11_notice_40 : decode cX11_notice 40 = .ok (.getfield 56, 3) := by decide +kernel
theorem dX11_notice_43 : decode cX11_notice 43 = .ok (.iload_n 1, 1) := by decide +kernel
theorem dX11_notice_44 : decode cX11_notice 44 = .ok (.iaload, 1) := by decide +kernel
theorem dX11_notice_45 : decode cX11_notice 45 = .ok (.istore_n 3, 1) := by decide +kernel
theorem dX11_notice_46 : decode cX11_notice 46 = .ok (.aload_n 0, 1) := by decide +kernel
theorem dX11_notice_47 : decode cX11_notice 47 = .ok (.getfield 56, 3) := by decide +kernel
theorem dX11_notice_50 : decode cX11_notice 50 = .ok (.iload_n 1, 1) := by decide +kernel
theorem dX11_notice_51 : decode cX11_notice 51 = .ok (.iload_n 2, 1) := by decide +kernel
theorem dX11_notice_52 : decode cX11_notice 52 = .ok (.iastore, 1) := by decide +kernel
theorem dX11_notice_53 : decode cX11_notice 53 = .ok (.aload_n 0, 1) := by decide +kernel
theorem dX11_notice_54 : decode cX11_notice 54 = .ok (.iload_n 3, 1) := by decide +kernel
theorem dX11_notice_55 : decode cX11_notice 55 = .ok (.invokevirtual 193, 3) := by decide +kernel
theorem dX11_notice_58 : decode cX11_notice 58 = .ok (.ireturn, 1) := by decide +kernel
theorem dX11_editAt_0 : decode cX11_editAt 0 = .ok (.iconst (-1), 1) := by decide +kernel
theorem dX11_editAt_1 : decode cX11_editAt 1 = .ok (.istore_n 3, 1) := by decide +kernel
theorem dX11_editAt_2 : decode cX11_editAt 2 = .ok (.iconst 0, 1) := by decide +kernel
theorem dX11_editAt_3 : decode cX11_editAt 3 = .ok (.istore 4, 2) := by decide +kernel
theorem dX11_editAt_5 : decode cX11_editAt 5 = .ok (.iload 4, 2) := by decide +kernel
theorem dX11_editAt_7 : decode cX11_editAt 7 = .ok (.aload_n 0, 1) := by decide +kernel
theorem dX11_editAt_8 : decode cX11_editAt 8 = .ok (.getfield 215, 3) := by decide +kernel
theorem dX11_editAt_11 : decode cX11_editAt 11 = .ok (.if_icmp .ge 48, 3) := by decide +kernel
theorem dX11_editAt_14 : decode cX11_editAt 14 = .ok (.aload_n 0, 1) := by decide +kernel
theorem dX11_editAt_15 : decode cX11_editAt 15 = .ok (.getfield 34, 3) := by decide +kernel
theorem dX11_editAt_18 : decode cX11_editAt 18 = .ok (.iload 4, 2) := by decide +kernel
theorem dX11_editAt_20 : decode cX11_editAt 20 = .ok (.iaload, 1) := by decide +kernel
theorem dX11_editAt_21 : decode cX11_editAt 21 = .ok (.iload_n 1, 1) := by decide +kernel
theorem dX11_editAt_22 : decode cX11_editAt 22 = .ok (.if_icmp .ne 29, 3) := by decide +kernel
theorem dX11_editAt_25 : decode cX11_editAt 25 = .ok (.aload_n 0, 1) := by decide +kernel
theorem dX11_editAt_26 : decode cX11_editAt 26 = .ok (.getfield 43, 3) := by decide +kernel
theorem dX11_editAt_29 : decode cX11_editAt 29 = .ok (.iload 4, 2) := by decide +kernel
theorem dX11_editAt_31 : decode cX11_editAt 31 = .ok (.iaload, 1) := by decide +kernel
theorem dX11_editAt_32 : decode cX11_editAt 32 = .ok (.iload_n 2, 1) := by decide +kernel
theorem dX11_editAt_33 : decode cX11_editAt 33 = .ok (.if_icmp .gt 18, 3) := by decide +kernel
theorem dX11_editAt_36 : decode cX11_editAt 36 = .ok (.aload_n 0, 1) := by decide +kernel
theorem dX11_editAt_37 : decode cX11_editAt 37 = .ok (.getfield 49, 3) := by decide +kernel
theorem dX11_editAt_40 : decode cX11_editAt 40 = .ok (.iload 4, 2) := by decide +kernel
theorem dX11_editAt_42 : decode cX11_editAt 42 = .ok (.baload, 1) := by decide +kernel
theorem dX11_editAt_43 : decode cX11_editAt 43 = .ok (.ifCond .ne 8, 3) := by decide +kernel
theorem dX11_editAt_46 : decode cX11_editAt 46 = .ok (.iload 4, 2) := by decide +kernel
theorem dX11_editAt_48 : decode cX11_editAt 48 = .ok (.goto 4, 3) := by decide +kernel
theorem dX11_editAt_51 : decode cX11_editAt 51 = .ok (.iload_n 3, 1) := by decide +kernel
theorem dX11_editAt_52 : decode cX11_editAt 52 = .ok (.istore_n 3, 1) := by decide +kernel
theorem dX11_editAt_53 : decode cX11_editAt 53 = .ok (.iinc 4 1, 3) := by decide +kernel
theorem dX11_editAt_56 : decode cX11_editAt 56 = .ok (.goto (-51), 3) := by decide +kernel
theorem dX11_editAt_59 : decode cX11_editAt 59 = .ok (.iload_n 3, 1) := by decide +kernel
theorem dX11_editAt_60 : decode cX11_editAt 60 = .ok (.ireturn, 1) := by decide +kernel
theorem dX11_isEmptyAt_0 : decode cX11_isEmptyAt 0 = .ok (.aload_n 0, 1) := by decide +kernel
theorem dX11_isEmptyAt_1 : decode cX11_isEmptyAt 1 = .ok (.iload_n 1, 1) := by decide +kernel
theorem dX11_isEmptyAt_2 : decode cX11_isEmptyAt 2 = .ok (.iload_n 2, 1) := by decide +kernel
theorem dX11_isEmptyAt_3 : decode cX11_isEmptyAt 3 = .ok (.invokevirtual 222, 3) := by decide +kernel
theorem dX11_isEmptyAt_6 : decode cX11_isEmptyAt 6 = .ok (.istore_n 3, 1) := by decide +kernel
theorem dX11_isEmptyAt_7 : decode cX11_isEmptyAt 7 = .ok (.iload_n 3, 1) := by decide +kernel
theorem dX11_isEmptyAt_8 : decode cX11_isEmptyAt 8 = .ok (.iconst (-1), 1) := by decide +kernel
theorem dX11_isEmptyAt_9 : decode cX11_isEmptyAt 9 = .ok (.if_icmp .eq 12, 3) := by decide +kernel
theorem dX11_isEmptyAt_12 : decode cX11_isEmptyAt 12 = .ok (.aload_n 0, 1) := by decide +kernel
theorem dX11_isEmptyAt_13 : decode cX11_isEmptyAt 13 = .ok (.getfield 46, 3) := by decide +kernel
theorem dX11_isEmptyAt_16 : decode cX11_isEmptyAt 16 = .ok (.iload_n 3, 1) := by decide +kernel
theorem dX11_isEmptyAt_17 : decode cX11_isEmptyAt 17 = .ok (.iaload, 1) := by decide +kernel
theorem dX11_isEmptyAt_18 : decode cX11_isEmptyAt 18 = .ok (.ifCond .ne 7, 3) := by decide +kernel
theorem dX11_isEmptyAt_21 : decode cX11_isEmptyAt 21 = .ok (.iconst 1, 1) := by decide +kernel
theorem dX11_isEmptyAt_22 : decode cX11_isEmptyAt 22 = .ok (.goto 4, 3) := by decide +kernel
theorem dX11_isEmptyAt_25 : decode cX11_isEmptyAt 25 = .ok (.iconst 0, 1) := by decide +kernel
theorem dX11_isEmptyAt_26 : decode cX11_isEmptyAt 26 = .ok (.ireturn, 1) := by decide +kernel
theorem dX11_isFinding_0 : decode cX11_isFinding 0 = .ok (.iconst 0, 1) := by decide +kernel
theorem dX11_isFinding_1 : decode cX11_isFinding 1 = .ok (.istore_n 2, 1) := by decide +kernel
theorem dX11_isFinding_2 : decode cX11_isFinding 2 = .ok (.iconst 0, 1) := by decide +kernel
theorem dX11_isFinding_3 : decode cX11_isFinding 3 = .ok (.istore_n 3, 1) := by decide +kernel
theorem dX11_isFinding_4 : decode cX11_isFinding 4 = .ok (.iload_n 3, 1) := by decide +kernel
theorem dX11_isFinding_5 : decode cX11_isFinding 5 = .ok (.aload_n 0, 1) := by decide +kernel
theorem dX11_isFinding_6 : decode cX11_isFinding 6 = .ok (.getfield 225, 3) := by decide +kernel
theorem dX11_isFinding_9 : decode cX11_isFinding 9 = .ok (.if_icmp .ge 29, 3) := by decide +kernel
theorem dX11_isFinding_12 : decode cX11_isFinding 12 = .ok (.iload_n 2, 1) := by decide +kernel
theorem dX11_isFinding_13 : decode cX11_isFinding 13 = .ok (.ifCond .ne 13, 3) := by decide +kernel
theorem dX11_isFinding_16 : decode cX11_isFinding 16 = .ok (.aload_n 0, 1) := by decide +kernel
theorem dX11_isFinding_17 : decode cX11_isFinding 17 = .ok (.getfield 138, 3) := by decide +kernel
theorem dX11_isFinding_20 : decode cX11_isFinding 20 = .ok (.iload_n 3, 1) := by decide +kernel
theorem dX11_isFinding_21 : decode cX11_isFinding 21 = .ok (.iaload, 1) := by decide +kernel
theorem dX11_isFinding_22 : decode cX11_isFinding 22 = .ok (.iload_n 1, 1) := by decide +kernel
theorem dX11_isFinding_23 : decode cX11_isFinding 23 = .ok (.if_icmp .ne 7, 3) := by decide +kernel
theorem dX11_isFinding_26 : decode cX11_isFinding 26 = .ok (.iconst 1, 1) := by decide +kernel
theorem dX11_isFinding_27 : decode cX11_isFinding 27 = .ok (.goto 4, 3) := by decide +kernel
theorem dX11_isFinding_30 : decode cX11_isFinding 30 = .ok (.iconst 0, 1) := by decide +kernel
theorem dX11_isFinding_31 : decode cX11_isFinding 31 = .ok (.istore_n 2, 1) := by decide +kernel
theorem dX11_isFinding_32 : decode cX11_isFinding 32 = .ok (.iinc 3 1, 3) := by decide +kernel
theorem dX11_isFinding_35 : decode cX11_isFinding 35 = .ok (.goto (-31), 3) := by decide +kernel
theorem dX11_isFinding_38 : decode cX11_isFinding 38 = .ok (.iload_n 2, 1) := by decide +kernel
theorem dX11_isFinding_39 : decode cX11_isFinding 39 = .ok (.ireturn, 1) := by decide +kernel
theorem dX11_starts_0 : decode cX11_starts 0 = .ok (.aload_n 0, 1) := by decide +kernel
theorem dX11_starts_1 : decode cX11_starts 1 = .ok (.iload_n 1, 1) := by decide +kernel
theorem dX11_starts_2 : decode cX11_starts 2 = .ok (.iload_n 2, 1) := by decide +kernel
theorem dX11_starts_3 : decode cX11_starts 3 = .ok (.invokevirtual 228, 3) := by decide +kernel
theorem dX11_starts_6 : decode cX11_starts 6 = .ok (.ifCond .eq 20, 3) := by decide +kernel
theorem dX11_starts_9 : decode cX11_starts 9 = .ok (.aload_n 0, 1) := by decide +kernel
theorem dX11_starts_10 : decode cX11_starts 10 = .ok (.getfield 153, 3) := by decide +kernel
theorem dX11_starts_13 : decode cX11_starts 13 = .ok (.iload_n 1, 1) := by decide +kernel
theorem dX11_starts_14 : decode cX11_starts 14 = .ok (.iconst 1, 1) := by decide +kernel
theorem dX11_starts_15 : decode cX11_starts 15 = .ok (.bastore, 1) := by decide +kernel
theorem dX11_starts_16 : decode cX11_starts 16 = .ok (.aload_n 0, 1) := by decide +kernel
theorem dX11_starts_17 : decode cX11_starts 17 = .ok (.getfield 156, 3) := by decide +kernel
theorem dX11_starts_20 : decode cX11_starts 20 = .ok (.iload_n 1, 1) := by decide +kernel
theorem dX11_starts_21 : decode cX11_starts 21 = .ok (.iconst 0, 1) := by decide +kernel
theorem dX11_starts_22 : decode cX11_starts 22 = .ok (.iastore, 1) := by decide +kernel
theorem dX11_starts_23 : decode cX11_starts 23 = .ok (.goto 61, 3) := by decide +kernel
theorem dX11_starts_26 : decode cX11_starts 26 = .ok (.aload_n 0, 1) := by decide +kernel
theorem dX11_starts_27 : decode cX11_starts 27 = .ok (.getfield 138, 3) := by decide +kernel
theorem dX11_starts_30 : decode cX11_starts 30 = .ok (.aload_n 0, 1) := by decide +kernel
theorem dX11_starts_31 : decode cX11_starts 31 = .ok (.getfield 225, 3) := by decide +kernel
theorem dX11_starts_34 : decode cX11_starts 34 = .ok (.iload_n 1, 1) := by decide +kernel
theorem dX11_starts_35 : decode cX11_starts 35 = .ok (.iastore, 1) := by decide +kernel
theorem dX11_starts_36 : decode cX11_starts 36 = .ok (.aload_n 0, 1) := by decide +kernel
theorem dX11_starts_37 : decode cX11_starts 37 = .ok (.getfield 141, 3) := by decide +kernel
theorem dX11_starts_40 : decode cX11_starts 40 = .ok (.aload_n 0, 1) := by decide +kernel
theorem dX11_starts_41 : decode cX11_starts 41 = .ok (.getfield 225, 3) := by decide +kernel
theorem dX11_starts_44 : decode cX11_starts 44 = .ok (.iconst 0, 1) := by decide +kernel
theorem dX11_starts_45 : decode cX11_starts 45 = .ok (.iastore, 1) := by decide +kernel
theorem dX11_starts_46 : decode cX11_starts 46 = .ok (.aload_n 0, 1) := by decide +kernel
theorem dX11_starts_47 : decode cX11_starts 47 = .ok (.getfield 144, 3) := by decide +kernel
theorem dX11_starts_50 : decode cX11_starts 50 = .ok (.aload_n 0, 1) := by decide +kernel
theorem dX11_starts_51 : decode cX11_starts 51 = .ok (.getfield 225, 3) := by decide +kernel
theorem dX11_starts_54 : decode cX11_starts 54 = .ok (.aload_n 0, 1) := by decide +kernel
theorem dX11_starts_55 : decode cX11_starts 55 = .ok (.getfield 231, 3) := by decide +kernel
theorem dX11_starts_58 : decode cX11_starts 58 = .ok (.iastore, 1) := by decide +kernel
theorem dX11_starts_59 : decode cX11_starts 59 = .ok (.aload_n 0, 1) := by decide +kernel
theorem dX11_starts_60 : decode cX11_starts 60 = .ok (.getfield 147, 3) := by decide +kernel
theorem dX11_starts_63 : decode cX11_starts 63 = .ok (.aload_n 0, 1) := by decide +kernel
theorem dX11_starts_64 : decode cX11_starts 64 = .ok (.getfield 225, 3) := by decide +kernel
theorem dX11_starts_67 : decode cX11_starts 67 = .ok (.aload_n 0, 1) := by decide +kernel
theorem dX11_starts_68 : decode cX11_starts 68 = .ok (.iload_n 1, 1) := by decide +kernel
theorem dX11_starts_69 : decode cX11_starts 69 = .ok (.iload_n 2, 1) := by decide +kernel
theorem dX11_starts_70 : decode cX11_starts 70 = .ok (.invokevirtual 222, 3) := by decide +kernel
theorem dX11_starts_73 : decode cX11_starts 73 = .ok (.iastore, 1) := by decide +kernel
theorem dX11_starts_74 : decode cX11_starts 74 = .ok (.aload_n 0, 1) := by decide +kernel
theorem dX11_starts_75 : decode cX11_starts 75 = .ok (.dup, 1) := by decide +kernel
theorem dX11_starts_76 : decode cX11_starts 76 = .ok (.getfield 225, 3) := by decide +kernel
theorem dX11_starts_79 : decode cX11_starts 79 = .ok (.iconst 1, 1) := by decide +kernel
theorem dX11_starts_80 : decode cX11_starts 80 = .ok (.iadd, 1) := by decide +kernel
theorem dX11_starts_81 : decode cX11_starts 81 = .ok (.putfield 225, 3) := by decide +kernel
theorem dX11_starts_84 : decode cX11_starts 84 = .ok (.return_, 1) := by decide +kernel
theorem dX11_valueAt_0 : decode cX11_valueAt 0 = .ok (.iconst 0, 1) := by decide +kernel
theorem dX11_valueAt_1 : decode cX11_valueAt 1 = .ok (.istore_n 3, 1) := by decide +kernel
theorem dX11_valueAt_2 : decode cX11_valueAt 2 = .ok (.iload_n 3, 1) := by decide +kernel
theorem dX11_valueAt_3 : decode cX11_valueAt 3 = .ok (.bipush 24, 2) := by decide +kernel
theorem dX11_valueAt_5 : decode cX11_valueAt 5 = .ok (.if_icmp .ge 16, 3) := by decide +kernel
theorem dX11_valueAt_8 : decode cX11_valueAt 8 = .ok (.aload_n 0, 1) := by decide +kernel
theorem dX11_valueAt_9 : decode cX11_valueAt 9 = .ok (.getfield 153, 3) := by decide +kernel
theorem dX11_valueAt_12 : decode cX11_valueAt 12 = .ok (.iload_n 3, 1) := by decide +kernel
theorem dX11_valueAt_13 : decode cX11_valueAt 13 = .ok (.iconst 0, 1) := by decide +kernel
theorem dX11_valueAt_14 : decode cX11_valueAt 14 = .ok (.bastore, 1) := by decide +kernel
theorem dX11_valueAt_15 : decode cX11_valueAt 15 = .ok (.iinc 3 1, 3) := by decide +kernel
theorem dX11_valueAt_18 : decode cX11_valueAt 18 = .ok (.goto (-16), 3) := by decide +kernel
theorem dX11_valueAt_21 : decode cX11_valueAt 21 = .ok (.aload_n 0, 1) := by decide +kernel
theorem dX11_valueAt_22 : decode cX11_valueAt 22 = .ok (.iconst 0, 1) := by decide +kernel
theorem dX11_valueAt_23 : decode cX11_valueAt 23 = .ok (.putfield 225, 3) := by decide +kernel
theorem dX11_valueAt_26 : decode cX11_valueAt 26 = .ok (.aload_n 0, 1) := by decide +kernel
theorem dX11_valueAt_27 : decode cX11_valueAt 27 = .ok (.iconst 0, 1) := by decide +kernel
theorem dX11_valueAt_28 : decode cX11_valueAt 28 = .ok (.putfield 231, 3) := by decide +kernel
theorem dX11_valueAt_31 : decode cX11_valueAt 31 = .ok (.aload_n 0, 1) := by decide +kernel
theorem dX11_valueAt_32 : decode cX11_valueAt 32 = .ok (.iconst 0, 1) := by decide +kernel
theorem dX11_valueAt_33 : decode cX11_valueAt 33 = .ok (.putfield 234, 3) := by decide +kernel
theorem dX11_valueAt_36 : decode cX11_valueAt 36 = .ok (.aload_n 0, 1) := by decide +kernel
theorem dX11_valueAt_37 : decode cX11_valueAt 37 = .ok (.iload_n 1, 1) := by decide +kernel
theorem dX11_valueAt_38 : decode cX11_valueAt 38 = .ok (.iload_n 2, 1) := by decide +kernel
theorem dX11_valueAt_39 : decode cX11_valueAt 39 = .ok (.invokevirtual 237, 3) := by decide +kernel
theorem dX11_valueAt_42 : decode cX11_valueAt 42 = .ok (.aload_n 0, 1) := by decide +kernel
theorem dX11_valueAt_43 : decode cX11_valueAt 43 = .ok (.getfield 225, 3) := by decide +kernel
theorem dX11_valueAt_46 : decode cX11_valueAt 46 = .ok (.ifCond .le 121, 3) := by decide +kernel
theorem dX11_valueAt_49 : decode cX11_valueAt 49 = .ok (.aload_n 0, 1) := by decide +kernel
theorem dX11_valueAt_50 : decode cX11_valueAt 50 = .ok (.getfield 234, 3) := by decide +kernel
theorem dX11_valueAt_53 : decode cX11_valueAt 53 = .ok (.ifCond .ne 114, 3) := by decide +kernel
theorem dX11_valueAt_56 : decode cX11_valueAt 56 = .ok (.aload_n 0, 1) := by decide +kernel
theorem dX11_valueAt_57 : decode cX11_valueAt 57 = .ok (.getfield 225, 3) := by decide +kernel
theorem dX11_valueAt_60 : decode cX11_valueAt 60 = .ok (.iconst 1, 1) := by decide +kernel
theorem dX11_valueAt_61 : decode cX11_valueAt 61 = .ok (.isub, 1) := by decide +kernel
theorem dX11_valueAt_62 : decode cX11_valueAt 62 = .ok (.istore_n 3, 1) := by decide +kernel
theorem dX11_valueAt_63 : decode cX11_valueAt 63 = .ok (.aload_n 0, 1) := by decide +kernel
theorem dX11_valueAt_64 : decode cX11_valueAt 64 = .ok (.getfield 147, 3) := by decide +kernel
theorem dX11_valueAt_67 : decode cX11_valueAt 67 = .ok (.iload_n 3, 1) := by decide +kernel
theorem dX11_valueAt_68 : decode cX11_valueAt 68 = .ok (.iaload, 1) := by decide +kernel
theorem dX11_valueAt_69 : decode cX11_valueAt 69 = .ok (.istore 4, 2) := by decide +kernel
theorem dX11_valueAt_71 : decode cX11_valueAt 71 = .ok (.aload_n 0, 1) := by decide +kernel
theorem dX11_valueAt_72 : decode cX11_valueAt 72 = .ok (.getfield 141, 3) := by decide +kernel
theorem dX11_valueAt_75 : decode cX11_valueAt 75 = .ok (.iload_n 3, 1) := by decide +kernel
theorem dX11_valueAt_76 : decode cX11_valueAt 76 = .ok (.iaload, 1) := by decide +kernel
theorem dX11_valueAt_77 : decode cX11_valueAt 77 = .ok (.aload_n 0, 1) := by decide +kernel
theorem dX11_valueAt_78 : decode cX11_valueAt 78 = .ok (.getfield 46, 3) := by decide +kernel
theorem dX11_valueAt_81 : decode cX11_valueAt 81 = .ok (.iload 4, 2) := by decide +kernel
theorem dX11_valueAt_83 : decode cX11_valueAt 83 = .ok (.iaload, 1) := by decide +kernel
theorem dX11_valueAt_84 : decode cX11_valueAt 84 = .ok (.if_icmp .ne 60, 3) := by decide +kernel
theorem dX11_valueAt_87 : decode cX11_valueAt 87 = .ok (.aload_n 0, 1) := by decide +kernel
theorem dX11_valueAt_88 : decode cX11_valueAt 88 = .ok (.getfield 156, 3) := by decide +kernel
theorem dX11_valueAt_91 : decode cX11_valueAt 91 = .ok (.aload_n 0, 1) := by decide +kernel
theorem dX11_valueAt_92 : decode cX11_valueAt 92 = .ok (.getfield 138, 3) := by decide +kernel
theorem dX11_valueAt_95 : decode cX11_valueAt 95 = .ok (.iload_n 3, 1) := by decide +kernel
theorem dX11_valueAt_96 : decode cX11_valueAt 96 = .ok (.iaload, 1) := by decide +kernel
theorem dX11_valueAt_97 : decode cX11_valueAt 97 = .ok (.aload_n 0, 1) := by decide +kernel
theorem dX11_valueAt_98 : decode cX11_valueAt 98 = .ok (.getfield 150, 3) := by decide +kernel
theorem dX11_valueAt_101 : decode cX11_valueAt 101 = .ok (.aload_n 0, 1) := by decide +kernel
theorem dX11_valueAt_102 : decode cX11_valueAt 102 = .ok (.getfield 231, 3) := by decide +kernel
theorem dX11_valueAt_105 : decode cX11_valueAt 105 = .ok (.iconst 1, 1) := by decide +kernel
theorem dX11_valueAt_106 : decode cX11_valueAt 106 = .ok (.isub, 1) := by decide +kernel
theorem dX11_valueAt_107 : decode cX11_valueAt 107 = .ok (.iaload, 1) := by decide +kernel
theorem dX11_valueAt_108 : decode cX11_valueAt 108 = .ok (.iastore, 1) := by decide +kernel
theorem dX11_valueAt_109 : decode cX11_valueAt 109 = .ok (.aload_n 0, 1) := by decide +kernel
theorem dX11_valueAt_110 : decode cX11_valueAt 110 = .ok (.getfield 153, 3) := by decide +kernel
theorem dX11_valueAt_113 : decode cX11_valueAt 113 = .ok (.aload_n 0, 1) := by decide +kernel
theorem dX11_valueAt_114 : decode cX11_valueAt 114 = .ok (.getfield 138, 3) := by decide +kernel
theorem dX11_valueAt_117 : decode cX11_valueAt 117 = .ok (.iload_n 3, 1) := by decide +kernel
theorem dX11_valueAt_118 : decode cX11_valueAt 118 = .ok (.iaload, 1) := by decide +kernel
theorem dX11_valueAt_119 : decode cX11_valueAt 119 = .ok (.iconst 1, 1) := by decide +kernel
theorem dX11_valueAt_120 : decode cX11_valueAt 120 = .ok (.bastore, 1) := by decide +kernel
theorem dX11_valueAt_121 : decode cX11_valueAt 121 = .ok (.aload_n 0, 1) := by decide +kernel
theorem dX11_valueAt_122 : decode cX11_valueAt 122 = .ok (.aload_n 0, 1) := by decide +kernel
theorem dX11_valueAt_123 : decode cX11_valueAt 123 = .ok (.getfield 144, 3) := by decide +kernel
theorem dX11_valueAt_126 : decode cX11_valueAt 126 = .ok (.iload_n 3, 1) := by decide +kernel
theorem dX11_valueAt_127 : decode cX11_valueAt 127 = .ok (.iaload, 1) := by decide +kernel
theorem dX11_valueAt_128 : decode cX11_valueAt 128 = .ok (.putfield 231, 3) := by decide +kernel
theorem dX11_valueAt_131 : decode cX11_valueAt 131 = .ok (.aload_n 0, 1) := by decide +kernel
theorem dX11_valueAt_132 : decode cX11_valueAt 132 = .ok (.dup, 1) := by decide +kernel
theorem dX11_valueAt_133 : decode cX11_valueAt 133 = .ok (.getfield 225, 3) := by decide +kernel
theorem dX11_valueAt_136 : decode cX11_valueAt 136 = .ok (.iconst 1, 1) := by decide +kernel
theorem dX11_valueAt_137 : decode cX11_valueAt 137 = .ok (.isub, 1) := by decide +kernel
theorem dX11_valueAt_138 : decode cX11_valueAt 138 = .ok (.putfield 225, 3) := by decide +kernel
theorem dX11_valueAt_141 : decode cX11_valueAt 141 = .ok (.goto 23, 3) := by decide +kernel
theorem dX11_valueAt_144 : decode cX11_valueAt 144 = .ok (.aload_n 0, 1) := by decide +kernel
theorem dX11_valueAt_145 : decode cX11_valueAt 145 = .ok (.iload_n 3, 1) := by decide +kernel
theorem dX11_valueAt_146 : decode cX11_valueAt 146 = .ok (.bipush 36, 2) := by decide +kernel
theorem dX11_valueAt_148 : decode cX11_valueAt 148 = .ok (.iload 4, 2) := by decide +kernel
theorem dX11_valueAt_150 : decode cX11_valueAt 150 = .ok (.imul, 1) := by decide +kernel
theorem dX11_valueAt_151 : decode cX11_valueAt 151 = .ok (.iconst 3, 1) := by decide +kernel
theorem dX11_valueAt_152 : decode cX11_valueAt 152 = .ok (.aload_n 0, 1) := by decide +kernel
theorem dX11_valueAt_153 : decode cX11_valueAt 153 = .ok (.getfield 141, 3) := by decide +kernel
theorem dX11_valueAt_156 : decode cX11_valueAt 156 = .ok (.iload_n 3, 1) := by decide +kernel
theorem dX11_valueAt_157 : decode cX11_valueAt 157 = .ok (.iaload, 1) := by decide +kernel
theorem dX11_valueAt_158 : decode cX11_valueAt 158 = .ok (.imul, 1) := by decide +kernel
theorem dX11_valueAt_159 : decode cX11_valueAt 159 = .ok (.iadd, 1) := by decide +kernel
theorem dX11_valueAt_160 : decode cX11_valueAt 160 = .ok (.iload_n 2, 1) := by decide +kernel
theorem dX11_valueAt_161 : decode cX11_valueAt 161 = .ok (.invokevirtual 241, 3) := by decide +kernel
theorem dX11_valueAt_164 : decode cX11_valueAt 164 = .ok (.goto (-122), 3) := by decide +kernel
theorem dX11_valueAt_167 : decode cX11_valueAt 167 = .ok (.aload_n 0, 1) := by decide +kernel
theorem dX11_valueAt_168 : decode cX11_valueAt 168 = .ok (.getfield 234, 3) := by decide +kernel
theorem dX11_valueAt_171 : decode cX11_valueAt 171 = .ok (.ifCond .ne 12, 3) := by decide +kernel
theorem dX11_valueAt_174 : decode cX11_valueAt 174 = .ok (.aload_n 0, 1) := by decide +kernel
theorem dX11_valueAt_175 : decode cX11_valueAt 175 = .ok (.getfield 156, 3) := by decide +kernel
theorem dX11_valueAt_178 : decode cX11_valueAt 178 = .ok (.iload_n 1, 1) := by decide +kernel
theorem dX11_valueAt_179 : decode cX11_valueAt 179 = .ok (.iaload, 1) := by decide +kernel
theorem dX11_valueAt_180 : decode cX11_valueAt 180 = .ok (.goto 4, 3) := by decide +kernel
theorem dX11_valueAt_183 : decode cX11_valueAt 183 = .ok (.iconst 0, 1) := by decide +kernel
theorem dX11_valueAt_184 : decode cX11_valueAt 184 = .ok (.ireturn, 1) := by decide +kernel
theorem dX11_goes_0 : decode cX11_goes 0 = .ok (.aload_n 0, 1) := by decide +kernel
theorem dX11_goes_1 : decode cX11_goes 1 = .ok (.getfield 53, 3) := by decide +kernel
theorem dX11_goes_4 : decode cX11_goes 4 = .ok (.iload_n 2, 1) := by decide +kernel
theorem dX11_goes_5 : decode cX11_goes 5 = .ok (.iaload, 1) := by decide +kernel
theorem dX11_goes_6 : decode cX11_goes 6 = .ok (.istore 4, 2) := by decide +kernel
theorem dX11_goes_8 : decode cX11_goes 8 = .ok (.aload_n 0, 1) := by decide +kernel
theorem dX11_goes_9 : decode cX11_goes 9 = .ok (.getfield 53, 3) := by decide +kernel
theorem dX11_goes_12 : decode cX11_goes 12 = .ok (.iload_n 2, 1) := by decide +kernel
theorem dX11_goes_13 : decode cX11_goes 13 = .ok (.iconst 1, 1) := by decide +kernel
theorem dX11_goes_14 : decode cX11_goes 14 = .ok (.iadd, 1) := by decide +kernel
theorem dX11_goes_15 : decode cX11_goes 15 = .ok (.iaload, 1) := by decide +kernel
theorem dX11_goes_16 : decode cX11_goes 16 = .ok (.istore 5, 2) := by decide +kernel
theorem dX11_goes_18 : decode cX11_goes 18 = .ok (.bipush 6, 2) := by decide +kernel
theorem dX11_goes_20 : decode cX11_goes 20 = .ok (.iload 5, 2) := by decide +kernel
theorem dX11_goes_22 : decode cX11_goes 22 = .ok (.imul, 1) := by decide +kernel
theorem dX11_goes_23 : decode cX11_goes 23 = .ok (.aload_n 0, 1) := by decide +kernel
theorem dX11_goes_24 : decode cX11_goes 24 = .ok (.getfield 53, 3) := by decide +kernel
theorem dX11_goes_27 : decode cX11_goes 27 = .ok (.iload_n 2, 1) := by decide +kernel
theorem dX11_goes_28 : decode cX11_goes 28 = .ok (.iconst 2, 1) := by decide +kernel
theorem dX11_goes_29 : decode cX11_goes 29 = .ok (.iadd, 1) := by decide +kernel
theorem dX11_goes_30 : decode cX11_goes 30 = .ok (.iaload, 1) := by decide +kernel
theorem dX11_goes_31 : decode cX11_goes 31 = .ok (.iadd, 1) := by decide +kernel
theorem dX11_goes_32 : decode cX11_goes 32 = .ok (.istore 6, 2) := by decide +kernel
theorem dX11_goes_34 : decode cX11_goes 34 = .ok (.iload 4, 2) := by decide +kernel
theorem dX11_goes_36 : decode cX11_goes 36 = .ok (.iconst 1, 1) := by decide +kernel
theorem dX11_goes_37 : decode cX11_goes 37 = .ok (.if_icmp .ne 92, 3) := by decide +kernel
theorem dX11_goes_40 : decode cX11_goes 40 = .ok (.aload_n 0, 1) := by decide +kernel
theorem dX11_goes_41 : decode cX11_goes 41 = .ok (.aload_n 0, 1) := by decide +kernel
theorem dX11_goes_42 : decode cX11_goes 42 = .ok (.aload_n 0, 1) := by decide +kernel
theorem dX11_goes_43 : decode cX11_goes 43 = .ok (.getfield 138, 3) := by decide +kernel
theorem dX11_goes_46 : decode cX11_goes 46 = .ok (.iload_n 1, 1) := by decide +kernel
theorem dX11_goes_47 : decode cX11_goes 47 = .ok (.iaload, 1) := by decide +kernel
theorem dX11_goes_48 : decode cX11_goes 48 = .ok (.iload_n 3, 1) := by decide +kernel
theorem dX11_goes_49 : decode cX11_goes 49 = .ok (.invokevirtual 170, 3) := by decide +kernel
theorem dX11_goes_52 : decode cX11_goes 52 = .ok (.iload 6, 2) := by decide +kernel
theorem dX11_goes_54 : decode cX11_goes 54 = .ok (.iload_n 3, 1) := by decide +kernel
theorem dX11_goes_55 : decode cX11_goes 55 = .ok (.invokevirtual 196, 3) := by decide +kernel
theorem dX11_goes_58 : decode cX11_goes 58 = .ok (.ifCond .ne 11, 3) := by decide +kernel
theorem dX11_goes_61 : decode cX11_goes 61 = .ok (.aload_n 0, 1) := by decide +kernel
theorem dX11_goes_62 : decode cX11_goes 62 = .ok (.iconst 1, 1) := by decide +kernel
theorem dX11_goes_63 : decode cX11_goes 63 = .ok (.putfield 234, 3) := by decide +kernel
theorem dX11_goes_66 : decode cX11_goes 66 = .ok (.goto 62, 3) := by decide +kernel
theorem dX11_goes_69 : decode cX11_goes 69 = .ok (.aload_n 0, 1) := by decide +kernel
theorem dX11_goes_70 : decode cX11_goes 70 = .ok (.iload 6, 2) := by decide +kernel
theorem dX11_goes_72 : decode cX11_goes 72 = .ok (.invokevirtual 245, 3) := by decide +kernel
theorem dX11_goes_75 : decode cX11_goes 75 = .ok (.ifCond .eq 11, 3) := by decide +kernel
theorem dX11_goes_78 : decode cX11_goes 78 = .ok (.aload_n 0, 1) := by decide +kernel
theorem dX11_goes_79 : decode cX11_goes 79 = .ok (.iconst 2, 1) := by decide +kernel
theorem dX11_goes_80 : decode cX11_goes 80 = .ok (.putfield 234, 3) := by decide +kernel
theorem dX11_goes_83 : decode cX11_goes 83 = .ok (.goto 45, 3) := by decide +kernel
theorem dX11_goes_86 : decode cX11_goes 86 = .ok (.aload_n 0, 1) := by decide +kernel
theorem dX11_goes_87 : decode cX11_goes 87 = .ok (.getfield 153, 3) := by decide +kernel
theorem dX11_goes_90 : decode cX11_goes 90 = .ok (.iload 6, 2) := by decide +kernel
theorem dX11_goes_92 : decode cX11_goes 92 = .ok (.baload, 1) := by decide +kernel
theorem dX11_goes_93 : decode cX11_goes 93 = .ok (.ifCond .ne 13, 3) := by decide +kernel
theorem dX11_goes_96 : decode cX11_goes 96 = .ok (.aload_n 0, 1) := by decide +kernel
theorem dX11_goes_97 : decode cX11_goes 97 = .ok (.iload 6, 2) := by decide +kernel
theorem dX11_goes_99 : decode cX11_goes 99 = .ok (.iload_n 3, 1) := by decide +kernel
theorem dX11_goes_100 : decode cX11_goes 100 = .ok (.invokevirtual 237, 3) := by decide +kernel
theorem dX11_goes_103 : decode cX11_goes 103 = .ok (.goto 25, 3) := by decide +kernel
theorem dX11_goes_106 : decode cX11_goes 106 = .ok (.aload_n 0, 1) := by decide +kernel
theorem dX11_goes_107 : decode cX11_goes 107 = .ok (.aload_n 0, 1) := by decide +kernel
theorem dX11_goes_108 : decode cX11_goes 108 = .ok (.getfield 156, 3) := by decide +kernel
theorem dX11_goes_111 : decode cX11_goes 111 = .ok (.iload 6, 2) := by decide +kernel
theorem dX11_goes_113 : decode cX11_goes 113 = .ok (.iaload, 1) := by decide +kernel
theorem dX11_goes_114 : decode cX11_goes 114 = .ok (.i2l, 1) := by decide +kernel
theorem dX11_goes_115 : decode cX11_goes 115 = .ok (.invokevirtual 248, 3) := by decide +kernel
theorem dX11_goes_118 : decode cX11_goes 118 = .ok (.aload_n 0, 1) := by decide +kernel
theorem dX11_goes_119 : decode cX11_goes 119 = .ok (.getfield 141, 3) := by decide +kernel
theorem dX11_goes_122 : decode cX11_goes 122 = .ok (.iload_n 1, 1) := by decide +kernel
theorem dX11_goes_123 : decode cX11_goes 123 = .ok (.dup2, 1) := by decide +kernel
theorem dX11_goes_124 : decode cX11_goes 124 = .ok (.iaload, 1) := by decide +kernel
theorem dX11_goes_125 : decode cX11_goes 125 = .ok (.iconst 1, 1) := by decide +kernel
theorem dX11_goes_126 : decode cX11_goes 126 = .ok (.iadd, 1) := by decide +kernel
theorem dX11_goes_127 : decode cX11_goes 127 = .ok (.iastore, 1) := by decide +kernel
theorem dX11_goes_128 : decode cX11_goes 128 = .ok (.return_, 1) := by decide +kernel
theorem dX11_goes_129 : decode cX11_goes 129 = .ok (.iload 4, 2) := by decide +kernel
theorem dX11_goes_131 : decode cX11_goes 131 = .ok (.bipush 8, 2) := by decide +kernel
theorem dX11_goes_133 : decode cX11_goes 133 = .ok (.if_icmp .ge 49, 3) := by decide +kernel
theorem dX11_goes_136 : decode cX11_goes 136 = .ok (.aload_n 0, 1) := by decide +kernel
theorem dX11_goes_137 : decode cX11_goes 137 = .ok (.iload 4, 2) := by decide +kernel
theorem dX11_goes_139 : decode cX11_goes 139 = .ok (.ifCond .ne 9, 3) := by decide +kernel
theorem dX11_goes_142 : decode cX11_goes 142 = .ok (.iload 5, 2) := by decide +kernel
theorem dX11_goes_144 : decode cX11_goes 144 = .ok (.i2l, 1) := by decide +kernel
theorem dX11_goes_145 : decode cX11_goes 145 = .ok (.goto 31, 3) := by decide +kernel
theorem dX11_goes_148 : decode cX11_goes 148 = .ok (.iload 4, 2) := by decide +kernel
theorem dX11_goes_150 : decode cX11_goes 150 = .ok (.bipush 7, 2) := by decide +kernel
theorem dX11_goes_152 : decode cX11_goes 152 = .ok (.if_icmp .ne 14, 3) := by decide +kernel
theorem dX11_goes_155 : decode cX11_goes 155 = .ok (.aload_n 0, 1) := by decide +kernel
theorem dX11_goes_156 : decode cX11_goes 156 = .ok (.iload 5, 2) := by decide +kernel
theorem dX11_goes_158 : decode cX11_goes 158 = .ok (.iload_n 3, 1) := by decide +kernel
theorem dX11_goes_159 : decode cX11_goes 159 = .ok (.invokevirtual 252, 3) := by decide +kernel
theorem dX11_goes_162 : decode cX11_goes 162 = .ok (.i2l, 1) := by decide +kernel
theorem dX11_goes_163 : decode cX11_goes 163 = .ok (.goto 13, 3) := by decide +kernel
theorem dX11_goes_166 : decode cX11_goes 166 = .ok (.aload_n 0, 1) := by decide +kernel
theorem dX11_goes_167 : decode cX11_goes 167 = .ok (.iload 4, 2) := by decide +kernel
theorem dX11_goes_169 : decode cX11_goes 169 = .ok (.iload 5, 2) := by decide +kernel
theorem dX11_goes_171 : decode cX11_goes 171 = .ok (.iload_n 3, 1) := by decide +kernel
theorem dX11_goes_172 : decode cX11_goes 172 = .ok (.invokevirtual 255, 3) := by decide +kernel
theorem dX11_goes_175 : decode cX11_goes 175 = .ok (.i2l, 1) := by decide +kernel
theorem dX11_goes_176 : decode cX11_goes 176 = .ok (.invokevirtual 248, 3) := by decide +kernel
theorem dX11_goes_179 : decode cX11_goes 179 = .ok (.goto 9, 3) := by decide +kernel
theorem dX11_goes_182 : decode cX11_goes 182 = .ok (.aload_n 0, 1) := by decide +kernel
theorem dX11_goes_183 : decode cX11_goes 183 = .ok (.iload 4, 2) := by decide +kernel
theorem dX11_goes_185 : decode cX11_goes 185 = .ok (.invokevirtual 258, 3) := by decide +kernel
theorem dX11_goes_188 : decode cX11_goes 188 = .ok (.aload_n 0, 1) := by decide +kernel
theorem dX11_goes_189 : decode cX11_goes 189 = .ok (.getfield 141, 3) := by decide +kernel
theorem dX11_goes_192 : decode cX11_goes 192 = .ok (.iload_n 1, 1) := by decide +kernel
theorem dX11_goes_193 : decode cX11_goes 193 = .ok (.dup2, 1) := by decide +kernel
theorem dX11_goes_194 : decode cX11_goes 194 = .ok (.iaload, 1) := by decide +kernel
theorem dX11_goes_195 : decode cX11_goes 195 = .ok (.iconst 1, 1) := by decide +kernel
theorem dX11_goes_196 : decode cX11_goes 196 = .ok (.iadd, 1) := by decide +kernel
theorem dX11_goes_197 : decode cX11_goes 197 = .ok (.iastore, 1) := by decide +kernel
theorem dX11_goes_198 : decode cX11_goes 198 = .ok (.return_, 1) := by decide +kernel
theorem dX11_puts_0 : decode cX11_puts 0 = .ok (.lload_n 1, 1) := by decide +kernel
theorem dX11_puts_1 : decode cX11_puts 1 = .ok (.ldc2_w 262, 3) := by decide +kernel
theorem dX11_puts_4 : decode cX11_puts 4 = .ok (.lcmp, 1) := by decide +kernel
theorem dX11_puts_5 : decode cX11_puts 5 = .ok (.ifCond .lt 11, 3) := by decide +kernel
theorem dX11_puts_8 : decode cX11_puts 8 = .ok (.lload_n 1, 1) := by decide +kernel
theorem dX11_puts_9 : decode cX11_puts 9 = .ok (.ldc2_w 264, 3) := by decide +kernel
theorem dX11_puts_12 : decode cX11_puts 12 = .ok (.lcmp, 1) := by decide +kernel
theorem dX11_puts_13 : decode cX11_puts 13 = .ok (.ifCond .le 11, 3) := by decide +kernel
theorem dX11_puts_16 : decode cX11_puts 16 = .ok (.aload_n 0, 1) := by decide +kernel
theorem dX11_puts_17 : decode cX11_puts 17 = .ok (.iconst 4, 1) := by decide +kernel
theorem dX11_puts_18 : decode cX11_puts 18 = .ok (.putfield 234, 3) := by decide +kernel
theorem dX11_puts_21 : decode cX11_puts 21 = .ok (.goto 24, 3) := by decide +kernel
theorem dX11_puts_24 : decode cX11_puts 24 = .ok (.aload_n 0, 1) := by decide +kernel
theorem dX11_puts_25 : decode cX11_puts 25 = .ok (.getfield 150, 3) := by decide +kernel
theorem dX11_puts_28 : decode cX11_puts 28 = .ok (.aload_n 0, 1) := by decide +kernel
theorem dX11_puts_29 : decode cX11_puts 29 = .ok (.getfield 231, 3) := by decide +kernel
theorem dX11_puts_32 : decode cX11_puts 32 = .ok (.lload_n 1, 1) := by decide +kernel
theorem dX11_puts_33 : decode cX11_puts 33 = .ok (.l2i, 1) := by decide +kernel
theorem dX11_puts_34 : decode cX11_puts 34 = .ok (.iastore, 1) := by decide +kernel
theorem dX11_puts_35 : decode cX11_puts 35 = .ok (.aload_n 0, 1) := by decide +kernel
theorem dX11_puts_36 : decode cX11_puts 36 = .ok (.dup, 1) := by decide +kernel
theorem dX11_puts_37 : decode cX11_puts 37 = .ok (.getfield 231, 3) := by decide +kernel
theorem dX11_puts_40 : decode cX11_puts 40 = .ok (.iconst 1, 1) := by decide +kernel
theorem dX11_puts_41 : decode cX11_puts 41 = .ok (.iadd, 1) := by decide +kernel
theorem dX11_puts_42 : decode cX11_puts 42 = .ok (.putfield 231, 3) := by decide +kernel
theorem dX11_puts_45 : decode cX11_puts 45 = .ok (.return_, 1) := by decide +kernel
theorem dX11_reckons_0 : decode cX11_reckons 0 = .ok (.aload_n 0, 1) := by decide +kernel
theorem dX11_reckons_1 : decode cX11_reckons 1 = .ok (.getfield 150, 3) := by decide +kernel
theorem dX11_reckons_4 : decode cX11_reckons 4 = .ok (.aload_n 0, 1) := by decide +kernel
theorem dX11_reckons_5 : decode cX11_reckons 5 = .ok (.getfield 231, 3) := by decide +kernel
theorem dX11_reckons_8 : decode cX11_reckons 8 = .ok (.iconst 1, 1) := by decide +kernel
theorem dX11_reckons_9 : decode cX11_reckons 9 = .ok (.isub, 1) := by decide +kernel
theorem dX11_reckons_10 : decode cX11_reckons 10 = .ok (.iaload, 1) := by decide +kernel
theorem dX11_reckons_11 : decode cX11_reckons 11 = .ok (.istore_n 2, 1) := by decide +kernel
theorem dX11_reckons_12 : decode cX11_reckons 12 = .ok (.aload_n 0, 1) := by decide +kernel
theorem dX11_reckons_13 : decode cX11_reckons 13 = .ok (.getfield 150, 3) := by decide +kernel
theorem dX11_reckons_16 : decode cX11_reckons 16 = .ok (.aload_n 0, 1) := by decide +kernel
theorem dX11_reckons_17 : decode cX11_reckons 17 = .ok (.getfield 231, 3) := by decide +kernel
theorem dX11_reckons_20 : decode cX11_reckons 20 = .ok (.iconst 2, 1) := by decide +kernel
theorem dX11_reckons_21 : decode cX11_reckons 21 = .ok (.isub, 1) := by decide +kernel
theorem dX11_reckons_22 : decode cX11_reckons 22 = .ok (.iaload, 1) := by decide +kernel
theorem dX11_reckons_23 : decode cX11_reckons 23 = .ok (.i2l, 1) := by decide +kernel
theorem dX11_reckons_24 : decode cX11_reckons 24 = .ok (.lstore_n 3, 1) := by decide +kernel
theorem dX11_reckons_25 : decode cX11_reckons 25 = .ok (.iload_n 1, 1) := by decide +kernel
theorem dX11_reckons_26 : decode cX11_reckons 26 = .ok (.bipush 14, 2) := by decide +kernel
theorem dX11_reckons_28 : decode cX11_reckons 28 = .ok (.if_icmp .ne 42, 3) := by decide +kernel
theorem dX11_reckons_31 : decode cX11_reckons 31 = .ok (.aload_n 0, 1) := by decide +kernel
theorem dX11_reckons_32 : decode cX11_reckons 32 = .ok (.getfield 150, 3) := by decide +kernel
theorem dX11_reckons_35 : decode cX11_reckons 35 = .ok (.aload_n 0, 1) := by decide +kernel
theorem dX11_reckons_36 : decode cX11_reckons 36 = .ok (.getfield 231, 3) := by decide +kernel
theorem dX11_reckons_39 : decode cX11_reckons 39 = .ok (.iconst 3, 1) := by decide +kernel
theorem dX11_reckons_40 : decode cX11_reckons 40 = .ok (.isub, 1) := by decide +kernel
theorem dX11_reckons_41 : decode cX11_reckons 41 = .ok (.iaload, 1) := by decide +kernel
theorem dX11_reckons_42 : decode cX11_reckons 42 = .ok (.istore 5, 2) := by decide +kernel
theorem dX11_reckons_44 : decode cX11_reckons 44 = .ok (.aload_n 0, 1) := by decide +kernel
theorem dX11_reckons_45 : decode cX11_reckons 45 = .ok (.dup, 1) := by decide +kernel
theorem dX11_reckons_46 : decode cX11_reckons 46 = .ok (.getfield 231, 3) := by decide +kernel
theorem dX11_reckons_49 : decode cX11_reckons 49 = .ok (.iconst 3, 1) := by decide +kernel
theorem dX11_reckons_50 : decode cX11_reckons 50 = .ok (.isub, 1) := by decide +kernel
theorem dX11_reckons_51 : decode cX11_reckons 51 = .ok (.putfield 231, 3) := by decide +kernel
theorem dX11_reckons_54 : decode cX11_reckons 54 = .ok (.aload_n 0, 1) := by decide +kernel
theorem dX11_reckons_55 : decode cX11_reckons 55 = .ok (.iload 5, 2) := by decide +kernel
theorem dX11_reckons_57 : decode cX11_reckons 57 = .ok (.ifCond .le 7, 3) := by decide +kernel
theorem dX11_reckons_60 : decode cX11_reckons 60 = .ok (.lload_n 3, 1) := by decide +kernel
theorem dX11_reckons_61 : decode cX11_reckons 61 = .ok (.goto 5, 3) := by decide +kernel
theorem dX11_reckons_64 : decode cX11_reckons 64 = .ok (.iload_n 2, 1) := by decide +kernel
theorem dX11_reckons_65 : decode cX11_reckons 65 = .ok (.i2l, 1) := by decide +kernel
theorem dX11_reckons_66 : decode cX11_reckons 66 = .ok (.invokevirtual 248, 3) := by decide +kernel
theorem dX11_reckons_69 : decode cX11_reckons 69 = .ok (.return_, 1) := by decide +kernel
theorem dX11_reckons_70 : decode cX11_reckons 70 = .ok (.aload_n 0, 1) := by decide +kernel
theorem dX11_reckons_71 : decode cX11_reckons 71 = .ok (.dup, 1) := by decide +kernel
theorem dX11_reckons_72 : decode cX11_reckons 72 = .ok (.getfield 231, 3) := by decide +kernel
theorem dX11_reckons_75 : decode cX11_reckons 75 = .ok (.iconst 2, 1) := by decide +kernel
theorem dX11_reckons_76 : decode cX11_reckons 76 = .ok (.isub, 1) := by decide +kernel
theorem dX11_reckons_77 : decode cX11_reckons 77 = .ok (.putfield 231, 3) := by decide +kernel
theorem dX11_reckons_80 : decode cX11_reckons 80 = .ok (.iload_n 1, 1) := by decide +kernel
theorem dX11_reckons_81 : decode cX11_reckons 81 = .ok (.bipush 11, 2) := by decide +kernel
theorem dX11_reckons_83 : decode cX11_reckons 83 = .ok (.if_icmp .ne 15, 3) := by decide +kernel
theorem dX11_reckons_86 : decode cX11_reckons 86 = .ok (.iload_n 2, 1) := by decide +kernel
theorem dX11_reckons_87 : decode cX11_reckons 87 = .ok (.ifCond .ne 11, 3) := by decide +kernel
theorem dX11_reckons_90 : decode cX11_reckons 90 = .ok (.aload_n 0, 1) := by decide +kernel
theorem dX11_reckons_91 : decode cX11_reckons 91 = .ok (.iconst 3, 1) := by decide +kernel
theorem dX11_reckons_92 : decode cX11_reckons 92 = .ok (.putfield 234, 3) := by decide +kernel
theorem dX11_reckons_95 : decode cX11_reckons 95 = .ok (.goto 91, 3) := by decide +kernel
theorem dX11_reckons_98 : decode cX11_reckons 98 = .ok (.aload_n 0, 1) := by decide +kernel
theorem dX11_reckons_99 : decode cX11_reckons 99 = .ok (.iload_n 1, 1) := by decide +kernel
theorem dX11_reckons_100 : decode cX11_reckons 100 = .ok (.bipush 8, 2) := by decide +kernel
theorem dX11_reckons_102 : decode cX11_reckons 102 = .ok (.if_icmp .ne 10, 3) := by decide +kernel
theorem dX11_reckons_105 : decode cX11_reckons 105 = .ok (.lload_n 3, 1) := by decide +kernel
theorem dX11_reckons_106 : decode cX11_reckons 106 = .ok (.iload_n 2, 1) := by decide +kernel
theorem dX11_reckons_107 : decode cX11_reckons 107 = .ok (.i2l, 1) := by decide +kernel
theorem dX11_reckons_108 : decode cX11_reckons 108 = .ok (.ladd, 1) := by decide +kernel
theorem dX11_reckons_109 : decode cX11_reckons 109 = .ok (.goto 74, 3) := by decide +kernel
theorem dX11_reckons_112 : decode cX11_reckons 112 = .ok (.iload_n 1, 1) := by decide +kernel
theorem dX11_reckons_113 : decode cX11_reckons 113 = .ok (.bipush 9, 2) := by decide +kernel
theorem dX11_reckons_115 : decode cX11_reckons 115 = .ok (.if_icmp .ne 10, 3) := by decide +kernel
theorem dX11_reckons_118 : decode cX11_reckons 118 = .ok (.lload_n 3, 1) := by decide +kernel
theorem dX11_reckons_119 : decode cX11_reckons 119 = .ok (.iload_n 2, 1) := by decide +kernel
theorem dX11_reckons_120 : decode cX11_reckons 120 = .ok (.i2l, 1) := by decide +kernel
theorem dX11_reckons_121 : decode cX11_reckons 121 = .ok (.lsub, 1) := by decide +kernel
theorem dX11_reckons_122 : decode cX11_reckons 122 = .ok (.goto 61, 3) := by decide +kernel
theorem dX11_reckons_125 : decode cX11_reckons 125 = .ok (.iload_n 1, 1) := by decide +kernel
theorem dX11_reckons_126 : decode cX11_reckons 126 = .ok (.bipush 10, 2) := by decide +kernel
theorem dX11_reckons_128 : decode cX11_reckons 128 = .ok (.if_icmp .ne 10, 3) := by decide +kernel
theorem dX11_reckons_131 : decode cX11_reckons 131 = .ok (.lload_n 3, 1) := by decide +kernel
theorem dX11_reckons_132 : decode cX11_reckons 132 = .ok (.iload_n 2, 1) := by decide +kernel
theorem dX11_reckons_133 : decode cX11_reckons 133 = .ok (.i2l, 1) := by decide +kernel
theorem dX11_reckons_134 : decode cX11_reckons 134 = .ok (.lmul, 1) := by decide +kernel
theorem dX11_reckons_135 : decode cX11_reckons 135 = .ok (.goto 48, 3) := by decide +kernel
theorem dX11_reckons_138 : decode cX11_reckons 138 = .ok (.iload_n 1, 1) := by decide +kernel
theorem dX11_reckons_139 : decode cX11_reckons 139 = .ok (.bipush 11, 2) := by decide +kernel
theorem dX11_reckons_141 : decode cX11_reckons 141 = .ok (.if_icmp .ne 10, 3) := by decide +kernel
theorem dX11_reckons_144 : decode cX11_reckons 144 = .ok (.lload_n 3, 1) := by decide +kernel
theorem dX11_reckons_145 : decode cX11_reckons 145 = .ok (.iload_n 2, 1) := by decide +kernel
theorem dX11_reckons_146 : decode cX11_reckons 146 = .ok (.i2l, 1) := by decide +kernel
theorem dX11_reckons_147 : decode cX11_reckons 147 = .ok (.ldiv, 1) := by decide +kernel
theorem dX11_reckons_148 : decode cX11_reckons 148 = .ok (.goto 35, 3) := by decide +kernel
theorem dX11_reckons_151 : decode cX11_reckons 151 = .ok (.iload_n 1, 1) := by decide +kernel
theorem dX11_reckons_152 : decode cX11_reckons 152 = .ok (.bipush 12, 2) := by decide +kernel
theorem dX11_reckons_154 : decode cX11_reckons 154 = .ok (.if_icmp .ne 7, 3) := by decide +kernel
theorem dX11_reckons_157 : decode cX11_reckons 157 = .ok (.iconst 1, 1) := by decide +kernel
theorem dX11_reckons_158 : decode cX11_reckons 158 = .ok (.goto 4, 3) := by decide +kernel
theorem dX11_reckons_161 : decode cX11_reckons 161 = .ok (.iconst 0, 1) := by decide +kernel
theorem dX11_reckons_162 : decode cX11_reckons 162 = .ok (.lload_n 3, 1) := by decide +kernel
theorem dX11_reckons_163 : decode cX11_reckons 163 = .ok (.iload_n 2, 1) := by decide +kernel
theorem dX11_reckons_164 : decode cX11_reckons 164 = .ok (.i2l, 1) := by decide +kernel
theorem dX11_reckons_165 : decode cX11_reckons 165 = .ok (.lcmp, 1) := by decide +kernel
theorem dX11_reckons_166 : decode cX11_reckons 166 = .ok (.ifCond .ge 7, 3) := by decide +kernel
theorem dX11_reckons_169 : decode cX11_reckons 169 = .ok (.iconst 1, 1) := by decide +kernel
theorem dX11_reckons_170 : decode cX11_reckons 170 = .ok (.goto 4, 3) := by decide +kernel
theorem dX11_reckons_173 : decode cX11_reckons 173 = .ok (.iconst 0, 1) := by decide +kernel
theorem dX11_reckons_174 : decode cX11_reckons 174 = .ok (.if_icmp .ne 7, 3) := by decide +kernel
theorem dX11_reckons_177 : decode cX11_reckons 177 = .ok (.lload_n 3, 1) := by decide +kernel
theorem dX11_reckons_178 : decode cX11_reckons 178 = .ok (.goto 5, 3) := by decide +kernel
theorem dX11_reckons_181 : decode cX11_reckons 181 = .ok (.iload_n 2, 1) := by decide +kernel
theorem dX11_reckons_182 : decode cX11_reckons 182 = .ok (.i2l, 1) := by decide +kernel
theorem dX11_reckons_183 : decode cX11_reckons 183 = .ok (.invokevirtual 248, 3) := by decide +kernel
theorem dX11_reckons_186 : decode cX11_reckons 186 = .ok (.return_, 1) := by decide +kernel
theorem dX11_lastAt_0 : decode cX11_lastAt 0 = .ok (.iconst 0, 1) := by decide +kernel
theorem dX11_lastAt_1 : decode cX11_lastAt 1 = .ok (.istore_n 3, 1) := by decide +kernel
theorem dX11_lastAt_2 : decode cX11_lastAt 2 = .ok (.iconst 0, 1) := by decide +kernel
theorem dX11_lastAt_3 : decode cX11_lastAt 3 = .ok (.istore 4, 2) := by decide +kernel
theorem dX11_lastAt_5 : decode cX11_lastAt 5 = .ok (.iload 4, 2) := by decide +kernel
theorem dX11_lastAt_7 : decode cX11_lastAt 7 = .ok (.aload_n 0, 1) := by decide +kernel
theorem dX11_lastAt_8 : decode cX11_lastAt 8 = .ok (.getfield 266, 3) := by decide +kernel
theorem dX11_lastAt_11 : decode cX11_lastAt 11 = .ok (.if_icmp .ge 54, 3) := by decide +kernel
theorem dX11_lastAt_14 : decode cX11_lastAt 14 = .ok (.aload_n 0, 1) := by decide +kernel
theorem dX11_lastAt_15 : decode cX11_lastAt 15 = .ok (.getfield 101, 3) := by decide +kernel
theorem dX11_lastAt_18 : decode cX11_lastAt 18 = .ok (.iload 4, 2) := by decide +kernel
theorem dX11_lastAt_20 : decode cX11_lastAt 20 = .ok (.iaload, 1) := by decide +kernel
theorem dX11_lastAt_21 : decode cX11_lastAt 21 = .ok (.iload_n 1, 1) := by decide +kernel
theorem dX11_lastAt_22 : decode cX11_lastAt 22 = .ok (.if_icmp .ne 35, 3) := by decide +kernel
theorem dX11_lastAt_25 : decode cX11_lastAt 25 = .ok (.aload_n 0, 1) := by decide +kernel
theorem dX11_lastAt_26 : decode cX11_lastAt 26 = .ok (.getfield 107, 3) := by decide +kernel
theorem dX11_lastAt_29 : decode cX11_lastAt 29 = .ok (.iload 4, 2) := by decide +kernel
theorem dX11_lastAt_31 : decode cX11_lastAt 31 = .ok (.iaload, 1) := by decide +kernel
theorem dX11_lastAt_32 : decode cX11_lastAt 32 = .ok (.iload_n 2, 1) := by decide +kernel
theorem dX11_lastAt_33 : decode cX11_lastAt 33 = .ok (.if_icmp .ge 24, 3) := by decide +kernel
theorem dX11_lastAt_36 : decode cX11_lastAt 36 = .ok (.aload_n 0, 1) := by decide +kernel
theorem dX11_lastAt_37 : decode cX11_lastAt 37 = .ok (.getfield 113, 3) := by decide +kernel
theorem dX11_lastAt_40 : decode cX11_lastAt 40 = .ok (.iload 4, 2) := by decide +kernel
theorem dX11_lastAt_42 : decode cX11_lastAt 42 = .ok (.iaload, 1) := by decide +kernel
theorem dX11_lastAt_43 : decode cX11_lastAt 43 = .ok (.iconst (-1), 1) := by decide +kernel
theorem dX11_lastAt_44 : decode cX11_lastAt 44 = .ok (.if_icmp .eq 13, 3) := by decide +kernel
theorem dX11_lastAt_47 : decode cX11_lastAt 47 = .ok (.aload_n 0, 1) := by decide +kernel
theorem dX11_lastAt_48 : decode cX11_lastAt 48 = .ok (.getfield 113, 3) := by decide +kernel
theorem dX11_lastAt_51 : decode cX11_lastAt 51 = .ok (.iload 4, 2) := by decide +kernel
theorem dX11_lastAt_53 : decode cX11_lastAt 53 = .ok (.iaload, 1) := by decide +kernel
theorem dX11_lastAt_54 : decode cX11_lastAt 54 = .ok (.goto 4, 3) := by decide +kernel
theorem dX11_lastAt_57 : decode cX11_lastAt 57 = .ok (.iload_n 3, 1) := by decide +kernel
theorem dX11_lastAt_58 : decode cX11_lastAt 58 = .ok (.istore_n 3, 1) := by decide +kernel
theorem dX11_lastAt_59 : decode cX11_lastAt 59 = .ok (.iinc 4 1, 3) := by decide +kernel
theorem dX11_lastAt_62 : decode cX11_lastAt 62 = .ok (.goto (-57), 3) := by decide +kernel
theorem dX11_lastAt_65 : decode cX11_lastAt 65 = .ok (.iload_n 3, 1) := by decide +kernel
theorem dX11_lastAt_66 : decode cX11_lastAt 66 = .ok (.ireturn, 1) := by decide +kernel
theorem dX11_isThere_0 : decode cX11_isThere 0 = .ok (.aload_n 0, 1) := by decide +kernel
theorem dX11_isThere_1 : decode cX11_isThere 1 = .ok (.getfield 89, 3) := by decide +kernel
theorem dX11_isThere_4 : decode cX11_isThere 4 = .ok (.iload_n 1, 1) := by decide +kernel
theorem dX11_isThere_5 : decode cX11_isThere 5 = .ok (.iaload, 1) := by decide +kernel
theorem dX11_isThere_6 : decode cX11_isThere 6 = .ok (.iconst (-1), 1) := by decide +kernel
theorem dX11_isThere_7 : decode cX11_isThere 7 = .ok (.if_icmp .eq 22, 3) := by decide +kernel
theorem dX11_isThere_10 : decode cX11_isThere 10 = .ok (.aload_n 0, 1) := by decide +kernel
theorem dX11_isThere_11 : decode cX11_isThere 11 = .ok (.getfield 107, 3) := by decide +kernel
theorem dX11_isThere_14 : decode cX11_isThere 14 = .ok (.aload_n 0, 1) := by decide +kernel
theorem dX11_isThere_15 : decode cX11_isThere 15 = .ok (.getfield 89, 3) := by decide +kernel
theorem dX11_isThere_18 : decode cX11_isThere 18 = .ok (.iload_n 1, 1) := by decide +kernel
theorem dX11_isThere_19 : decode cX11_isThere 19 = .ok (.iaload, 1) := by decide +kernel
theorem dX11_isThere_20 : decode cX11_isThere 20 = .ok (.iaload, 1) := by decide +kernel
theorem dX11_isThere_21 : decode cX11_isThere 21 = .ok (.iload_n 2, 1) := by decide +kernel
theorem dX11_isThere_22 : decode cX11_isThere 22 = .ok (.if_icmp .ge 7, 3) := by decide +kernel
theorem dX11_isThere_25 : decode cX11_isThere 25 = .ok (.iconst 1, 1) := by decide +kernel
theorem dX11_isThere_26 : decode cX11_isThere 26 = .ok (.goto 4, 3) := by decide +kernel
theorem dX11_isThere_29 : decode cX11_isThere 29 = .ok (.iconst 0, 1) := by decide +kernel
theorem dX11_isThere_30 : decode cX11_isThere 30 = .ok (.istore_n 3, 1) := by decide +kernel
theorem dX11_isThere_31 : decode cX11_isThere 31 = .ok (.aload_n 0, 1) := by decide +kernel
theorem dX11_isThere_32 : decode cX11_isThere 32 = .ok (.getfield 86, 3) := by decide +kernel
theorem dX11_isThere_35 : decode cX11_isThere 35 = .ok (.iload_n 1, 1) := by decide +kernel
theorem dX11_isThere_36 : decode cX11_isThere 36 = .ok (.iaload, 1) := by decide +kernel
theorem dX11_isThere_37 : decode cX11_isThere 37 = .ok (.iconst (-1), 1) := by decide +kernel
theorem dX11_isThere_38 : decode cX11_isThere 38 = .ok (.if_icmp .eq 17, 3) := by decide +kernel
theorem dX11_isThere_41 : decode cX11_isThere 41 = .ok (.aload_n 0, 1) := by decide +kernel
theorem dX11_isThere_42 : decode cX11_isThere 42 = .ok (.getfield 86, 3) := by decide +kernel
theorem dX11_isThere_45 : decode cX11_isThere 45 = .ok (.iload_n 1, 1) := by decide +kernel
theorem dX11_isThere_46 : decode cX11_isThere 46 = .ok (.iaload, 1) := by decide +kernel
theorem dX11_isThere_47 : decode cX11_isThere 47 = .ok (.iload_n 2, 1) := by decide +kernel
theorem dX11_isThere_48 : decode cX11_isThere 48 = .ok (.if_icmp .ge 7, 3) := by decide +kernel
theorem dX11_isThere_51 : decode cX11_isThere 51 = .ok (.iconst 1, 1) := by decide +kernel
theorem dX11_isThere_52 : decode cX11_isThere 52 = .ok (.goto 4, 3) := by decide +kernel
theorem dX11_isThere_55 : decode cX11_isThere 55 = .ok (.iconst 0, 1) := by decide +kernel
theorem dX11_isThere_56 : decode cX11_isThere 56 = .ok (.istore 4, 2) := by decide +kernel
theorem dX11_isThere_58 : decode cX11_isThere 58 = .ok (.aload_n 0, 1) := by decide +kernel
theorem dX11_isThere_59 : decode cX11_isThere 59 = .ok (.getfield 83, 3) := by decide +kernel
theorem dX11_isThere_62 : decode cX11_isThere 62 = .ok (.iload_n 1, 1) := by decide +kernel
theorem dX11_isThere_63 : decode cX11_isThere 63 = .ok (.iaload, 1) := by decide +kernel
theorem dX11_isThere_64 : decode cX11_isThere 64 = .ok (.iload_n 2, 1) := by decide +kernel
theorem dX11_isThere_65 : decode cX11_isThere 65 = .ok (.if_icmp .ge 25, 3) := by decide +kernel
theorem dX11_isThere_68 : decode cX11_isThere 68 = .ok (.iload_n 3, 1) := by decide +kernel
theorem dX11_isThere_69 : decode cX11_isThere 69 = .ok (.ifCond .ne 21, 3) := by decide +kernel
theorem dX11_isThere_72 : decode cX11_isThere 72 = .ok (.iload 4, 2) := by decide +kernel
theorem dX11_isThere_74 : decode cX11_isThere 74 = .ok (.ifCond .ne 16, 3) := by decide +kernel
theorem dX11_isThere_77 : decode cX11_isThere 77 = .ok (.aload_n 0, 1) := by decide +kernel
theorem dX11_isThere_78 : decode cX11_isThere 78 = .ok (.getfield 92, 3) := by decide +kernel
theorem dX11_isThere_81 : decode cX11_isThere 81 = .ok (.iload_n 1, 1) := by decide +kernel
theorem dX11_isThere_82 : decode cX11_isThere 82 = .ok (.baload, 1) := by decide +kernel
theorem dX11_isThere_83 : decode cX11_isThere 83 = .ok (.ifCond .ne 7, 3) := by decide +kernel
theorem dX11_isThere_86 : decode cX11_isThere 86 = .ok (.iconst 1, 1) := by decide +kernel
theorem dX11_isThere_87 : decode cX11_isThere 87 = .ok (.goto 4, 3) := by decide +kernel
theorem dX11_isThere_90 : decode cX11_isThere 90 = .ok (.iconst 0, 1) := by decide +kernel
theorem dX11_isThere_91 : decode cX11_isThere 91 = .ok (.ireturn, 1) := by decide +kernel
theorem dX11_bidsAt_0 : decode cX11_bidsAt 0 = .ok (.iconst 0, 1) := by decide +kernel
theorem dX11_bidsAt_1 : decode cX11_bidsAt 1 = .ok (.istore 4, 2) := by decide +kernel
theorem dX11_bidsAt_3 : decode cX11_bidsAt 3 = .ok (.iconst 0, 1) := by decide +kernel
theorem dX11_bidsAt_4 : decode cX11_bidsAt 4 = .ok (.istore 5, 2) := by decide +kernel
theorem dX11_bidsAt_6 : decode cX11_bidsAt 6 = .ok (.iconst 0, 1) := by decide +kernel
theorem dX11_bidsAt_7 : decode cX11_bidsAt 7 = .ok (.istore 6, 2) := by decide +kernel
theorem dX11_bidsAt_9 : decode cX11_bidsAt 9 = .ok (.iconst 0, 1) := by decide +kernel
theorem dX11_bidsAt_10 : decode cX11_bidsAt 10 = .ok (.istore 7, 2) := by decide +kernel
theorem dX11_bidsAt_12 : decode cX11_bidsAt 12 = .ok (.iconst 0, 1) := by decide +kernel
theorem dX11_bidsAt_13 : decode cX11_bidsAt 13 = .ok (.istore 8, 2) := by decide +kernel
theorem dX11_bidsAt_15 : decode cX11_bidsAt 15 = .ok (.iconst 0, 1) := by decide +kernel
theorem dX11_bidsAt_16 : decode cX11_bidsAt 16 = .ok (.istore 9, 2) := by decide +kernel
theorem dX11_bidsAt_18 : decode cX11_bidsAt 18 = .ok (.iload 9, 2) := by decide +kernel
theorem dX11_bidsAt_20 : decode cX11_bidsAt 20 = .ok (.aload_n 0, 1) := by decide +kernel
theorem dX11_bidsAt_21 : decode cX11_bidsAt 21 = .ok (.getfield 269, 3) := by decide +kernel
theorem dX11_bidsAt_24 : decode cX11_bidsAt 24 = .ok (.if_icmp .ge 127, 3) := by decide +kernel
theorem dX11_bidsAt_27 : decode cX11_bidsAt 27 = .ok (.aload_n 0, 1) := by decide +kernel
theorem dX11_bidsAt_28 : decode cX11_bidsAt 28 = .ok (.getfield 71, 3) := by decide +kernel
theorem dX11_bidsAt_31 : decode cX11_bidsAt 31 = .ok (.iload 9, 2) := by decide +kernel
theorem dX11_bidsAt_33 : decode cX11_bidsAt 33 = .ok (.iaload, 1) := by decide +kernel
theorem dX11_bidsAt_34 : decode cX11_bidsAt 34 = .ok (.iload_n 2, 1) := by decide +kernel
theorem dX11_bidsAt_35 : decode cX11_bidsAt 35 = .ok (.if_icmp .ne 110, 3) := by decide +kernel
theorem dX11_bidsAt_38 : decode cX11_bidsAt 38 = .ok (.aload_n 0, 1) := by decide +kernel
theorem dX11_bidsAt_39 : decode cX11_bidsAt 39 = .ok (.iload 9, 2) := by decide +kernel
theorem dX11_bidsAt_41 : decode cX11_bidsAt 41 = .ok (.iload_n 3, 1) := by decide +kernel
theorem dX11_bidsAt_42 : decode cX11_bidsAt 42 = .ok (.invokevirtual 272, 3) := by decide +kernel
theorem dX11_bidsAt_45 : decode cX11_bidsAt 45 = .ok (.ifCond .eq 100, 3) := by decide +kernel
theorem dX11_bidsAt_48 : decode cX11_bidsAt 48 = .ok (.iinc 8 1, 3) := by decide +kernel
theorem dX11_bidsAt_51 : decode cX11_bidsAt 51 = .ok (.aload_n 0, 1) := by decide +kernel
theorem dX11_bidsAt_52 : decode cX11_bidsAt 52 = .ok (.getfield 74, 3) := by decide +kernel
theorem dX11_bidsAt_55 : decode cX11_bidsAt 55 = .ok (.iload 9, 2) := by decide +kernel
theorem dX11_bidsAt_57 : decode cX11_bidsAt 57 = .ok (.baload, 1) := by decide +kernel
theorem dX11_bidsAt_58 : decode cX11_bidsAt 58 = .ok (.ifCond .eq 44, 3) := by decide +kernel
theorem dX11_bidsAt_61 : decode cX11_bidsAt 61 = .ok (.aload_n 0, 1) := by decide +kernel
theorem dX11_bidsAt_62 : decode cX11_bidsAt 62 = .ok (.getfield 80, 3) := by decide +kernel
theorem dX11_bidsAt_65 : decode cX11_bidsAt 65 = .ok (.iload 9, 2) := by decide +kernel
theorem dX11_bidsAt_67 : decode cX11_bidsAt 67 = .ok (.iaload, 1) := by decide +kernel
theorem dX11_bidsAt_68 : decode cX11_bidsAt 68 = .ok (.iload 4, 2) := by decide +kernel
theorem dX11_bidsAt_70 : decode cX11_bidsAt 70 = .ok (.if_icmp .le 13, 3) := by decide +kernel
theorem dX11_bidsAt_73 : decode cX11_bidsAt 73 = .ok (.aload_n 0, 1) := by decide +kernel
theorem dX11_bidsAt_74 : decode cX11_bidsAt 74 = .ok (.getfield 80, 3) := by decide +kernel
theorem dX11_bidsAt_77 : decode cX11_bidsAt 77 = .ok (.iload 9, 2) := by decide +kernel
theorem dX11_bidsAt_79 : decode cX11_bidsAt 79 = .ok (.iaload, 1) := by decide +kernel
theorem dX11_bidsAt_80 : decode cX11_bidsAt 80 = .ok (.goto 5, 3) := by decide +kernel
theorem dX11_bidsAt_83 : decode cX11_bidsAt 83 = .ok (.iload 4, 2) := by decide +kernel
theorem dX11_bidsAt_85 : decode cX11_bidsAt 85 = .ok (.istore 4, 2) := by decide +kernel
theorem dX11_bidsAt_87 : decode cX11_bidsAt 87 = .ok (.iload 6, 2) := by decide +kernel
theorem dX11_bidsAt_89 : decode cX11_bidsAt 89 = .ok (.aload_n 0, 1) := by decide +kernel
theorem dX11_bidsAt_90 : decode cX11_bidsAt 90 = .ok (.getfield 77, 3) := by decide +kernel
theorem dX11_bidsAt_93 : decode cX11_bidsAt 93 = .ok (.iload 9, 2) := by decide +kernel
theorem dX11_bidsAt_95 : decode cX11_bidsAt 95 = .ok (.iaload, 1) := by decide +kernel
theorem dX11_bidsAt_96 : decode cX11_bidsAt 96 = .ok (.iadd, 1) := by decide +kernel
theorem dX11_bidsAt_97 : decode cX11_bidsAt 97 = .ok (.istore 6, 2) := by decide +kernel
theorem dX11_bidsAt_99 : decode cX11_bidsAt 99 = .ok (.goto 46, 3) := by decide +kernel
theorem dX11_bidsAt_102 : decode cX11_bidsAt 102 = .ok (.iload 7, 2) := by decide +kernel
theorem dX11_bidsAt_104 : decode cX11_bidsAt 104 = .ok (.ifCond .eq 15, 3) := by decide +kernel
theorem dX11_bidsAt_107 : decode cX11_bidsAt 107 = .ok (.aload_n 0, 1) := by decide +kernel
theorem dX11_bidsAt_108 : decode cX11_bidsAt 108 = .ok (.getfield 80, 3) := by decide +kernel
theorem dX11_bidsAt_111 : decode cX11_bidsAt 111 = .ok (.iload 9, 2) := by decide +kernel
theorem dX11_bidsAt_113 : decode cX11_bidsAt 113 = .ok (.iaload, 1) := by decide +kernel
theorem dX11_bidsAt_114 : decode cX11_bidsAt 114 = .ok (.iload 5, 2) := by decide +kernel
theorem dX11_bidsAt_116 : decode cX11_bidsAt 116 = .ok (.if_icmp .ge 13, 3) := by decide +kernel
theorem dX11_bidsAt_119 : decode cX11_bidsAt 119 = .ok (.aload_n 0, 1) := by decide +kernel
theorem dX11_bidsAt_120 : decode cX11_bidsAt 120 = .ok (.getfield 80, 3) := by decide +kernel
theorem dX11_bidsAt_123 : decode cX11_bidsAt 123 = .ok (.iload 9, 2) := by decide +kernel
theorem dX11_bidsAt_125 : decode cX11_bidsAt 125 = .ok (.iaload, 1) := by decide +kernel
theorem dX11_bidsAt_126 : decode cX11_bidsAt 126 = .ok (.goto 5, 3) := by decide +kernel
theorem dX11_bidsAt_129 : decode cX11_bidsAt 129 = .ok (.iload 5, 2) := by decide +kernel
theorem dX11_bidsAt_131 : decode cX11_bidsAt 131 = .ok (.istore 5, 2) := by decide +kernel
theorem dX11_bidsAt_133 : decode cX11_bidsAt 133 = .ok (.iload 7, 2) := by decide +kernel
theorem dX11_bidsAt_135 : decode cX11_bidsAt 135 = .ok (.aload_n 0, 1) := by decide +kernel
theorem dX11_bidsAt_136 : decode cX11_bidsAt 136 = .ok (.getfield 77, 3) := by decide +kernel
theorem dX11_bidsAt_139 : decode cX11_bidsAt 139 = .ok (.iload 9, 2) := by decide +kernel
theorem dX11_bidsAt_141 : decode cX11_bidsAt 141 = .ok (.iaload, 1) := by decide +kernel
theorem dX11_bidsAt_142 : decode cX11_bidsAt 142 = .ok (.iadd, 1) := by decide +kernel
theorem dX11_bidsAt_143 : decode cX11_bidsAt 143 = .ok (.istore 7, 2) := by decide +kernel
theorem dX11_bidsAt_145 : decode cX11_bidsAt 145 = .ok (.iinc 9 1, 3) := by decide +kernel
theorem dX11_bidsAt_148 : decode cX11_bidsAt 148 = .ok (.goto (-130), 3) := by decide +kernel
theorem dX11_bidsAt_151 : decode cX11_bidsAt 151 = .ok (.iload_n 1, 1) := by decide +kernel
theorem dX11_bidsAt_152 : decode cX11_bidsAt 152 = .ok (.iconst 2, 1) := by decide +kernel
theorem dX11_bidsAt_153 : decode cX11_bidsAt 153 = .ok (.if_icmp .ne 8, 3) := by decide +kernel
theorem dX11_bidsAt_156 : decode cX11_bidsAt 156 = .ok (.iload 4, 2) := by decide +kernel
theorem dX11_bidsAt_158 : decode cX11_bidsAt 158 = .ok (.goto 35, 3) := by decide +kernel
theorem dX11_bidsAt_161 : decode cX11_bidsAt 161 = .ok (.iload_n 1, 1) := by decide +kernel
theorem dX11_bidsAt_162 : decode cX11_bidsAt 162 = .ok (.iconst 3, 1) := by decide +kernel
theorem dX11_bidsAt_163 : decode cX11_bidsAt 163 = .ok (.if_icmp .ne 8, 3) := by decide +kernel
theorem dX11_bidsAt_166 : decode cX11_bidsAt 166 = .ok (.iload 5, 2) := by decide +kernel
theorem dX11_bidsAt_168 : decode cX11_bidsAt 168 = .ok (.goto 25, 3) := by decide +kernel
theorem dX11_bidsAt_171 : decode cX11_bidsAt 171 = .ok (.iload_n 1, 1) := by decide +kernel
theorem dX11_bidsAt_172 : decode cX11_bidsAt 172 = .ok (.iconst 4, 1) := by decide +kernel
theorem dX11_bidsAt_173 : decode cX11_bidsAt 173 = .ok (.if_icmp .ne 8, 3) := by decide +kernel
theorem dX11_bidsAt_176 : decode cX11_bidsAt 176 = .ok (.iload 6, 2) := by decide +kernel
theorem dX11_bidsAt_178 : decode cX11_bidsAt 178 = .ok (.goto 15, 3) := by decide +kernel
theorem dX11_bidsAt_181 : decode cX11_bidsAt 181 = .ok (.iload_n 1, 1) := by decide +kernel
theorem dX11_bidsAt_182 : decode cX11_bidsAt 182 = .ok (.iconst 5, 1) := by decide +kernel
theorem dX11_bidsAt_183 : decode cX11_bidsAt 183 = .ok (.if_icmp .ne 8, 3) := by decide +kernel
theorem dX11_bidsAt_186 : decode cX11_bidsAt 186 = .ok (.iload 7, 2) := by decide +kernel
theorem dX11_bidsAt_188 : decode cX11_bidsAt 188 = .ok (.goto 5, 3) := by decide +kernel
theorem dX11_bidsAt_191 : decode cX11_bidsAt 191 = .ok (.iload 8, 2) := by decide +kernel
theorem dX11_bidsAt_193 : decode cX11_bidsAt 193 = .ok (.ireturn, 1) := by decide +kernel
theorem dX11_asked_0 : decode cX11_asked 0 = .ok (.aload_n 0, 1) := by decide +kernel
theorem dX11_asked_1 : decode cX11_asked 1 = .ok (.iload_n 1, 1) := by decide +kernel
theorem dX11_asked_2 : decode cX11_asked 2 = .ok (.invokestatic 177, 3) := by decide +kernel
theorem dX11_asked_5 : decode cX11_asked 5 = .ok (.ifCond .eq 15, 3) := by decide +kernel
theorem dX11_asked_8 : decode cX11_asked 8 = .ok (.iload_n 2, 1) := by decide +kernel
theorem dX11_asked_9 : decode cX11_asked 9 = .ok (.iload_n 3, 1) := by decide +kernel
theorem dX11_asked_10 : decode cX11_asked 10 = .ok (.invokestatic 181, 3) := by decide +kernel
theorem dX11_asked_13 : decode cX11_asked 13 = .ok (.ifCond .eq 7, 3) := by decide +kernel
theorem dX11_asked_16 : decode cX11_asked 16 = .ok (.iconst 1, 1) := by decide +kernel
theorem dX11_asked_17 : decode cX11_asked 17 = .ok (.goto 4, 3) := by decide +kernel
theorem dX11_asked_20 : decode cX11_asked 20 = .ok (.iconst 0, 1) := by decide +kernel
theorem dX11_asked_21 : decode cX11_asked 21 = .ok (.invokevirtual 185, 3) := by decide +kernel
theorem dX11_asked_24 : decode cX11_asked 24 = .ok (.ifCond .ne 5, 3) := by decide +kernel
theorem dX11_asked_27 : decode cX11_asked 27 = .ok (.iconst 0, 1) := by decide +kernel
theorem dX11_asked_28 : decode cX11_asked 28 = .ok (.ireturn, 1) := by decide +kernel
theorem dX11_asked_29 : decode cX11_asked 29 = .ok (.aload_n 0, 1) := by decide +kernel
theorem dX11_asked_30 : decode cX11_asked 30 = .ok (.iload_n 1, 1) := by decide +kernel
theorem dX11_asked_31 : decode cX11_asked 31 = .ok (.bipush 6, 2) := by decide +kernel
theorem dX11_asked_33 : decode cX11_asked 33 = .ok (.iload_n 2, 1) := by decide +kernel
theorem dX11_asked_34 : decode cX11_asked 34 = .ok (.imul, 1) := by decide +kernel
theorem dX11_asked_35 : decode cX11_asked 35 = .ok (.iload_n 3, 1) := by decide +kernel
theorem dX11_asked_36 : decode cX11_asked 36 = .ok (.iadd, 1) := by decide +kernel
theorem dX11_asked_37 : decode cX11_asked 37 = .ok (.aload_n 0, 1) := by decide +kernel
theorem dX11_asked_38 : decode cX11_asked 38 = .ok (.getfield 164, 3) := by decide +kernel
theorem dX11_asked_41 : decode cX11_asked 41 = .ok (.invokevirtual 196, 3) := by decide +kernel
theorem dX11_asked_44 : decode cX11_asked 44 = .ok (.ifCond .ne 9, 3) := by decide +kernel
theorem dX11_asked_47 : decode cX11_asked 47 = .ok (.aload_n 0, 1) := by decide +kernel
theorem dX11_asked_48 : decode cX11_asked 48 = .ok (.iconst 2, 1) := by decide +kernel
theorem dX11_asked_49 : decode cX11_asked 49 = .ok (.invokevirtual 189, 3) := by decide +kernel
theorem dX11_asked_52 : decode cX11_asked 52 = .ok (.ireturn, 1) := by decide +kernel
theorem dX11_asked_53 : decode cX11_asked 53 = .ok (.aload_n 0, 1) := by decide +kernel
theorem dX11_asked_54 : decode cX11_asked 54 = .ok (.bipush 6, 2) := by decide +kernel
theorem dX11_asked_56 : decode cX11_asked 56 = .ok (.iload_n 2, 1) := by decide +kernel
theorem dX11_asked_57 : decode cX11_asked 57 = .ok (.imul, 1) := by decide +kernel
theorem dX11_asked_58 : decode cX11_asked 58 = .ok (.iload_n 3, 1) := by decide +kernel
theorem dX11_asked_59 : decode cX11_asked 59 = .ok (.iadd, 1) := by decide +kernel
theorem dX11_asked_60 : decode cX11_asked 60 = .ok (.aload_n 0, 1) := by decide +kernel
theorem dX11_asked_61 : decode cX11_asked 61 = .ok (.getfield 164, 3) := by decide +kernel
theorem dX11_asked_64 : decode cX11_asked 64 = .ok (.invokevirtual 275, 3) := by decide +kernel
theorem dX11_asked_67 : decode cX11_asked 67 = .ok (.istore 5, 2) := by decide +kernel
theorem dX11_asked_69 : decode cX11_asked 69 = .ok (.iload 4, 2) := by decide +kernel
theorem dX11_asked_71 : decode cX11_asked 71 = .ok (.ifCond .eq 10, 3) := by decide +kernel
theorem dX11_asked_74 : decode cX11_asked 74 = .ok (.aload_n 0, 1) := by decide +kernel
theorem dX11_asked_75 : decode cX11_asked 75 = .ok (.getfield 234, 3) := by decide +kernel
theorem dX11_asked_78 : decode cX11_asked 78 = .ok (.goto 5, 3) := by decide +kernel
theorem dX11_asked_81 : decode cX11_asked 81 = .ok (.iload 5, 2) := by decide +kernel
theorem dX11_asked_83 : decode cX11_asked 83 = .ok (.ireturn, 1) := by decide +kernel
theorem dX11_value_0 : decode cX11_value 0 = .ok (.aload_n 0, 1) := by decide +kernel
theorem dX11_value_1 : decode cX11_value 1 = .ok (.iload_n 1, 1) := by decide +kernel
theorem dX11_value_2 : decode cX11_value 2 = .ok (.iload_n 2, 1) := by decide +kernel
theorem dX11_value_3 : decode cX11_value 3 = .ok (.iload_n 3, 1) := by decide +kernel
theorem dX11_value_4 : decode cX11_value 4 = .ok (.iconst 0, 1) := by decide +kernel
theorem dX11_value_5 : decode cX11_value 5 = .ok (.invokevirtual 278, 3) := by decide +kernel
theorem dX11_value_8 : decode cX11_value 8 = .ok (.ireturn, 1) := by decide +kernel
theorem dX11_fault_0 : decode cX11_fault 0 = .ok (.aload_n 0, 1) := by decide +kernel
theorem dX11_fault_1 : decode cX11_fault 1 = .ok (.iload_n 1, 1) := by decide +kernel
theorem dX11_fault_2 : decode cX11_fault 2 = .ok (.iload_n 2, 1) := by decide +kernel
theorem dX11_fault_3 : decode cX11_fault 3 = .ok (.iload_n 3, 1) := by decide +kernel
theorem dX11_fault_4 : decode cX11_fault 4 = .ok (.iconst 1, 1) := by decide +kernel
theorem dX11_fault_5 : decode cX11_fault 5 = .ok (.invokevirtual 278, 3) := by decide +kernel
theorem dX11_fault_8 : decode cX11_fault 8 = .ok (.ireturn, 1) := by decide +kernel
theorem dX11_edits_0 : decode cX11_edits 0 = .ok (.aload_n 0, 1) := by decide +kernel
theorem dX11_edits_1 : decode cX11_edits 1 = .ok (.iload_n 1, 1) := by decide +kernel
theorem dX11_edits_2 : decode cX11_edits 2 = .ok (.iload_n 2, 1) := by decide +kernel
theorem dX11_edits_3 : decode cX11_edits 3 = .ok (.invokestatic 181, 3) := by decide +kernel
theorem dX11_edits_6 : decode cX11_edits 6 = .ok (.invokevirtual 185, 3) := by decide +kernel
theorem dX11_edits_9 : decode cX11_edits 9 = .ok (.ifCond .eq 16, 3) := by decide +kernel
theorem dX11_edits_12 : decode cX11_edits 12 = .ok (.aload_n 0, 1) := by decide +kernel
theorem dX11_edits_13 : decode cX11_edits 13 = .ok (.bipush 6, 2) := by decide +kernel
theorem dX11_edits_15 : decode cX11_edits 15 = .ok (.iload_n 1, 1) := by decide +kernel
theorem dX11_edits_16 : decode cX11_edits 16 = .ok (.imul, 1) := by decide +kernel
theorem dX11_edits_17 : decode cX11_edits 17 = .ok (.iload_n 2, 1) := by decide +kernel
theorem dX11_edits_18 : decode cX11_edits 18 = .ok (.iadd, 1) := by decide +kernel
theorem dX11_edits_19 : decode cX11_edits 19 = .ok (.invokevirtual 282, 3) := by decide +kernel
theorem dX11_edits_22 : decode cX11_edits 22 = .ok (.goto 4, 3) := by decide +kernel
theorem dX11_edits_25 : decode cX11_edits 25 = .ok (.iconst 0, 1) := by decide +kernel
theorem dX11_edits_26 : decode cX11_edits 26 = .ok (.ireturn, 1) := by decide +kernel
theorem dX11_editsOf_0 : decode cX11_editsOf 0 = .ok (.iconst 0, 1) := by decide +kernel
theorem dX11_editsOf_1 : decode cX11_editsOf 1 = .ok (.istore_n 2, 1) := by decide +kernel
theorem dX11_editsOf_2 : decode cX11_editsOf 2 = .ok (.iconst 0, 1) := by decide +kernel
theorem dX11_editsOf_3 : decode cX11_editsOf 3 = .ok (.istore_n 3, 1) := by decide +kernel
theorem dX11_editsOf_4 : decode cX11_editsOf 4 = .ok (.iload_n 3, 1) := by decide +kernel
theorem dX11_editsOf_5 : decode cX11_editsOf 5 = .ok (.aload_n 0, 1) := by decide +kernel
theorem dX11_editsOf_6 : decode cX11_editsOf 6 = .ok (.getfield 215, 3) := by decide +kernel
theorem dX11_editsOf_9 : decode cX11_editsOf 9 = .ok (.if_icmp .ge 27, 3) := by decide +kernel
theorem dX11_editsOf_12 : decode cX11_editsOf 12 = .ok (.iload_n 2, 1) := by decide +kernel
theorem dX11_editsOf_13 : decode cX11_editsOf 13 = .ok (.aload_n 0, 1) := by decide +kernel
theorem dX11_editsOf_14 : decode cX11_editsOf 14 = .ok (.getfield 34, 3) := by decide +kernel
theorem dX11_editsOf_17 : decode cX11_editsOf 17 = .ok (.iload_n 3, 1) := by decide +kernel
theorem dX11_editsOf_18 : decode cX11_editsOf 18 = .ok (.iaload, 1) := by decide +kernel
theorem dX11_editsOf_19 : decode cX11_editsOf 19 = .ok (.iload_n 1, 1) := by decide +kernel
theorem dX11_editsOf_20 : decode cX11_editsOf 20 = .ok (.if_icmp .ne 7, 3) := by decide +kernel
theorem dX11_editsOf_23 : decode cX11_editsOf 23 = .ok (.iconst 1, 1) := by decide +kernel
theorem dX11_editsOf_24 : decode cX11_editsOf 24 = .ok (.goto 4, 3) := by decide +kernel
theorem dX11_editsOf_27 : decode cX11_editsOf 27 = .ok (.iconst 0, 1) := by decide +kernel
theorem dX11_editsOf_28 : decode cX11_editsOf 28 = .ok (.iadd, 1) := by decide +kernel
theorem dX11_editsOf_29 : decode cX11_editsOf 29 = .ok (.istore_n 2, 1) := by decide +kernel
theorem dX11_editsOf_30 : decode cX11_editsOf 30 = .ok (.iinc 3 1, 3) := by decide +kernel
theorem dX11_editsOf_33 : decode cX11_editsOf 33 = .ok (.goto (-29), 3) := by decide +kernel
theorem dX11_editsOf_36 : decode cX11_editsOf 36 = .ok (.iload_n 2, 1) := by decide +kernel
theorem dX11_editsOf_37 : decode cX11_editsOf 37 = .ok (.ireturn, 1) := by decide +kernel
theorem dX11_edit_0 : decode cX11_edit 0 = .ok (.aload_n 0, 1) := by decide +kernel
theorem dX11_edit_1 : decode cX11_edit 1 = .ok (.iload_n 1, 1) := by decide +kernel
theorem dX11_edit_2 : decode cX11_edit 2 = .ok (.iload_n 2, 1) := by decide +kernel
theorem dX11_edit_3 : decode cX11_edit 3 = .ok (.invokestatic 181, 3) := by decide +kernel
theorem dX11_edit_6 : decode cX11_edit 6 = .ok (.ifCond .eq 25, 3) := by decide +kernel
theorem dX11_edit_9 : decode cX11_edit 9 = .ok (.iload_n 3, 1) := by decide +kernel
theorem dX11_edit_10 : decode cX11_edit 10 = .ok (.ifCond .lt 21, 3) := by decide +kernel
theorem dX11_edit_13 : decode cX11_edit 13 = .ok (.iload_n 3, 1) := by decide +kernel
theorem dX11_edit_14 : decode cX11_edit 14 = .ok (.aload_n 0, 1) := by decide +kernel
theorem dX11_edit_15 : decode cX11_edit 15 = .ok (.bipush 6, 2) := by decide +kernel
theorem dX11_edit_17 : decode cX11_edit 17 = .ok (.iload_n 1, 1) := by decide +kernel
theorem dX11_edit_18 : decode cX11_edit 18 = .ok (.imul, 1) := by decide +kernel
theorem dX11_edit_19 : decode cX11_edit 19 = .ok (.iload_n 2, 1) := by decide +kernel
theorem dX11_edit_20 : decode cX11_edit 20 = .ok (.iadd, 1) := by decide +kernel
theorem dX11_edit_21 : decode cX11_edit 21 = .ok (.invokevirtual 282, 3) := by decide +kernel
theorem dX11_edit_24 : decode cX11_edit 24 = .ok (.if_icmp .ge 7, 3) := by decide +kernel
theorem dX11_edit_27 : decode cX11_edit 27 = .ok (.iconst 1, 1) := by decide +kernel
theorem dX11_edit_28 : decode cX11_edit 28 = .ok (.goto 4, 3) := by decide +kernel
theorem dX11_edit_31 : decode cX11_edit 31 = .ok (.iconst 0, 1) := by decide +kernel
theorem dX11_edit_32 : decode cX11_edit 32 = .ok (.invokevirtual 185, 3) := by decide +kernel
theorem dX11_edit_35 : decode cX11_edit 35 = .ok (.ifCond .ne 5, 3) := by decide +kernel
theorem dX11_edit_38 : decode cX11_edit 38 = .ok (.iconst 0, 1) := by decide +kernel
theorem dX11_edit_39 : decode cX11_edit 39 = .ok (.ireturn, 1) := by decide +kernel
theorem dX11_edit_40 : decode cX11_edit 40 = .ok (.iload 4, 2) := by decide +kernel
theorem dX11_edit_42 : decode cX11_edit 42 = .ok (.iconst 0, 1) := by decide +kernel
theorem dX11_edit_43 : decode cX11_edit 43 = .ok (.bipush 6, 2) := by decide +kernel
theorem dX11_edit_45 : decode cX11_edit 45 = .ok (.invokestatic 208, 3) := by decide +kernel
theorem dX11_edit_48 : decode cX11_edit 48 = .ok (.ifCond .ne 9, 3) := by decide +kernel
theorem dX11_edit_51 : decode cX11_edit 51 = .ok (.aload_n 0, 1) := by decide +kernel
theorem dX11_edit_52 : decode cX11_edit 52 = .ok (.iconst 2, 1) := by decide +kernel
theorem dX11_edit_53 : decode cX11_edit 53 = .ok (.invokevirtual 189, 3) := by decide +kernel
theorem dX11_edit_56 : decode cX11_edit 56 = .ok (.ireturn, 1) := by decide +kernel
theorem dX11_edit_57 : decode cX11_edit 57 = .ok (.bipush 6, 2) := by decide +kernel
theorem dX11_edit_59 : decode cX11_edit 59 = .ok (.iload_n 1, 1) := by decide +kernel
theorem dX11_edit_60 : decode cX11_edit 60 = .ok (.imul, 1) := by decide +kernel
theorem dX11_edit_61 : decode cX11_edit 61 = .ok (.iload_n 2, 1) := by decide +kernel
theorem dX11_edit_62 : decode cX11_edit 62 = .ok (.iadd, 1) := by decide +kernel
theorem dX11_edit_63 : decode cX11_edit 63 = .ok (.istore 5, 2) := by decide +kernel
theorem dX11_edit_65 : decode cX11_edit 65 = .ok (.iconst 0, 1) := by decide +kernel
theorem dX11_edit_66 : decode cX11_edit 66 = .ok (.istore 6, 2) := by decide +kernel
theorem dX11_edit_68 : decode cX11_edit 68 = .ok (.iload_n 3, 1) := by decide +kernel
theorem dX11_edit_69 : decode cX11_edit 69 = .ok (.istore 7, 2) := by decide +kernel
theorem dX11_edit_71 : decode cX11_edit 71 = .ok (.aload_n 0, 1) := by decide +kernel
theorem dX11_edit_72 : decode cX11_edit 72 = .ok (.getfield 34, 3) := by decide +kernel
theorem dX11_edit_75 : decode cX11_edit 75 = .ok (.iload 6, 2) := by decide +kernel
theorem dX11_edit_77 : decode cX11_edit 77 = .ok (.iaload, 1) := by decide +kernel
theorem dX11_edit_78 : decode cX11_edit 78 = .ok (.iload 5, 2) := by decide +kernel
theorem dX11_edit_80 : decode cX11_edit 80 = .ok (.if_icmp .ne 8, 3) := by decide +kernel
theorem dX11_edit_83 : decode cX11_edit 83 = .ok (.iload 7, 2) := by decide +kernel
theorem dX11_edit_85 : decode cX11_edit 85 = .ok (.ifCond .le 31, 3) := by decide +kernel
theorem dX11_edit_88 : decode cX11_edit 88 = .ok (.iload 7, 2) := by decide +kernel
theorem dX11_edit_90 : decode cX11_edit 90 = .ok (.aload_n 0, 1) := by decide +kernel
theorem dX11_edit_91 : decode cX11_edit 91 = .ok (.getfield 34, 3) := by decide +kernel
theorem dX11_edit_94 : decode cX11_edit 94 = .ok (.iload 6, 2) := by decide +kernel
theorem dX11_edit_96 : decode cX11_edit 96 = .ok (.iaload, 1) := by decide +kernel
theorem dX11_edit_97 : decode cX11_edit 97 = .ok (.iload 5, 2) := by decide +kernel
theorem dX11_edit_99 : decode cX11_edit 99 = .ok (.if_icmp .ne 7, 3) := by decide +kernel
theorem dX11_edit_102 : decode cX11_edit 102 = .ok (.iconst 1, 1) := by decide +kernel
theorem dX11_edit_103 : decode cX11_edit 103 = .ok (.goto 4, 3) := by decide +kernel
theorem dX11_edit_106 : decode cX11_edit 106 = .ok (.iconst 0, 1) := by decide +kernel
theorem dX11_edit_107 : decode cX11_edit 107 = .ok (.isub, 1) := by decide +kernel
theorem dX11_edit_108 : decode cX11_edit 108 = .ok (.istore 7, 2) := by decide +kernel
theorem dX11_edit_110 : decode cX11_edit 110 = .ok (.iinc 6 1, 3) := by decide +kernel
theorem dX11_edit_113 : decode cX11_edit 113 = .ok (.goto (-42), 3) := by decide +kernel
theorem dX11_edit_116 : decode cX11_edit 116 = .ok (.iload 4, 2) := by decide +kernel
theorem dX11_edit_118 : decode cX11_edit 118 = .ok (.iconst 4, 1) := by decide +kernel
theorem dX11_edit_119 : decode cX11_edit 119 = .ok (.if_icmp .ge 53, 3) := by decide +kernel
theorem dX11_edit_122 : decode cX11_edit 122 = .ok (.iload 4, 2) := by decide +kernel
theorem dX11_edit_124 : decode cX11_edit 124 = .ok (.ifCond .ne 8, 3) := by decide +kernel
theorem dX11_edit_127 : decode cX11_edit 127 = .ok (.iload 6, 2) := by decide +kernel
theorem dX11_edit_129 : decode cX11_edit 129 = .ok (.goto 42, 3) := by decide +kernel
theorem dX11_edit_132 : decode cX11_edit 132 = .ok (.iload 4, 2) := by decide +kernel
theorem dX11_edit_134 : decode cX11_edit 134 = .ok (.iconst 1, 1) := by decide +kernel
theorem dX11_edit_135 : decode cX11_edit 135 = .ok (.if_icmp .ne 13, 3) := by decide +kernel
theorem dX11_edit_138 : decode cX11_edit 138 = .ok (.aload_n 0, 1) := by decide +kernel
theorem dX11_edit_139 : decode cX11_edit 139 = .ok (.getfield 40, 3) := by decide +kernel
theorem dX11_edit_142 : decode cX11_edit 142 = .ok (.iload 6, 2) := by decide +kernel
theorem dX11_edit_144 : decode cX11_edit 144 = .ok (.iaload, 1) := by decide +kernel
theorem dX11_edit_145 : decode cX11_edit 145 = .ok (.goto 26, 3) := by decide +kernel
theorem dX11_edit_148 : decode cX11_edit 148 = .ok (.iload 4, 2) := by decide +kernel
theorem dX11_edit_150 : decode cX11_edit 150 = .ok (.iconst 2, 1) := by decide +kernel
theorem dX11_edit_151 : decode cX11_edit 151 = .ok (.if_icmp .ne 13, 3) := by decide +kernel
theorem dX11_edit_154 : decode cX11_edit 154 = .ok (.aload_n 0, 1) := by decide +kernel
theorem dX11_edit_155 : decode cX11_edit 155 = .ok (.getfield 43, 3) := by decide +kernel
theorem dX11_edit_158 : decode cX11_edit 158 = .ok (.iload 6, 2) := by decide +kernel
theorem dX11_edit_160 : decode cX11_edit 160 = .ok (.iaload, 1) := by decide +kernel
theorem dX11_edit_161 : decode cX11_edit 161 = .ok (.goto 10, 3) := by decide +kernel
theorem dX11_edit_164 : decode cX11_edit 164 = .ok (.aload_n 0, 1) := by decide +kernel
theorem dX11_edit_165 : decode cX11_edit 165 = .ok (.getfield 37, 3) := by decide +kernel
theorem dX11_edit_168 : decode cX11_edit 168 = .ok (.iload 6, 2) := by decide +kernel
theorem dX11_edit_170 : decode cX11_edit 170 = .ok (.iaload, 1) := by decide +kernel
theorem dX11_edit_171 : decode cX11_edit 171 = .ok (.ireturn, 1) := by decide +kernel
theorem dX11_edit_172 : decode cX11_edit 172 = .ok (.iload 4, 2) := by decide +kernel
theorem dX11_edit_174 : decode cX11_edit 174 = .ok (.iconst 4, 1) := by decide +kernel
theorem dX11_edit_175 : decode cX11_edit 175 = .ok (.if_icmp .ne 13, 3) := by decide +kernel
theorem dX11_edit_178 : decode cX11_edit 178 = .ok (.aload_n 0, 1) := by decide +kernel
theorem dX11_edit_179 : decode cX11_edit 179 = .ok (.getfield 46, 3) := by decide +kernel
theorem dX11_edit_182 : decode cX11_edit 182 = .ok (.iload 6, 2) := by decide +kernel
theorem dX11_edit_184 : decode cX11_edit 184 = .ok (.iaload, 1) := by decide +kernel
theorem dX11_edit_185 : decode cX11_edit 185 = .ok (.goto 47, 3) := by decide +kernel
theorem dX11_edit_188 : decode cX11_edit 188 = .ok (.iload 4, 2) := by decide +kernel
theorem dX11_edit_190 : decode cX11_edit 190 = .ok (.iconst 5, 1) := by decide +kernel
theorem dX11_edit_191 : decode cX11_edit 191 = .ok (.if_icmp .ne 21, 3) := by decide +kernel
theorem dX11_edit_194 : decode cX11_edit 194 = .ok (.aload_n 0, 1) := by decide +kernel
theorem dX11_edit_195 : decode cX11_edit 195 = .ok (.getfield 49, 3) := by decide +kernel
theorem dX11_edit_198 : decode cX11_edit 198 = .ok (.iload 6, 2) := by decide +kernel
theorem dX11_edit_200 : decode cX11_edit 200 = .ok (.baload, 1) := by decide +kernel
theorem dX11_edit_201 : decode cX11_edit 201 = .ok (.ifCond .eq 7, 3) := by decide +kernel
theorem dX11_edit_204 : decode cX11_edit 204 = .ok (.iconst 1, 1) := by decide +kernel
theorem dX11_edit_205 : decode cX11_edit 205 = .ok (.goto 27, 3) := by decide +kernel
theorem dX11_edit_208 : decode cX11_edit 208 = .ok (.iconst 0, 1) := by decide +kernel
theorem dX11_edit_209 : decode cX11_edit 209 = .ok (.goto 23, 3) := by decide +kernel
theorem dX11_edit_212 : decode cX11_edit 212 = .ok (.aload_n 0, 1) := by decide +kernel
theorem dX11_edit_213 : decode cX11_edit 213 = .ok (.iload 5, 2) := by decide +kernel
theorem dX11_edit_215 : decode cX11_edit 215 = .ok (.aload_n 0, 1) := by decide +kernel
theorem dX11_edit_216 : decode cX11_edit 216 = .ok (.getfield 164, 3) := by decide +kernel
theorem dX11_edit_219 : decode cX11_edit 219 = .ok (.invokevirtual 222, 3) := by decide +kernel
theorem dX11_edit_222 : decode cX11_edit 222 = .ok (.iload 6, 2) := by decide +kernel
theorem dX11_edit_224 : decode cX11_edit 224 = .ok (.if_icmp .ne 7, 3) := by decide +kernel
theorem dX11_edit_227 : decode cX11_edit 227 = .ok (.iconst 1, 1) := by decide +kernel
theorem dX11_edit_228 : decode cX11_edit 228 = .ok (.goto 4, 3) := by decide +kernel
theorem dX11_edit_231 : decode cX11_edit 231 = .ok (.iconst 0, 1) := by decide +kernel
theorem dX11_edit_232 : decode cX11_edit 232 = .ok (.ireturn, 1) := by decide +kernel
theorem dX11_dueOf_0 : decode cX11_dueOf 0 = .ok (.aload_n 0, 1) := by decide +kernel
theorem dX11_dueOf_1 : decode cX11_dueOf 1 = .ok (.getfield 128, 3) := by decide +kernel
theorem dX11_dueOf_4 : decode cX11_dueOf 4 = .ok (.iconst 4, 1) := by decide +kernel
theorem dX11_dueOf_5 : decode cX11_dueOf 5 = .ok (.iload_n 1, 1) := by decide +kernel
theorem dX11_dueOf_6 : decode cX11_dueOf 6 = .ok (.imul, 1) := by decide +kernel
theorem dX11_dueOf_7 : decode cX11_dueOf 7 = .ok (.iload_n 2, 1) := by decide +kernel
theorem dX11_dueOf_8 : decode cX11_dueOf 8 = .ok (.iadd, 1) := by decide +kernel
theorem dX11_dueOf_9 : decode cX11_dueOf 9 = .ok (.laload, 1) := by decide +kernel
theorem dX11_dueOf_10 : decode cX11_dueOf 10 = .ok (.lneg, 1) := by decide +kernel
theorem dX11_dueOf_11 : decode cX11_dueOf 11 = .ok (.lstore_n 3, 1) := by decide +kernel
theorem dX11_dueOf_12 : decode cX11_dueOf 12 = .ok (.iconst 0, 1) := by decide +kernel
theorem dX11_dueOf_13 : decode cX11_dueOf 13 = .ok (.istore 5, 2) := by decide +kernel
theorem dX11_dueOf_15 : decode cX11_dueOf 15 = .ok (.iload 5, 2) := by decide +kernel
theorem dX11_dueOf_17 : decode cX11_dueOf 17 = .ok (.aload_n 0, 1) := by decide +kernel
theorem dX11_dueOf_18 : decode cX11_dueOf 18 = .ok (.getfield 266, 3) := by decide +kernel
theorem dX11_dueOf_21 : decode cX11_dueOf 21 = .ok (.if_icmp .ge 158, 3) := by decide +kernel
theorem dX11_dueOf_24 : decode cX11_dueOf 24 = .ok (.aload_n 0, 1) := by decide +kernel
theorem dX11_dueOf_25 : decode cX11_dueOf 25 = .ok (.getfield 101, 3) := by decide +kernel
theorem dX11_dueOf_28 : decode cX11_dueOf 28 = .ok (.iload 5, 2) := by decide +kernel
theorem dX11_dueOf_30 : decode cX11_dueOf 30 = .ok (.iaload, 1) := by decide +kernel
theorem dX11_dueOf_31 : decode cX11_dueOf 31 = .ok (.iload_n 2, 1) := by decide +kernel
theorem dX11_dueOf_32 : decode cX11_dueOf 32 = .ok (.if_icmp .ne 141, 3) := by decide +kernel
theorem dX11_dueOf_35 : decode cX11_dueOf 35 = .ok (.aload_n 0, 1) := by decide +kernel
theorem dX11_dueOf_36 : decode cX11_dueOf 36 = .ok (.getfield 113, 3) := by decide +kernel
theorem dX11_dueOf_39 : decode cX11_dueOf 39 = .ok (.iload 5, 2) := by decide +kernel
theorem dX11_dueOf_41 : decode cX11_dueOf 41 = .ok (.iaload, 1) := by decide +kernel
theorem dX11_dueOf_42 : decode cX11_dueOf 42 = .ok (.iconst (-1), 1) := by decide +kernel
theorem dX11_dueOf_43 : decode cX11_dueOf 43 = .ok (.if_icmp .eq 130, 3) := by decide +kernel
theorem dX11_dueOf_46 : decode cX11_dueOf 46 = .ok (.lload_n 3, 1) := by decide +kernel
theorem dX11_dueOf_47 : decode cX11_dueOf 47 = .ok (.aload_n 0, 1) := by decide +kernel
theorem dX11_dueOf_48 : decode cX11_dueOf 48 = .ok (.bipush 6, 2) := by decide +kernel
theorem dX11_dueOf_50 : decode cX11_dueOf 50 = .ok (.iload_n 2, 1) := by decide +kernel
theorem dX11_dueOf_51 : decode cX11_dueOf 51 = .ok (.imul, 1) := by decide +kernel
theorem dX11_dueOf_52 : decode cX11_dueOf 52 = .ok (.iconst 1, 1) := by decide +kernel
theorem dX11_dueOf_53 : decode cX11_dueOf 53 = .ok (.iadd, 1) := by decide +kernel
theorem dX11_dueOf_54 : decode cX11_dueOf 54 = .ok (.aload_n 0, 1) := by decide +kernel
theorem dX11_dueOf_55 : decode cX11_dueOf 55 = .ok (.getfield 104, 3) := by decide +kernel
theorem dX11_dueOf_58 : decode cX11_dueOf 58 = .ok (.iload 5, 2) := by decide +kernel
theorem dX11_dueOf_60 : decode cX11_dueOf 60 = .ok (.iaload, 1) := by decide +kernel
theorem dX11_dueOf_61 : decode cX11_dueOf 61 = .ok (.invokevirtual 170, 3) := by decide +kernel
theorem dX11_dueOf_64 : decode cX11_dueOf 64 = .ok (.iload_n 1, 1) := by decide +kernel
theorem dX11_dueOf_65 : decode cX11_dueOf 65 = .ok (.if_icmp .ne 12, 3) := by decide +kernel
theorem dX11_dueOf_68 : decode cX11_dueOf 68 = .ok (.aload_n 0, 1) := by decide +kernel
theorem dX11_dueOf_69 : decode cX11_dueOf 69 = .ok (.iload 5, 2) := by decide +kernel
theorem dX11_dueOf_71 : decode cX11_dueOf 71 = .ok (.invokevirtual 285, 3) := by decide +kernel
theorem dX11_dueOf_74 : decode cX11_dueOf 74 = .ok (.goto 4, 3) := by decide +kernel
theorem dX11_dueOf_77 : decode cX11_dueOf 77 = .ok (.lconst 0, 1) := by decide +kernel
theorem dX11_dueOf_78 : decode cX11_dueOf 78 = .ok (.lsub, 1) := by decide +kernel
theorem dX11_dueOf_79 : decode cX11_dueOf 79 = .ok (.lstore_n 3, 1) := by decide +kernel
theorem dX11_dueOf_80 : decode cX11_dueOf 80 = .ok (.iconst 0, 1) := by decide +kernel
theorem dX11_dueOf_81 : decode cX11_dueOf 81 = .ok (.istore 6, 2) := by decide +kernel
theorem dX11_dueOf_83 : decode cX11_dueOf 83 = .ok (.iload 6, 2) := by decide +kernel
theorem dX11_dueOf_85 : decode cX11_dueOf 85 = .ok (.aload_n 0, 1) := by decide +kernel
theorem dX11_dueOf_86 : decode cX11_dueOf 86 = .ok (.getfield 269, 3) := by decide +kernel
theorem dX11_dueOf_89 : decode cX11_dueOf 89 = .ok (.if_icmp .ge 84, 3) := by decide +kernel
theorem dX11_dueOf_92 : decode cX11_dueOf 92 = .ok (.aload_n 0, 1) := by decide +kernel
theorem dX11_dueOf_93 : decode cX11_dueOf 93 = .ok (.getfield 89, 3) := by decide +kernel
theorem dX11_dueOf_96 : decode cX11_dueOf 96 = .ok (.iload 6, 2) := by decide +kernel
theorem dX11_dueOf_98 : decode cX11_dueOf 98 = .ok (.iaload, 1) := by decide +kernel
theorem dX11_dueOf_99 : decode cX11_dueOf 99 = .ok (.iload 5, 2) := by decide +kernel
theorem dX11_dueOf_101 : decode cX11_dueOf 101 = .ok (.if_icmp .ne 18, 3) := by decide +kernel
theorem dX11_dueOf_104 : decode cX11_dueOf 104 = .ok (.aload_n 0, 1) := by decide +kernel
theorem dX11_dueOf_105 : decode cX11_dueOf 105 = .ok (.getfield 68, 3) := by decide +kernel
theorem dX11_dueOf_108 : decode cX11_dueOf 108 = .ok (.iload 6, 2) := by decide +kernel
theorem dX11_dueOf_110 : decode cX11_dueOf 110 = .ok (.iaload, 1) := by decide +kernel
theorem dX11_dueOf_111 : decode cX11_dueOf 111 = .ok (.iload_n 1, 1) := by decide +kernel
theorem dX11_dueOf_112 : decode cX11_dueOf 112 = .ok (.if_icmp .ne 7, 3) := by decide +kernel
theorem dX11_dueOf_115 : decode cX11_dueOf 115 = .ok (.iconst 1, 1) := by decide +kernel
theorem dX11_dueOf_116 : decode cX11_dueOf 116 = .ok (.goto 4, 3) := by decide +kernel
theorem dX11_dueOf_119 : decode cX11_dueOf 119 = .ok (.iconst 0, 1) := by decide +kernel
theorem dX11_dueOf_120 : decode cX11_dueOf 120 = .ok (.istore 7, 2) := by decide +kernel
theorem dX11_dueOf_122 : decode cX11_dueOf 122 = .ok (.lload_n 3, 1) := by decide +kernel
theorem dX11_dueOf_123 : decode cX11_dueOf 123 = .ok (.iload 7, 2) := by decide +kernel
theorem dX11_dueOf_125 : decode cX11_dueOf 125 = .ok (.ifCond .ne 7, 3) := by decide +kernel
theorem dX11_dueOf_128 : decode cX11_dueOf 128 = .ok (.lconst 0, 1) := by decide +kernel
theorem dX11_dueOf_129 : decode cX11_dueOf 129 = .ok (.goto 36, 3) := by decide +kernel
theorem dX11_dueOf_132 : decode cX11_dueOf 132 = .ok (.aload_n 0, 1) := by decide +kernel
theorem dX11_dueOf_133 : decode cX11_dueOf 133 = .ok (.getfield 74, 3) := by decide +kernel
theorem dX11_dueOf_136 : decode cX11_dueOf 136 = .ok (.iload 6, 2) := by decide +kernel
theorem dX11_dueOf_138 : decode cX11_dueOf 138 = .ok (.baload, 1) := by decide +kernel
theorem dX11_dueOf_139 : decode cX11_dueOf 139 = .ok (.ifCond .eq 19, 3) := by decide +kernel
theorem dX11_dueOf_142 : decode cX11_dueOf 142 = .ok (.aload_n 0, 1) := by decide +kernel
theorem dX11_dueOf_143 : decode cX11_dueOf 143 = .ok (.iload 6, 2) := by decide +kernel
theorem dX11_dueOf_145 : decode cX11_dueOf 145 = .ok (.invokevirtual 289, 3) := by decide +kernel
theorem dX11_dueOf_148 : decode cX11_dueOf 148 = .ok (.aload_n 0, 1) := by decide +kernel
theorem dX11_dueOf_149 : decode cX11_dueOf 149 = .ok (.iload 6, 2) := by decide +kernel
theorem dX11_dueOf_151 : decode cX11_dueOf 151 = .ok (.invokevirtual 292, 3) := by decide +kernel
theorem dX11_dueOf_154 : decode cX11_dueOf 154 = .ok (.ladd, 1) := by decide +kernel
theorem dX11_dueOf_155 : decode cX11_dueOf 155 = .ok (.goto 10, 3) := by decide +kernel
theorem dX11_dueOf_158 : decode cX11_dueOf 158 = .ok (.aload_n 0, 1) := by decide +kernel
theorem dX11_dueOf_159 : decode cX11_dueOf 159 = .ok (.iload 6, 2) := by decide +kernel
theorem dX11_dueOf_161 : decode cX11_dueOf 161 = .ok (.invokevirtual 289, 3) := by decide +kernel
theorem dX11_dueOf_164 : decode cX11_dueOf 164 = .ok (.lneg, 1) := by decide +kernel
theorem dX11_dueOf_165 : decode cX11_dueOf 165 = .ok (.ladd, 1) := by decide +kernel
theorem dX11_dueOf_166 : decode cX11_dueOf 166 = .ok (.lstore_n 3, 1) := by decide +kernel
theorem dX11_dueOf_167 : decode cX11_dueOf 167 = .ok (.iinc 6 1, 3) := by decide +kernel
theorem dX11_dueOf_170 : decode cX11_dueOf 170 = .ok (.goto (-87), 3) := by decide +kernel
theorem dX11_dueOf_173 : decode cX11_dueOf 173 = .ok (.iinc 5 1, 3) := by decide +kernel
theorem dX11_dueOf_176 : decode cX11_dueOf 176 = .ok (.goto (-161), 3) := by decide +kernel
theorem dX11_dueOf_179 : decode cX11_dueOf 179 = .ok (.lload_n 3, 1) := by decide +kernel
theorem dX11_dueOf_180 : decode cX11_dueOf 180 = .ok (.lreturn, 1) := by decide +kernel
theorem dX11_costOf_0 : decode cX11_costOf 0 = .ok (.aload_n 0, 1) := by decide +kernel
theorem dX11_costOf_1 : decode cX11_costOf 1 = .ok (.getfield 113, 3) := by decide +kernel
theorem dX11_costOf_4 : decode cX11_costOf 4 = .ok (.aload_n 0, 1) := by decide +kernel
theorem dX11_costOf_5 : decode cX11_costOf 5 = .ok (.getfield 89, 3) := by decide +kernel
theorem dX11_costOf_8 : decode cX11_costOf 8 = .ok (.iload_n 1, 1) := by decide +kernel
theorem dX11_costOf_9 : decode cX11_costOf 9 = .ok (.iaload, 1) := by decide +kernel
theorem dX11_costOf_10 : decode cX11_costOf 10 = .ok (.iaload, 1) := by decide +kernel
theorem dX11_costOf_11 : decode cX11_costOf 11 = .ok (.i2l, 1) := by decide +kernel
theorem dX11_costOf_12 : decode cX11_costOf 12 = .ok (.aload_n 0, 1) := by decide +kernel
theorem dX11_costOf_13 : decode cX11_costOf 13 = .ok (.getfield 95, 3) := by decide +kernel
theorem dX11_costOf_16 : decode cX11_costOf 16 = .ok (.iload_n 1, 1) := by decide +kernel
theorem dX11_costOf_17 : decode cX11_costOf 17 = .ok (.iaload, 1) := by decide +kernel
theorem dX11_costOf_18 : decode cX11_costOf 18 = .ok (.i2l, 1) := by decide +kernel
theorem dX11_costOf_19 : decode cX11_costOf 19 = .ok (.lmul, 1) := by decide +kernel
theorem dX11_costOf_20 : decode cX11_costOf 20 = .ok (.lreturn, 1) := by decide +kernel
theorem dX11_feeOf_0 : decode cX11_feeOf 0 = .ok (.aload_n 0, 1) := by decide +kernel
theorem dX11_feeOf_1 : decode cX11_feeOf 1 = .ok (.getfield 74, 3) := by decide +kernel
theorem dX11_feeOf_4 : decode cX11_feeOf 4 = .ok (.iload_n 1, 1) := by decide +kernel
theorem dX11_feeOf_5 : decode cX11_feeOf 5 = .ok (.baload, 1) := by decide +kernel
theorem dX11_feeOf_6 : decode cX11_feeOf 6 = .ok (.ifCond .eq 28, 3) := by decide +kernel
theorem dX11_feeOf_9 : decode cX11_feeOf 9 = .ok (.aload_n 0, 1) := by decide +kernel
theorem dX11_feeOf_10 : decode cX11_feeOf 10 = .ok (.iload_n 1, 1) := by decide +kernel
theorem dX11_feeOf_11 : decode cX11_feeOf 11 = .ok (.invokevirtual 289, 3) := by decide +kernel
theorem dX11_feeOf_14 : decode cX11_feeOf 14 = .ok (.aload_n 0, 1) := by decide +kernel
theorem dX11_feeOf_15 : decode cX11_feeOf 15 = .ok (.getfield 119, 3) := by decide +kernel
theorem dX11_feeOf_18 : decode cX11_feeOf 18 = .ok (.aload_n 0, 1) := by decide +kernel
theorem dX11_feeOf_19 : decode cX11_feeOf 19 = .ok (.getfield 89, 3) := by decide +kernel
theorem dX11_feeOf_22 : decode cX11_feeOf 22 = .ok (.iload_n 1, 1) := by decide +kernel
theorem dX11_feeOf_23 : decode cX11_feeOf 23 = .ok (.iaload, 1) := by decide +kernel
theorem dX11_feeOf_24 : decode cX11_feeOf 24 = .ok (.iaload, 1) := by decide +kernel
theorem dX11_feeOf_25 : decode cX11_feeOf 25 = .ok (.i2l, 1) := by decide +kernel
theorem dX11_feeOf_26 : decode cX11_feeOf 26 = .ok (.lmul, 1) := by decide +kernel
theorem dX11_feeOf_27 : decode cX11_feeOf 27 = .ok (.ldc2_w 295, 3) := by decide +kernel
theorem dX11_feeOf_30 : decode cX11_feeOf 30 = .ok (.ldiv, 1) := by decide +kernel
theorem dX11_feeOf_31 : decode cX11_feeOf 31 = .ok (.goto 4, 3) := by decide +kernel
theorem dX11_feeOf_34 : decode cX11_feeOf 34 = .ok (.lconst 0, 1) := by decide +kernel
theorem dX11_feeOf_35 : decode cX11_feeOf 35 = .ok (.lreturn, 1) := by decide +kernel
theorem dX11_feesOf_0 : decode cX11_feesOf 0 = .ok (.lconst 0, 1) := by decide +kernel
theorem dX11_feesOf_1 : decode cX11_feesOf 1 = .ok (.lstore_n 2, 1) := by decide +kernel
theorem dX11_feesOf_2 : decode cX11_feesOf 2 = .ok (.iconst 0, 1) := by decide +kernel
theorem dX11_feesOf_3 : decode cX11_feesOf 3 = .ok (.istore 4, 2) := by decide +kernel
theorem dX11_feesOf_5 : decode cX11_feesOf 5 = .ok (.iload 4, 2) := by decide +kernel
theorem dX11_feesOf_7 : decode cX11_feesOf 7 = .ok (.aload_n 0, 1) := by decide +kernel
theorem dX11_feesOf_8 : decode cX11_feesOf 8 = .ok (.getfield 269, 3) := by decide +kernel
theorem dX11_feesOf_11 : decode cX11_feesOf 11 = .ok (.if_icmp .ge 33, 3) := by decide +kernel
theorem dX11_feesOf_14 : decode cX11_feesOf 14 = .ok (.lload_n 2, 1) := by decide +kernel
theorem dX11_feesOf_15 : decode cX11_feesOf 15 = .ok (.aload_n 0, 1) := by decide +kernel
theorem dX11_feesOf_16 : decode cX11_feesOf 16 = .ok (.getfield 89, 3) := by decide +kernel
theorem dX11_feesOf_19 : decode cX11_feesOf 19 = .ok (.iload 4, 2) := by decide +kernel
theorem dX11_feesOf_21 : decode cX11_feesOf 21 = .ok (.iaload, 1) := by decide +kernel
theorem dX11_feesOf_22 : decode cX11_feesOf 22 = .ok (.iload_n 1, 1) := by decide +kernel
theorem dX11_feesOf_23 : decode cX11_feesOf 23 = .ok (.if_icmp .ne 12, 3) := by decide +kernel
theorem dX11_feesOf_26 : decode cX11_feesOf 26 = .ok (.aload_n 0, 1) := by decide +kernel
theorem dX11_feesOf_27 : decode cX11_feesOf 27 = .ok (.iload 4, 2) := by decide +kernel
theorem dX11_feesOf_29 : decode cX11_feesOf 29 = .ok (.invokevirtual 292, 3) := by decide +kernel
theorem dX11_feesOf_32 : decode cX11_feesOf 32 = .ok (.goto 4, 3) := by decide +kernel
theorem dX11_feesOf_35 : decode cX11_feesOf 35 = .ok (.lconst 0, 1) := by decide +kernel
theorem dX11_feesOf_36 : decode cX11_feesOf 36 = .ok (.ladd, 1) := by decide +kernel
theorem dX11_feesOf_37 : decode cX11_feesOf 37 = .ok (.lstore_n 2, 1) := by decide +kernel
theorem dX11_feesOf_38 : decode cX11_feesOf 38 = .ok (.iinc 4 1, 3) := by decide +kernel
theorem dX11_feesOf_41 : decode cX11_feesOf 41 = .ok (.goto (-36), 3) := by decide +kernel
theorem dX11_feesOf_44 : decode cX11_feesOf 44 = .ok (.lload_n 2, 1) := by decide +kernel
theorem dX11_feesOf_45 : decode cX11_feesOf 45 = .ok (.lreturn, 1) := by decide +kernel
theorem dX11_exposureOf_0 : decode cX11_exposureOf 0 = .ok (.lconst 0, 1) := by decide +kernel
theorem dX11_exposureOf_1 : decode cX11_exposureOf 1 = .ok (.lstore_n 2, 1) := by decide +kernel
theorem dX11_exposureOf_2 : decode cX11_exposureOf 2 = .ok (.iconst 0, 1) := by decide +kernel
theorem dX11_exposureOf_3 : decode cX11_exposureOf 3 = .ok (.istore 4, 2) := by decide +kernel
theorem dX11_exposureOf_5 : decode cX11_exposureOf 5 = .ok (.iload 4, 2) := by decide +kernel
theorem dX11_exposureOf_7 : decode cX11_exposureOf 7 = .ok (.aload_n 0, 1) := by decide +kernel
theorem dX11_exposureOf_8 : decode cX11_exposureOf 8 = .ok (.getfield 269, 3) := by decide +kernel
theorem dX11_exposureOf_11 : decode cX11_exposureOf 11 = .ok (.if_icmp .ge 88, 3) := by decide +kernel
theorem dX11_exposureOf_14 : decode cX11_exposureOf 14 = .ok (.aload_n 0, 1) := by decide +kernel
theorem dX11_exposureOf_15 : decode cX11_exposureOf 15 = .ok (.getfield 68, 3) := by decide +kernel
theorem dX11_exposureOf_18 : decode cX11_exposureOf 18 = .ok (.iload 4, 2) := by decide +kernel
theorem dX11_exposureOf_20 : decode cX11_exposureOf 20 = .ok (.iaload, 1) := by decide +kernel
theorem dX11_exposureOf_21 : decode cX11_exposureOf 21 = .ok (.iload_n 1, 1) := by decide +kernel
theorem dX11_exposureOf_22 : decode cX11_exposureOf 22 = .ok (.if_icmp .ne 39, 3) := by decide +kernel
theorem dX11_exposureOf_25 : decode cX11_exposureOf 25 = .ok (.aload_n 0, 1) := by decide +kernel
theorem dX11_exposureOf_26 : decode cX11_exposureOf 26 = .ok (.getfield 74, 3) := by decide +kernel
theorem dX11_exposureOf_29 : decode cX11_exposureOf 29 = .ok (.iload 4, 2) := by decide +kernel
theorem dX11_exposureOf_31 : decode cX11_exposureOf 31 = .ok (.baload, 1) := by decide +kernel
theorem dX11_exposureOf_32 : decode cX11_exposureOf 32 = .ok (.ifCond .eq 29, 3) := by decide +kernel
theorem dX11_exposureOf_35 : decode cX11_exposureOf 35 = .ok (.aload_n 0, 1) := by decide +kernel
theorem dX11_exposureOf_36 : decode cX11_exposureOf 36 = .ok (.getfield 89, 3) := by decide +kernel
theorem dX11_exposureOf_39 : decode cX11_exposureOf 39 = .ok (.iload 4, 2) := by decide +kernel
theorem dX11_exposureOf_41 : decode cX11_exposureOf 41 = .ok (.iaload, 1) := by decide +kernel
theorem dX11_exposureOf_42 : decode cX11_exposureOf 42 = .ok (.iconst (-1), 1) := by decide +kernel
theorem dX11_exposureOf_43 : decode cX11_exposureOf 43 = .ok (.if_icmp .ne 18, 3) := by decide +kernel
theorem dX11_exposureOf_46 : decode cX11_exposureOf 46 = .ok (.aload_n 0, 1) := by decide +kernel
theorem dX11_exposureOf_47 : decode cX11_exposureOf 47 = .ok (.getfield 86, 3) := by decide +kernel
theorem dX11_exposureOf_50 : decode cX11_exposureOf 50 = .ok (.iload 4, 2) := by decide +kernel
theorem dX11_exposureOf_52 : decode cX11_exposureOf 52 = .ok (.iaload, 1) := by decide +kernel
theorem dX11_exposureOf_53 : decode cX11_exposureOf 53 = .ok (.iconst (-1), 1) := by decide +kernel
theorem dX11_exposureOf_54 : decode cX11_exposureOf 54 = .ok (.if_icmp .ne 7, 3) := by decide +kernel
theorem dX11_exposureOf_57 : decode cX11_exposureOf 57 = .ok (.iconst 1, 1) := by decide +kernel
theorem dX11_exposureOf_58 : decode cX11_exposureOf 58 = .ok (.goto 4, 3) := by decide +kernel
theorem dX11_exposureOf_61 : decode cX11_exposureOf 61 = .ok (.iconst 0, 1) := by decide +kernel
theorem dX11_exposureOf_62 : decode cX11_exposureOf 62 = .ok (.istore 5, 2) := by decide +kernel
theorem dX11_exposureOf_64 : decode cX11_exposureOf 64 = .ok (.lload_n 2, 1) := by decide +kernel
theorem dX11_exposureOf_65 : decode cX11_exposureOf 65 = .ok (.iload 5, 2) := by decide +kernel
theorem dX11_exposureOf_67 : decode cX11_exposureOf 67 = .ok (.ifCond .eq 23, 3) := by decide +kernel
theorem dX11_exposureOf_70 : decode cX11_exposureOf 70 = .ok (.aload_n 0, 1) := by decide +kernel
theorem dX11_exposureOf_71 : decode cX11_exposureOf 71 = .ok (.getfield 77, 3) := by decide +kernel
theorem dX11_exposureOf_74 : decode cX11_exposureOf 74 = .ok (.iload 4, 2) := by decide +kernel
theorem dX11_exposureOf_76 : decode cX11_exposureOf 76 = .ok (.iaload, 1) := by decide +kernel
theorem dX11_exposureOf_77 : decode cX11_exposureOf 77 = .ok (.i2l, 1) := by decide +kernel
theorem dX11_exposureOf_78 : decode cX11_exposureOf 78 = .ok (.aload_n 0, 1) := by decide +kernel
theorem dX11_exposureOf_79 : decode cX11_exposureOf 79 = .ok (.getfield 80, 3) := by decide +kernel
theorem dX11_exposureOf_82 : decode cX11_exposureOf 82 = .ok (.iload 4, 2) := by decide +kernel
theorem dX11_exposureOf_84 : decode cX11_exposureOf 84 = .ok (.iaload, 1) := by decide +kernel
theorem dX11_exposureOf_85 : decode cX11_exposureOf 85 = .ok (.i2l, 1) := by decide +kernel
theorem dX11_exposureOf_86 : decode cX11_exposureOf 86 = .ok (.lmul, 1) := by decide +kernel
theorem dX11_exposureOf_87 : decode cX11_exposureOf 87 = .ok (.goto 4, 3) := by decide +kernel
theorem dX11_exposureOf_90 : decode cX11_exposureOf 90 = .ok (.lconst 0, 1) := by decide +kernel
theorem dX11_exposureOf_91 : decode cX11_exposureOf 91 = .ok (.ladd, 1) := by decide +kernel
theorem dX11_exposureOf_92 : decode cX11_exposureOf 92 = .ok (.lstore_n 2, 1) := by decide +kernel
theorem dX11_exposureOf_93 : decode cX11_exposureOf 93 = .ok (.iinc 4 1, 3) := by decide +kernel
theorem dX11_exposureOf_96 : decode cX11_exposureOf 96 = .ok (.goto (-91), 3) := by decide +kernel
theorem dX11_exposureOf_99 : decode cX11_exposureOf 99 = .ok (.iconst 0, 1) := by decide +kernel
theorem dX11_exposureOf_100 : decode cX11_exposureOf 100 = .ok (.istore 4, 2) := by decide +kernel
theorem dX11_exposureOf_102 : decode cX11_exposureOf 102 = .ok (.iload 4, 2) := by decide +kernel
theorem dX11_exposureOf_104 : decode cX11_exposureOf 104 = .ok (.iconst 4, 1) := by decide +kernel
theorem dX11_exposureOf_105 : decode cX11_exposureOf 105 = .ok (.if_icmp .ge 34, 3) := by decide +kernel
theorem dX11_exposureOf_108 : decode cX11_exposureOf 108 = .ok (.aload_n 0, 1) := by decide +kernel
theorem dX11_exposureOf_109 : decode cX11_exposureOf 109 = .ok (.iload_n 1, 1) := by decide +kernel
theorem dX11_exposureOf_110 : decode cX11_exposureOf 110 = .ok (.iload 4, 2) := by decide +kernel
theorem dX11_exposureOf_112 : decode cX11_exposureOf 112 = .ok (.invokevirtual 297, 3) := by decide +kernel
theorem dX11_exposureOf_115 : decode cX11_exposureOf 115 = .ok (.lstore 5, 2) := by decide +kernel
theorem dX11_exposureOf_117 : decode cX11_exposureOf 117 = .ok (.lload_n 2, 1) := by decide +kernel
theorem dX11_exposureOf_118 : decode cX11_exposureOf 118 = .ok (.lload 5, 2) := by decide +kernel
theorem dX11_exposureOf_120 : decode cX11_exposureOf 120 = .ok (.lconst 0, 1) := by decide +kernel
theorem dX11_exposureOf_121 : decode cX11_exposureOf 121 = .ok (.lcmp, 1) := by decide +kernel
theorem dX11_exposureOf_122 : decode cX11_exposureOf 122 = .ok (.ifCond .le 8, 3) := by decide +kernel
theorem dX11_exposureOf_125 : decode cX11_exposureOf 125 = .ok (.lload 5, 2) := by decide +kernel
theorem dX11_exposureOf_127 : decode cX11_exposureOf 127 = .ok (.goto 4, 3) := by decide +kernel
theorem dX11_exposureOf_130 : decode cX11_exposureOf 130 = .ok (.lconst 0, 1) := by decide +kernel
theorem dX11_exposureOf_131 : decode cX11_exposureOf 131 = .ok (.ladd, 1) := by decide +kernel
theorem dX11_exposureOf_132 : decode cX11_exposureOf 132 = .ok (.lstore_n 2, 1) := by decide +kernel
theorem dX11_exposureOf_133 : decode cX11_exposureOf 133 = .ok (.iinc 4 1, 3) := by decide +kernel
theorem dX11_exposureOf_136 : decode cX11_exposureOf 136 = .ok (.goto (-34), 3) := by decide +kernel
theorem dX11_exposureOf_139 : decode cX11_exposureOf 139 = .ok (.lload_n 2, 1) := by decide +kernel
theorem dX11_exposureOf_140 : decode cX11_exposureOf 140 = .ok (.lreturn, 1) := by decide +kernel
theorem dX11_bid_0 : decode cX11_bid 0 = .ok (.aload_n 0, 1) := by decide +kernel
theorem dX11_bid_1 : decode cX11_bid 1 = .ok (.iload_n 1, 1) := by decide +kernel
theorem dX11_bid_2 : decode cX11_bid 2 = .ok (.invokestatic 177, 3) := by decide +kernel
theorem dX11_bid_5 : decode cX11_bid 5 = .ok (.ifCond .eq 16, 3) := by decide +kernel
theorem dX11_bid_8 : decode cX11_bid 8 = .ok (.iload_n 2, 1) := by decide +kernel
theorem dX11_bid_9 : decode cX11_bid 9 = .ok (.ifCond .lt 12, 3) := by decide +kernel
theorem dX11_bid_12 : decode cX11_bid 12 = .ok (.iload_n 2, 1) := by decide +kernel
theorem dX11_bid_13 : decode cX11_bid 13 = .ok (.iconst 4, 1) := by decide +kernel
theorem dX11_bid_14 : decode cX11_bid 14 = .ok (.if_icmp .ge 7, 3) := by decide +kernel
theorem dX11_bid_17 : decode cX11_bid 17 = .ok (.iconst 1, 1) := by decide +kernel
theorem dX11_bid_18 : decode cX11_bid 18 = .ok (.goto 4, 3) := by decide +kernel
theorem dX11_bid_21 : decode cX11_bid 21 = .ok (.iconst 0, 1) := by decide +kernel
theorem dX11_bid_22 : decode cX11_bid 22 = .ok (.invokevirtual 185, 3) := by decide +kernel
theorem dX11_bid_25 : decode cX11_bid 25 = .ok (.ifCond .ne 5, 3) := by decide +kernel
theorem dX11_bid_28 : decode cX11_bid 28 = .ok (.iconst 0, 1) := by decide +kernel
theorem dX11_bid_29 : decode cX11_bid 29 = .ok (.ireturn, 1) := by decide +kernel
theorem dX11_bid_30 : decode cX11_bid 30 = .ok (.iload 4, 2) := by decide +kernel
theorem dX11_bid_32 : decode cX11_bid 32 = .ok (.iconst 1, 1) := by decide +kernel
theorem dX11_bid_33 : decode cX11_bid 33 = .ok (.bipush 100, 2) := by decide +kernel
theorem dX11_bid_35 : decode cX11_bid 35 = .ok (.invokestatic 208, 3) := by decide +kernel
theorem dX11_bid_38 : decode cX11_bid 38 = .ok (.ifCond .eq 15, 3) := by decide +kernel
theorem dX11_bid_41 : decode cX11_bid 41 = .ok (.iload 5, 2) := by decide +kernel
theorem dX11_bid_43 : decode cX11_bid 43 = .ok (.iconst 0, 1) := by decide +kernel
theorem dX11_bid_44 : decode cX11_bid 44 = .ok (.sipush 9999, 3) := by decide +kernel
theorem dX11_bid_47 : decode cX11_bid 47 = .ok (.invokestatic 208, 3) := by decide +kernel
theorem dX11_bid_50 : decode cX11_bid 50 = .ok (.ifCond .ne 9, 3) := by decide +kernel
theorem dX11_bid_53 : decode cX11_bid 53 = .ok (.aload_n 0, 1) := by decide +kernel
theorem dX11_bid_54 : decode cX11_bid 54 = .ok (.iconst 2, 1) := by decide +kernel
theorem dX11_bid_55 : decode cX11_bid 55 = .ok (.invokevirtual 189, 3) := by decide +kernel
theorem dX11_bid_58 : decode cX11_bid 58 = .ok (.ireturn, 1) := by decide +kernel
theorem dX11_bid_59 : decode cX11_bid 59 = .ok (.aload_n 0, 1) := by decide +kernel
theorem dX11_bid_60 : decode cX11_bid 60 = .ok (.getfield 62, 3) := by decide +kernel
theorem dX11_bid_63 : decode cX11_bid 63 = .ok (.iload_n 2, 1) := by decide +kernel
theorem dX11_bid_64 : decode cX11_bid 64 = .ok (.iaload, 1) := by decide +kernel
theorem dX11_bid_65 : decode cX11_bid 65 = .ok (.iconst (-1), 1) := by decide +kernel
theorem dX11_bid_66 : decode cX11_bid 66 = .ok (.if_icmp .ne 40, 3) := by decide +kernel
theorem dX11_bid_69 : decode cX11_bid 69 = .ok (.aload_n 0, 1) := by decide +kernel
theorem dX11_bid_70 : decode cX11_bid 70 = .ok (.getfield 269, 3) := by decide +kernel
theorem dX11_bid_73 : decode cX11_bid 73 = .ok (.bipush 80, 2) := by decide +kernel
theorem dX11_bid_75 : decode cX11_bid 75 = .ok (.if_icmp .eq 31, 3) := by decide +kernel
theorem dX11_bid_78 : decode cX11_bid 78 = .ok (.iload_n 3, 1) := by decide +kernel
theorem dX11_bid_79 : decode cX11_bid 79 = .ok (.ifCond .eq 33, 3) := by decide +kernel
theorem dX11_bid_82 : decode cX11_bid 82 = .ok (.aload_n 0, 1) := by decide +kernel
theorem dX11_bid_83 : decode cX11_bid 83 = .ok (.iload_n 1, 1) := by decide +kernel
theorem dX11_bid_84 : decode cX11_bid 84 = .ok (.invokevirtual 301, 3) := by decide +kernel
theorem dX11_bid_87 : decode cX11_bid 87 = .ok (.iload 4, 2) := by decide +kernel
theorem dX11_bid_89 : decode cX11_bid 89 = .ok (.i2l, 1) := by decide +kernel
theorem dX11_bid_90 : decode cX11_bid 90 = .ok (.iload 5, 2) := by decide +kernel
theorem dX11_bid_92 : decode cX11_bid 92 = .ok (.i2l, 1) := by decide +kernel
theorem dX11_bid_93 : decode cX11_bid 93 = .ok (.lmul, 1) := by decide +kernel
theorem dX11_bid_94 : decode cX11_bid 94 = .ok (.ladd, 1) := by decide +kernel
theorem dX11_bid_95 : decode cX11_bid 95 = .ok (.aload_n 0, 1) := by decide +kernel
theorem dX11_bid_96 : decode cX11_bid 96 = .ok (.getfield 135, 3) := by decide +kernel
theorem dX11_bid_99 : decode cX11_bid 99 = .ok (.iload_n 1, 1) := by decide +kernel
theorem dX11_bid_100 : decode cX11_bid 100 = .ok (.iaload, 1) := by decide +kernel
theorem dX11_bid_101 : decode cX11_bid 101 = .ok (.i2l, 1) := by decide +kernel
theorem dX11_bid_102 : decode cX11_bid 102 = .ok (.lcmp, 1) := by decide +kernel
theorem dX11_bid_103 : decode cX11_bid 103 = .ok (.ifCond .le 9, 3) := by decide +kernel
theorem dX11_bid_106 : decode cX11_bid 106 = .ok (.aload_n 0, 1) := by decide +kernel
theorem dX11_bid_107 : decode cX11_bid 107 = .ok (.iconst 3, 1) := by decide +kernel
theorem dX11_bid_108 : decode cX11_bid 108 = .ok (.invokevirtual 189, 3) := by decide +kernel
theorem dX11_bid_111 : decode cX11_bid 111 = .ok (.ireturn, 1) := by decide +kernel
theorem dX11_bid_112 : decode cX11_bid 112 = .ok (.aload_n 0, 1) := by decide +kernel
theorem dX11_bid_113 : decode cX11_bid 113 = .ok (.getfield 68, 3) := by decide +kernel
theorem dX11_bid_116 : decode cX11_bid 116 = .ok (.aload_n 0, 1) := by decide +kernel
theorem dX11_bid_117 : decode cX11_bid 117 = .ok (.getfield 269, 3) := by decide +kernel
theorem dX11_bid_120 : decode cX11_bid 120 = .ok (.iload_n 1, 1) := by decide +kernel
theorem dX11_bid_121 : decode cX11_bid 121 = .ok (.iastore, 1) := by decide +kernel
theorem dX11_bid_122 : decode cX11_bid 122 = .ok (.aload_n 0, 1) := by decide +kernel
theorem dX11_bid_123 : decode cX11_bid 123 = .ok (.getfield 71, 3) := by decide +kernel
theorem dX11_bid_126 : decode cX11_bid 126 = .ok (.aload_n 0, 1) := by decide +kernel
theorem dX11_bid_127 : decode cX11_bid 127 = .ok (.getfield 269, 3) := by decide +kernel
theorem dX11_bid_130 : decode cX11_bid 130 = .ok (.iload_n 2, 1) := by decide +kernel
theorem dX11_bid_131 : decode cX11_bid 131 = .ok (.iastore, 1) := by decide +kernel
theorem dX11_bid_132 : decode cX11_bid 132 = .ok (.aload_n 0, 1) := by decide +kernel
theorem dX11_bid_133 : decode cX11_bid 133 = .ok (.getfield 74, 3) := by decide +kernel
theorem dX11_bid_136 : decode cX11_bid 136 = .ok (.aload_n 0, 1) := by decide +kernel
theorem dX11_bid_137 : decode cX11_bid 137 = .ok (.getfield 269, 3) := by decide +kernel
theorem dX11_bid_140 : decode cX11_bid 140 = .ok (.iload_n 3, 1) := by decide +kernel
theorem dX11_bid_141 : decode cX11_bid 141 = .ok (.bastore, 1) := by decide +kernel
theorem dX11_bid_142 : decode cX11_bid 142 = .ok (.aload_n 0, 1) := by decide +kernel
theorem dX11_bid_143 : decode cX11_bid 143 = .ok (.getfield 77, 3) := by decide +kernel
theorem dX11_bid_146 : decode cX11_bid 146 = .ok (.aload_n 0, 1) := by decide +kernel
theorem dX11_bid_147 : decode cX11_bid 147 = .ok (.getfield 269, 3) := by decide +kernel
theorem dX11_bid_150 : decode cX11_bid 150 = .ok (.iload 4, 2) := by decide +kernel
theorem dX11_bid_152 : decode cX11_bid 152 = .ok (.iastore, 1) := by decide +kernel
theorem dX11_bid_153 : decode cX11_bid 153 = .ok (.aload_n 0, 1) := by decide +kernel
theorem dX11_bid_154 : decode cX11_bid 154 = .ok (.getfield 80, 3) := by decide +kernel
theorem dX11_bid_157 : decode cX11_bid 157 = .ok (.aload_n 0, 1) := by decide +kernel
theorem dX11_bid_158 : decode cX11_bid 158 = .ok (.getfield 269, 3) := by decide +kernel
theorem dX11_bid_161 : decode cX11_bid 161 = .ok (.iload 5, 2) := by decide +kernel
theorem dX11_bid_163 : decode cX11_bid 163 = .ok (.iastore, 1) := by decide +kernel
theorem dX11_bid_164 : decode cX11_bid 164 = .ok (.aload_n 0, 1) := by decide +kernel
theorem dX11_bid_165 : decode cX11_bid 165 = .ok (.getfield 83, 3) := by decide +kernel
theorem dX11_bid_168 : decode cX11_bid 168 = .ok (.aload_n 0, 1) := by decide +kernel
theorem dX11_bid_169 : decode cX11_bid 169 = .ok (.getfield 269, 3) := by decide +kernel
theorem dX11_bid_172 : decode cX11_bid 172 = .ok (.aload_n 0, 1) := by decide +kernel
theorem dX11_bid_173 : decode cX11_bid 173 = .ok (.getfield 164, 3) := by decide +kernel
theorem dX11_bid_176 : decode cX11_bid 176 = .ok (.iastore, 1) := by decide +kernel
theorem dX11_bid_177 : decode cX11_bid 177 = .ok (.aload_n 0, 1) := by decide +kernel
theorem dX11_bid_178 : decode cX11_bid 178 = .ok (.getfield 86, 3) := by decide +kernel
theorem dX11_bid_181 : decode cX11_bid 181 = .ok (.aload_n 0, 1) := by decide +kernel
theorem dX11_bid_182 : decode cX11_bid 182 = .ok (.getfield 269, 3) := by decide +kernel
theorem dX11_bid_185 : decode cX11_bid 185 = .ok (.iconst (-1), 1) := by decide +kernel
theorem dX11_bid_186 : decode cX11_bid 186 = .ok (.iastore, 1) := by decide +kernel
theorem dX11_bid_187 : decode cX11_bid 187 = .ok (.aload_n 0, 1) := by decide +kernel
theorem dX11_bid_188 : decode cX11_bid 188 = .ok (.getfield 89, 3) := by decide +kernel
theorem dX11_bid_191 : decode cX11_bid 191 = .ok (.aload_n 0, 1) := by decide +kernel
theorem dX11_bid_192 : decode cX11_bid 192 = .ok (.getfield 269, 3) := by decide +kernel
theorem dX11_bid_195 : decode cX11_bid 195 = .ok (.iconst (-1), 1) := by decide +kernel
theorem dX11_bid_196 : decode cX11_bid 196 = .ok (.iastore, 1) := by decide +kernel
theorem dX11_bid_197 : decode cX11_bid 197 = .ok (.aload_n 0, 1) := by decide +kernel
theorem dX11_bid_198 : decode cX11_bid 198 = .ok (.dup, 1) := by decide +kernel
theorem dX11_bid_199 : decode cX11_bid 199 = .ok (.getfield 269, 3) := by decide +kernel
theorem dX11_bid_202 : decode cX11_bid 202 = .ok (.iconst 1, 1) := by decide +kernel
theorem dX11_bid_203 : decode cX11_bid 203 = .ok (.iadd, 1) := by decide +kernel
theorem dX11_bid_204 : decode cX11_bid 204 = .ok (.putfield 269, 3) := by decide +kernel
theorem dX11_bid_207 : decode cX11_bid 207 = .ok (.aload_n 0, 1) := by decide +kernel
theorem dX11_bid_208 : decode cX11_bid 208 = .ok (.aload_n 0, 1) := by decide +kernel
theorem dX11_bid_209 : decode cX11_bid 209 = .ok (.getfield 269, 3) := by decide +kernel
theorem dX11_bid_212 : decode cX11_bid 212 = .ok (.iconst 1, 1) := by decide +kernel
theorem dX11_bid_213 : decode cX11_bid 213 = .ok (.isub, 1) := by decide +kernel
theorem dX11_bid_214 : decode cX11_bid 214 = .ok (.invokevirtual 193, 3) := by decide +kernel
theorem dX11_bid_217 : decode cX11_bid 217 = .ok (.ireturn, 1) := by decide +kernel
theorem dX11_isBid_0 : decode cX11_isBid 0 = .ok (.iload_n 1, 1) := by decide +kernel
theorem dX11_isBid_1 : decode cX11_isBid 1 = .ok (.ifCond .lt 15, 3) := by decide +kernel
theorem dX11_isBid_4 : decode cX11_isBid 4 = .ok (.iload_n 1, 1) := by decide +kernel
theorem dX11_isBid_5 : decode cX11_isBid 5 = .ok (.aload_n 0, 1) := by decide +kernel
theorem dX11_isBid_6 : decode cX11_isBid 6 = .ok (.getfield 269, 3) := by decide +kernel
theorem dX11_isBid_9 : decode cX11_isBid 9 = .ok (.if_icmp .ge 7, 3) := by decide +kernel
theorem dX11_isBid_12 : decode cX11_isBid 12 = .ok (.iconst 1, 1) := by decide +kernel
theorem dX11_isBid_13 : decode cX11_isBid 13 = .ok (.goto 4, 3) := by decide +kernel
theorem dX11_isBid_16 : decode cX11_isBid 16 = .ok (.iconst 0, 1) := by decide +kernel
theorem dX11_isBid_17 : decode cX11_isBid 17 = .ok (.ireturn, 1) := by decide +kernel
theorem dX11_withdraw_0 : decode cX11_withdraw 0 = .ok (.aload_n 0, 1) := by decide +kernel
theorem dX11_withdraw_1 : decode cX11_withdraw 1 = .ok (.iload_n 1, 1) := by decide +kernel
theorem dX11_withdraw_2 : decode cX11_withdraw 2 = .ok (.invokestatic 177, 3) := by decide +kernel
theorem dX11_withdraw_5 : decode cX11_withdraw 5 = .ok (.ifCond .eq 15, 3) := by decide +kernel
theorem dX11_withdraw_8 : decode cX11_withdraw 8 = .ok (.aload_n 0, 1) := by decide +kernel
theorem dX11_withdraw_9 : decode cX11_withdraw 9 = .ok (.iload_n 2, 1) := by decide +kernel
theorem dX11_withdraw_10 : decode cX11_withdraw 10 = .ok (.invokevirtual 304, 3) := by decide +kernel
theorem dX11_withdraw_13 : decode cX11_withdraw 13 = .ok (.ifCond .eq 7, 3) := by decide +kernel
theorem dX11_withdraw_16 : decode cX11_withdraw 16 = .ok (.iconst 1, 1) := by decide +kernel
theorem dX11_withdraw_17 : decode cX11_withdraw 17 = .ok (.goto 4, 3) := by decide +kernel
theorem dX11_withdraw_20 : decode cX11_withdraw 20 = .ok (.iconst 0, 1) := by decide +kernel
theorem dX11_withdraw_21 : decode cX11_withdraw 21 = .ok (.invokevirtual 185, 3) := by decide +kernel
theorem dX11_withdraw_24 : decode cX11_withdraw 24 = .ok (.ifCond .ne 5, 3) := by decide +kernel
theorem dX11_withdraw_27 : decode cX11_withdraw 27 = .ok (.iconst 0, 1) := by decide +kernel
theorem dX11_withdraw_28 : decode cX11_withdraw 28 = .ok (.ireturn, 1) := by decide +kernel
theorem dX11_withdraw_29 : decode cX11_withdraw 29 = .ok (.aload_n 0, 1) := by decide +kernel
theorem dX11_withdraw_30 : decode cX11_withdraw 30 = .ok (.getfield 68, 3) := by decide +kernel
theorem dX11_withdraw_33 : decode cX11_withdraw 33 = .ok (.iload_n 2, 1) := by decide +kernel
theorem dX11_withdraw_34 : decode cX11_withdraw 34 = .ok (.iaload, 1) := by decide +kernel
theorem dX11_withdraw_35 : decode cX11_withdraw 35 = .ok (.iload_n 1, 1) := by decide +kernel
theorem dX11_withdraw_36 : decode cX11_withdraw 36 = .ok (.if_icmp .ne 38, 3) := by decide +kernel
theorem dX11_withdraw_39 : decode cX11_withdraw 39 = .ok (.aload_n 0, 1) := by decide +kernel
theorem dX11_withdraw_40 : decode cX11_withdraw 40 = .ok (.getfield 86, 3) := by decide +kernel
theorem dX11_withdraw_43 : decode cX11_withdraw 43 = .ok (.iload_n 2, 1) := by decide +kernel
theorem dX11_withdraw_44 : decode cX11_withdraw 44 = .ok (.iaload, 1) := by decide +kernel
theorem dX11_withdraw_45 : decode cX11_withdraw 45 = .ok (.iconst (-1), 1) := by decide +kernel
theorem dX11_withdraw_46 : decode cX11_withdraw 46 = .ok (.if_icmp .ne 28, 3) := by decide +kernel
theorem dX11_withdraw_49 : decode cX11_withdraw 49 = .ok (.aload_n 0, 1) := by decide +kernel
theorem dX11_withdraw_50 : decode cX11_withdraw 50 = .ok (.getfield 62, 3) := by decide +kernel
theorem dX11_withdraw_53 : decode cX11_withdraw 53 = .ok (.aload_n 0, 1) := by decide +kernel
theorem dX11_withdraw_54 : decode cX11_withdraw 54 = .ok (.getfield 71, 3) := by decide +kernel
theorem dX11_withdraw_57 : decode cX11_withdraw 57 = .ok (.iload_n 2, 1) := by decide +kernel
theorem dX11_withdraw_58 : decode cX11_withdraw 58 = .ok (.iaload, 1) := by decide +kernel
theorem dX11_withdraw_59 : decode cX11_withdraw 59 = .ok (.iaload, 1) := by decide +kernel
theorem dX11_withdraw_60 : decode cX11_withdraw 60 = .ok (.iconst (-1), 1) := by decide +kernel
theorem dX11_withdraw_61 : decode cX11_withdraw 61 = .ok (.if_icmp .ne 13, 3) := by decide +kernel
theorem dX11_withdraw_64 : decode cX11_withdraw 64 = .ok (.aload_n 0, 1) := by decide +kernel
theorem dX11_withdraw_65 : decode cX11_withdraw 65 = .ok (.getfield 89, 3) := by decide +kernel
theorem dX11_withdraw_68 : decode cX11_withdraw 68 = .ok (.iload_n 2, 1) := by decide +kernel
theorem dX11_withdraw_69 : decode cX11_withdraw 69 = .ok (.iaload, 1) := by decide +kernel
theorem dX11_withdraw_70 : decode cX11_withdraw 70 = .ok (.iconst (-1), 1) := by decide +kernel
theorem dX11_withdraw_71 : decode cX11_withdraw 71 = .ok (.if_icmp .eq 9, 3) := by decide +kernel
theorem dX11_withdraw_74 : decode cX11_withdraw 74 = .ok (.aload_n 0, 1) := by decide +kernel
theorem dX11_withdraw_75 : decode cX11_withdraw 75 = .ok (.iconst 2, 1) := by decide +kernel
theorem dX11_withdraw_76 : decode cX11_withdraw 76 = .ok (.invokevirtual 189, 3) := by decide +kernel
theorem dX11_withdraw_79 : decode cX11_withdraw 79 = .ok (.ireturn, 1) := by decide +kernel
theorem dX11_withdraw_80 : decode cX11_withdraw 80 = .ok (.aload_n 0, 1) := by decide +kernel
theorem dX11_withdraw_81 : decode cX11_withdraw 81 = .ok (.getfield 86, 3) := by decide +kernel
theorem dX11_withdraw_84 : decode cX11_withdraw 84 = .ok (.iload_n 2, 1) := by decide +kernel
theorem dX11_withdraw_85 : decode cX11_withdraw 85 = .ok (.aload_n 0, 1) := by decide +kernel
theorem dX11_withdraw_86 : decode cX11_withdraw 86 = .ok (.getfield 164, 3) := by decide +kernel
theorem dX11_withdraw_89 : decode cX11_withdraw 89 = .ok (.iastore, 1) := by decide +kernel
theorem dX11_withdraw_90 : decode cX11_withdraw 90 = .ok (.aload_n 0, 1) := by decide +kernel
theorem dX11_withdraw_91 : decode cX11_withdraw 91 = .ok (.aload_n 0, 1) := by decide +kernel
theorem dX11_withdraw_92 : decode cX11_withdraw 92 = .ok (.getfield 77, 3) := by decide +kernel
theorem dX11_withdraw_95 : decode cX11_withdraw 95 = .ok (.iload_n 2, 1) := by decide +kernel
theorem dX11_withdraw_96 : decode cX11_withdraw 96 = .ok (.iaload, 1) := by decide +kernel
theorem dX11_withdraw_97 : decode cX11_withdraw 97 = .ok (.invokevirtual 193, 3) := by decide +kernel
theorem dX11_withdraw_100 : decode cX11_withdraw 100 = .ok (.ireturn, 1) := by decide +kernel
theorem dX11_share_0 : decode cX11_share 0 = .ok (.aload_n 0, 1) := by decide +kernel
theorem dX11_share_1 : decode cX11_share 1 = .ok (.iload_n 1, 1) := by decide +kernel
theorem dX11_share_2 : decode cX11_share 2 = .ok (.ifCond .lt 12, 3) := by decide +kernel
theorem dX11_share_5 : decode cX11_share 5 = .ok (.iload_n 1, 1) := by decide +kernel
theorem dX11_share_6 : decode cX11_share 6 = .ok (.iconst 4, 1) := by decide +kernel
theorem dX11_share_7 : decode cX11_share 7 = .ok (.if_icmp .ge 7, 3) := by decide +kernel
theorem dX11_share_10 : decode cX11_share 10 = .ok (.iconst 1, 1) := by decide +kernel
theorem dX11_share_11 : decode cX11_share 11 = .ok (.goto 4, 3) := by decide +kernel
theorem dX11_share_14 : decode cX11_share 14 = .ok (.iconst 0, 1) := by decide +kernel
theorem dX11_share_15 : decode cX11_share 15 = .ok (.invokevirtual 185, 3) := by decide +kernel
theorem dX11_share_18 : decode cX11_share 18 = .ok (.ifCond .ne 5, 3) := by decide +kernel
theorem dX11_share_21 : decode cX11_share 21 = .ok (.iconst 0, 1) := by decide +kernel
theorem dX11_share_22 : decode cX11_share 22 = .ok (.ireturn, 1) := by decide +kernel
theorem dX11_share_23 : decode cX11_share 23 = .ok (.aload_n 0, 1) := by decide +kernel
theorem dX11_share_24 : decode cX11_share 24 = .ok (.getfield 59, 3) := by decide +kernel
theorem dX11_share_27 : decode cX11_share 27 = .ok (.iload_n 1, 1) := by decide +kernel
theorem dX11_share_28 : decode cX11_share 28 = .ok (.baload, 1) := by decide +kernel
theorem dX11_share_29 : decode cX11_share 29 = .ok (.istore_n 3, 1) := by decide +kernel
theorem dX11_share_30 : decode cX11_share 30 = .ok (.aload_n 0, 1) := by decide +kernel
theorem dX11_share_31 : decode cX11_share 31 = .ok (.getfield 59, 3) := by decide +kernel
theorem dX11_share_34 : decode cX11_share 34 = .ok (.iload_n 1, 1) := by decide +kernel
theorem dX11_share_35 : decode cX11_share 35 = .ok (.iload_n 2, 1) := by decide +kernel
theorem dX11_share_36 : decode cX11_share 36 = .ok (.bastore, 1) := by decide +kernel
theorem dX11_share_37 : decode cX11_share 37 = .ok (.aload_n 0, 1) := by decide +kernel
theorem dX11_share_38 : decode cX11_share 38 = .ok (.dup, 1) := by decide +kernel
theorem dX11_share_39 : decode cX11_share 39 = .ok (.getfield 164, 3) := by decide +kernel
theorem dX11_share_42 : decode cX11_share 42 = .ok (.iconst 1, 1) := by decide +kernel
theorem dX11_share_43 : decode cX11_share 43 = .ok (.iadd, 1) := by decide +kernel
theorem dX11_share_44 : decode cX11_share 44 = .ok (.putfield 164, 3) := by decide +kernel
theorem dX11_share_47 : decode cX11_share 47 = .ok (.iload_n 3, 1) := by decide +kernel
theorem dX11_share_48 : decode cX11_share 48 = .ok (.ireturn, 1) := by decide +kernel
theorem dX11_bell_0 : decode cX11_bell 0 = .ok (.aload_n 0, 1) := by decide +kernel
theorem dX11_bell_1 : decode cX11_bell 1 = .ok (.iload_n 1, 1) := by decide +kernel
theorem dX11_bell_2 : decode cX11_bell 2 = .ok (.ifCond .lt 12, 3) := by decide +kernel
theorem dX11_bell_5 : decode cX11_bell 5 = .ok (.iload_n 1, 1) := by decide +kernel
theorem dX11_bell_6 : decode cX11_bell 6 = .ok (.iconst 4, 1) := by decide +kernel
theorem dX11_bell_7 : decode cX11_bell 7 = .ok (.if_icmp .ge 7, 3) := by decide +kernel
theorem dX11_bell_10 : decode cX11_bell 10 = .ok (.iconst 1, 1) := by decide +kernel
theorem dX11_bell_11 : decode cX11_bell 11 = .ok (.goto 4, 3) := by decide +kernel
theorem dX11_bell_14 : decode cX11_bell 14 = .ok (.iconst 0, 1) := by decide +kernel
theorem dX11_bell_15 : decode cX11_bell 15 = .ok (.invokevirtual 185, 3) := by decide +kernel
theorem dX11_bell_18 : decode cX11_bell 18 = .ok (.ifCond .ne 5, 3) := by decide +kernel
theorem dX11_bell_21 : decode cX11_bell 21 = .ok (.iconst 0, 1) := by decide +kernel
theorem dX11_bell_22 : decode cX11_bell 22 = .ok (.ireturn, 1) := by decide +kernel
theorem dX11_bell_23 : decode cX11_bell 23 = .ok (.aload_n 0, 1) := by decide +kernel
theorem dX11_bell_24 : decode cX11_bell 24 = .ok (.getfield 62, 3) := by decide +kernel
theorem dX11_bell_27 : decode cX11_bell 27 = .ok (.iload_n 1, 1) := by decide +kernel
theorem dX11_bell_28 : decode cX11_bell 28 = .ok (.iaload, 1) := by decide +kernel
theorem dX11_bell_29 : decode cX11_bell 29 = .ok (.iconst (-1), 1) := by decide +kernel
theorem dX11_bell_30 : decode cX11_bell 30 = .ok (.if_icmp .ne 31, 3) := by decide +kernel
theorem dX11_bell_33 : decode cX11_bell 33 = .ok (.aload_n 0, 1) := by decide +kernel
theorem dX11_bell_34 : decode cX11_bell 34 = .ok (.getfield 62, 3) := by decide +kernel
theorem dX11_bell_37 : decode cX11_bell 37 = .ok (.iload_n 1, 1) := by decide +kernel
theorem dX11_bell_38 : decode cX11_bell 38 = .ok (.aload_n 0, 1) := by decide +kernel
theorem dX11_bell_39 : decode cX11_bell 39 = .ok (.getfield 164, 3) := by decide +kernel
theorem dX11_bell_42 : decode cX11_bell 42 = .ok (.iastore, 1) := by decide +kernel
theorem dX11_bell_43 : decode cX11_bell 43 = .ok (.aload_n 0, 1) := by decide +kernel
theorem dX11_bell_44 : decode cX11_bell 44 = .ok (.getfield 65, 3) := by decide +kernel
theorem dX11_bell_47 : decode cX11_bell 47 = .ok (.iload_n 1, 1) := by decide +kernel
theorem dX11_bell_48 : decode cX11_bell 48 = .ok (.aload_n 0, 1) := by decide +kernel
theorem dX11_bell_49 : decode cX11_bell 49 = .ok (.getfield 59, 3) := by decide +kernel
theorem dX11_bell_52 : decode cX11_bell 52 = .ok (.iload_n 1, 1) := by decide +kernel
theorem dX11_bell_53 : decode cX11_bell 53 = .ok (.baload, 1) := by decide +kernel
theorem dX11_bell_54 : decode cX11_bell 54 = .ok (.bastore, 1) := by decide +kernel
theorem dX11_bell_55 : decode cX11_bell 55 = .ok (.aload_n 0, 1) := by decide +kernel
theorem dX11_bell_56 : decode cX11_bell 56 = .ok (.iconst (-1), 1) := by decide +kernel
theorem dX11_bell_57 : decode cX11_bell 57 = .ok (.invokevirtual 193, 3) := by decide +kernel
theorem dX11_bell_60 : decode cX11_bell 60 = .ok (.ireturn, 1) := by decide +kernel
theorem dX11_bell_61 : decode cX11_bell 61 = .ok (.aload_n 0, 1) := by decide +kernel
theorem dX11_bell_62 : decode cX11_bell 62 = .ok (.getfield 266, 3) := by decide +kernel
theorem dX11_bell_65 : decode cX11_bell 65 = .ok (.bipush 30, 2) := by decide +kernel
theorem dX11_bell_67 : decode cX11_bell 67 = .ok (.if_icmp .ne 9, 3) := by decide +kernel
theorem dX11_bell_70 : decode cX11_bell 70 = .ok (.aload_n 0, 1) := by decide +kernel
theorem dX11_bell_71 : decode cX11_bell 71 = .ok (.iconst 2, 1) := by decide +kernel
theorem dX11_bell_72 : decode cX11_bell 72 = .ok (.invokevirtual 189, 3) := by decide +kernel
theorem dX11_bell_75 : decode cX11_bell 75 = .ok (.ireturn, 1) := by decide +kernel
theorem dX11_bell_76 : decode cX11_bell 76 = .ok (.aload_n 0, 1) := by decide +kernel
theorem dX11_bell_77 : decode cX11_bell 77 = .ok (.getfield 101, 3) := by decide +kernel
theorem dX11_bell_80 : decode cX11_bell 80 = .ok (.aload_n 0, 1) := by decide +kernel
theorem dX11_bell_81 : decode cX11_bell 81 = .ok (.getfield 266, 3) := by decide +kernel
theorem dX11_bell_84 : decode cX11_bell 84 = .ok (.iload_n 1, 1) := by decide +kernel
theorem dX11_bell_85 : decode cX11_bell 85 = .ok (.iastore, 1) := by decide +kernel
theorem dX11_bell_86 : decode cX11_bell 86 = .ok (.aload_n 0, 1) := by decide +kernel
theorem dX11_bell_87 : decode cX11_bell 87 = .ok (.getfield 104, 3) := by decide +kernel
theorem dX11_bell_90 : decode cX11_bell 90 = .ok (.aload_n 0, 1) := by decide +kernel
theorem dX11_bell_91 : decode cX11_bell 91 = .ok (.getfield 266, 3) := by decide +kernel
theorem dX11_bell_94 : decode cX11_bell 94 = .ok (.aload_n 0, 1) := by decide +kernel
theorem dX11_bell_95 : decode cX11_bell 95 = .ok (.getfield 62, 3) := by decide +kernel
theorem dX11_bell_98 : decode cX11_bell 98 = .ok (.iload_n 1, 1) := by decide +kernel
theorem dX11_bell_99 : decode cX11_bell 99 = .ok (.iaload, 1) := by decide +kernel
theorem dX11_bell_100 : decode cX11_bell 100 = .ok (.iastore, 1) := by decide +kernel
theorem dX11_bell_101 : decode cX11_bell 101 = .ok (.aload_n 0, 1) := by decide +kernel
theorem dX11_bell_102 : decode cX11_bell 102 = .ok (.getfield 110, 3) := by decide +kernel
theorem dX11_bell_105 : decode cX11_bell 105 = .ok (.aload_n 0, 1) := by decide +kernel
theorem dX11_bell_106 : decode cX11_bell 106 = .ok (.getfield 266, 3) := by decide +kernel
theorem dX11_bell_109 : decode cX11_bell 109 = .ok (.aload_n 0, 1) := by decide +kernel
theorem dX11_bell_110 : decode cX11_bell 110 = .ok (.getfield 65, 3) := by decide +kernel
theorem dX11_bell_113 : decode cX11_bell 113 = .ok (.iload_n 1, 1) := by decide +kernel
theorem dX11_bell_114 : decode cX11_bell 114 = .ok (.baload, 1) := by decide +kernel
theorem dX11_bell_115 : decode cX11_bell 115 = .ok (.bastore, 1) := by decide +kernel
theorem dX11_bell_116 : decode cX11_bell 116 = .ok (.aload_n 0, 1) := by decide +kernel
theorem dX11_bell_117 : decode cX11_bell 117 = .ok (.getfield 107, 3) := by decide +kernel
theorem dX11_bell_120 : decode cX11_bell 120 = .ok (.aload_n 0, 1) := by decide +kernel
theorem dX11_bell_121 : decode cX11_bell 121 = .ok (.getfield 266, 3) := by decide +kernel
theorem dX11_bell_124 : decode cX11_bell 124 = .ok (.aload_n 0, 1) := by decide +kernel
theorem dX11_bell_125 : decode cX11_bell 125 = .ok (.getfield 164, 3) := by decide +kernel
theorem dX11_bell_128 : decode cX11_bell 128 = .ok (.iastore, 1) := by decide +kernel
theorem dX11_bell_129 : decode cX11_bell 129 = .ok (.iconst 0, 1) := by decide +kernel
theorem dX11_bell_130 : decode cX11_bell 130 = .ok (.istore_n 2, 1) := by decide +kernel
theorem dX11_bell_131 : decode cX11_bell 131 = .ok (.iload_n 2, 1) := by decide +kernel
theorem dX11_bell_132 : decode cX11_bell 132 = .ok (.aload_n 0, 1) := by decide +kernel
theorem dX11_bell_133 : decode cX11_bell 133 = .ok (.getfield 269, 3) := by decide +kernel
theorem dX11_bell_136 : decode cX11_bell 136 = .ok (.if_icmp .ge 58, 3) := by decide +kernel
theorem dX11_bell_139 : decode cX11_bell 139 = .ok (.aload_n 0, 1) := by decide +kernel
theorem dX11_bell_140 : decode cX11_bell 140 = .ok (.getfield 71, 3) := by decide +kernel
theorem dX11_bell_143 : decode cX11_bell 143 = .ok (.iload_n 2, 1) := by decide +kernel
theorem dX11_bell_144 : decode cX11_bell 144 = .ok (.iaload, 1) := by decide +kernel
theorem dX11_bell_145 : decode cX11_bell 145 = .ok (.iload_n 1, 1) := by decide +kernel
theorem dX11_bell_146 : decode cX11_bell 146 = .ok (.if_icmp .ne 17, 3) := by decide +kernel
theorem dX11_bell_149 : decode cX11_bell 149 = .ok (.aload_n 0, 1) := by decide +kernel
theorem dX11_bell_150 : decode cX11_bell 150 = .ok (.getfield 89, 3) := by decide +kernel
theorem dX11_bell_153 : decode cX11_bell 153 = .ok (.iload_n 2, 1) := by decide +kernel
theorem dX11_bell_154 : decode cX11_bell 154 = .ok (.iaload, 1) := by decide +kernel
theorem dX11_bell_155 : decode cX11_bell 155 = .ok (.iconst (-1), 1) := by decide +kernel
theorem dX11_bell_156 : decode cX11_bell 156 = .ok (.if_icmp .ne 7, 3) := by decide +kernel
theorem dX11_bell_159 : decode cX11_bell 159 = .ok (.iconst 1, 1) := by decide +kernel
theorem dX11_bell_160 : decode cX11_bell 160 = .ok (.goto 4, 3) := by decide +kernel
theorem dX11_bell_163 : decode cX11_bell 163 = .ok (.iconst 0, 1) := by decide +kernel
theorem dX11_bell_164 : decode cX11_bell 164 = .ok (.istore_n 3, 1) := by decide +kernel
theorem dX11_bell_165 : decode cX11_bell 165 = .ok (.aload_n 0, 1) := by decide +kernel
theorem dX11_bell_166 : decode cX11_bell 166 = .ok (.getfield 89, 3) := by decide +kernel
theorem dX11_bell_169 : decode cX11_bell 169 = .ok (.iload_n 2, 1) := by decide +kernel
theorem dX11_bell_170 : decode cX11_bell 170 = .ok (.iload_n 3, 1) := by decide +kernel
theorem dX11_bell_171 : decode cX11_bell 171 = .ok (.ifCond .eq 10, 3) := by decide +kernel
theorem dX11_bell_174 : decode cX11_bell 174 = .ok (.aload_n 0, 1) := by decide +kernel
theorem dX11_bell_175 : decode cX11_bell 175 = .ok (.getfield 266, 3) := by decide +kernel
theorem dX11_bell_178 : decode cX11_bell 178 = .ok (.goto 9, 3) := by decide +kernel
theorem dX11_bell_181 : decode cX11_bell 181 = .ok (.aload_n 0, 1) := by decide +kernel
theorem dX11_bell_182 : decode cX11_bell 182 = .ok (.getfield 89, 3) := by decide +kernel
theorem dX11_bell_185 : decode cX11_bell 185 = .ok (.iload_n 2, 1) := by decide +kernel
theorem dX11_bell_186 : decode cX11_bell 186 = .ok (.iaload, 1) := by decide +kernel
theorem dX11_bell_187 : decode cX11_bell 187 = .ok (.iastore, 1) := by decide +kernel
theorem dX11_bell_188 : decode cX11_bell 188 = .ok (.iinc 2 1, 3) := by decide +kernel
theorem dX11_bell_191 : decode cX11_bell 191 = .ok (.goto (-60), 3) := by decide +kernel
theorem dX11_bell_194 : decode cX11_bell 194 = .ok (.aload_n 0, 1) := by decide +kernel
theorem dX11_bell_195 : decode cX11_bell 195 = .ok (.getfield 62, 3) := by decide +kernel
theorem dX11_bell_198 : decode cX11_bell 198 = .ok (.iload_n 1, 1) := by decide +kernel
theorem dX11_bell_199 : decode cX11_bell 199 = .ok (.iconst (-1), 1) := by decide +kernel
theorem dX11_bell_200 : decode cX11_bell 200 = .ok (.iastore, 1) := by decide +kernel
theorem dX11_bell_201 : decode cX11_bell 201 = .ok (.aload_n 0, 1) := by decide +kernel
theorem dX11_bell_202 : decode cX11_bell 202 = .ok (.dup, 1) := by decide +kernel
theorem dX11_bell_203 : decode cX11_bell 203 = .ok (.getfield 266, 3) := by decide +kernel
theorem dX11_bell_206 : decode cX11_bell 206 = .ok (.iconst 1, 1) := by decide +kernel
theorem dX11_bell_207 : decode cX11_bell 207 = .ok (.iadd, 1) := by decide +kernel
theorem dX11_bell_208 : decode cX11_bell 208 = .ok (.putfield 266, 3) := by decide +kernel
theorem dX11_bell_211 : decode cX11_bell 211 = .ok (.aload_n 0, 1) := by decide +kernel
theorem dX11_bell_212 : decode cX11_bell 212 = .ok (.aload_n 0, 1) := by decide +kernel
theorem dX11_bell_213 : decode cX11_bell 213 = .ok (.getfield 266, 3) := by decide +kernel
theorem dX11_bell_216 : decode cX11_bell 216 = .ok (.iconst 1, 1) := by decide +kernel
theorem dX11_bell_217 : decode cX11_bell 217 = .ok (.isub, 1) := by decide +kernel
theorem dX11_bell_218 : decode cX11_bell 218 = .ok (.invokevirtual 307, 3) := by decide +kernel
theorem dX11_bell_221 : decode cX11_bell 221 = .ok (.aload_n 0, 1) := by decide +kernel
theorem dX11_bell_222 : decode cX11_bell 222 = .ok (.aload_n 0, 1) := by decide +kernel
theorem dX11_bell_223 : decode cX11_bell 223 = .ok (.getfield 266, 3) := by decide +kernel
theorem dX11_bell_226 : decode cX11_bell 226 = .ok (.iconst 1, 1) := by decide +kernel
theorem dX11_bell_227 : decode cX11_bell 227 = .ok (.isub, 1) := by decide +kernel
theorem dX11_bell_228 : decode cX11_bell 228 = .ok (.invokevirtual 193, 3) := by decide +kernel
theorem dX11_bell_231 : decode cX11_bell 231 = .ok (.ireturn, 1) := by decide +kernel
theorem dX11_takesPart_0 : decode cX11_takesPart 0 = .ok (.aload_n 0, 1) := by decide +kernel
theorem dX11_takesPart_1 : decode cX11_takesPart 1 = .ok (.getfield 89, 3) := by decide +kernel
theorem dX11_takesPart_4 : decode cX11_takesPart 4 = .ok (.iload_n 1, 1) := by decide +kernel
theorem dX11_takesPart_5 : decode cX11_takesPart 5 = .ok (.iaload, 1) := by decide +kernel
theorem dX11_takesPart_6 : decode cX11_takesPart 6 = .ok (.iload_n 2, 1) := by decide +kernel
theorem dX11_takesPart_7 : decode cX11_takesPart 7 = .ok (.if_icmp .ne 78, 3) := by decide +kernel
theorem dX11_takesPart_10 : decode cX11_takesPart 10 = .ok (.aload_n 0, 1) := by decide +kernel
theorem dX11_takesPart_11 : decode cX11_takesPart 11 = .ok (.getfield 86, 3) := by decide +kernel
theorem dX11_takesPart_14 : decode cX11_takesPart 14 = .ok (.iload_n 1, 1) := by decide +kernel
theorem dX11_takesPart_15 : decode cX11_takesPart 15 = .ok (.iaload, 1) := by decide +kernel
theorem dX11_takesPart_16 : decode cX11_takesPart 16 = .ok (.iconst (-1), 1) := by decide +kernel
theorem dX11_takesPart_17 : decode cX11_takesPart 17 = .ok (.if_icmp .ne 68, 3) := by decide +kernel
theorem dX11_takesPart_20 : decode cX11_takesPart 20 = .ok (.aload_n 0, 1) := by decide +kernel
theorem dX11_takesPart_21 : decode cX11_takesPart 21 = .ok (.getfield 92, 3) := by decide +kernel
theorem dX11_takesPart_24 : decode cX11_takesPart 24 = .ok (.iload_n 1, 1) := by decide +kernel
theorem dX11_takesPart_25 : decode cX11_takesPart 25 = .ok (.baload, 1) := by decide +kernel
theorem dX11_takesPart_26 : decode cX11_takesPart 26 = .ok (.ifCond .ne 59, 3) := by decide +kernel
theorem dX11_takesPart_29 : decode cX11_takesPart 29 = .ok (.aload_n 0, 1) := by decide +kernel
theorem dX11_takesPart_30 : decode cX11_takesPart 30 = .ok (.getfield 113, 3) := by decide +kernel
theorem dX11_takesPart_33 : decode cX11_takesPart 33 = .ok (.iload_n 2, 1) := by decide +kernel
theorem dX11_takesPart_34 : decode cX11_takesPart 34 = .ok (.iaload, 1) := by decide +kernel
theorem dX11_takesPart_35 : decode cX11_takesPart 35 = .ok (.iconst (-1), 1) := by decide +kernel
theorem dX11_takesPart_36 : decode cX11_takesPart 36 = .ok (.if_icmp .eq 49, 3) := by decide +kernel
theorem dX11_takesPart_39 : decode cX11_takesPart 39 = .ok (.aload_n 0, 1) := by decide +kernel
theorem dX11_takesPart_40 : decode cX11_takesPart 40 = .ok (.getfield 74, 3) := by decide +kernel
theorem dX11_takesPart_43 : decode cX11_takesPart 43 = .ok (.iload_n 1, 1) := by decide +kernel
theorem dX11_takesPart_44 : decode cX11_takesPart 44 = .ok (.baload, 1) := by decide +kernel
theorem dX11_takesPart_45 : decode cX11_takesPart 45 = .ok (.ifCond .eq 21, 3) := by decide +kernel
theorem dX11_takesPart_48 : decode cX11_takesPart 48 = .ok (.aload_n 0, 1) := by decide +kernel
theorem dX11_takesPart_49 : decode cX11_takesPart 49 = .ok (.getfield 80, 3) := by decide +kernel
theorem dX11_takesPart_52 : decode cX11_takesPart 52 = .ok (.iload_n 1, 1) := by decide +kernel
theorem dX11_takesPart_53 : decode cX11_takesPart 53 = .ok (.iaload, 1) := by decide +kernel
theorem dX11_takesPart_54 : decode cX11_takesPart 54 = .ok (.aload_n 0, 1) := by decide +kernel
theorem dX11_takesPart_55 : decode cX11_takesPart 55 = .ok (.getfield 113, 3) := by decide +kernel
theorem dX11_takesPart_58 : decode cX11_takesPart 58 = .ok (.iload_n 2, 1) := by decide +kernel
theorem dX11_takesPart_59 : decode cX11_takesPart 59 = .ok (.iaload, 1) := by decide +kernel
theorem dX11_takesPart_60 : decode cX11_takesPart 60 = .ok (.if_icmp .lt 25, 3) := by decide +kernel
theorem dX11_takesPart_63 : decode cX11_takesPart 63 = .ok (.goto 18, 3) := by decide +kernel
theorem dX11_takesPart_66 : decode cX11_takesPart 66 = .ok (.aload_n 0, 1) := by decide +kernel
theorem dX11_takesPart_67 : decode cX11_takesPart 67 = .ok (.getfield 80, 3) := by decide +kernel
theorem dX11_takesPart_70 : decode cX11_takesPart 70 = .ok (.iload_n 1, 1) := by decide +kernel
theorem dX11_takesPart_71 : decode cX11_takesPart 71 = .ok (.iaload, 1) := by decide +kernel
theorem dX11_takesPart_72 : decode cX11_takesPart 72 = .ok (.aload_n 0, 1) := by decide +kernel
theorem dX11_takesPart_73 : decode cX11_takesPart 73 = .ok (.getfield 113, 3) := by decide +kernel
theorem dX11_takesPart_76 : decode cX11_takesPart 76 = .ok (.iload_n 2, 1) := by decide +kernel
theorem dX11_takesPart_77 : decode cX11_takesPart 77 = .ok (.iaload, 1) := by decide +kernel
theorem dX11_takesPart_78 : decode cX11_takesPart 78 = .ok (.if_icmp .gt 7, 3) := by decide +kernel
theorem dX11_takesPart_81 : decode cX11_takesPart 81 = .ok (.iconst 1, 1) := by decide +kernel
theorem dX11_takesPart_82 : decode cX11_takesPart 82 = .ok (.goto 4, 3) := by decide +kernel
theorem dX11_takesPart_85 : decode cX11_takesPart 85 = .ok (.iconst 0, 1) := by decide +kernel
theorem dX11_takesPart_86 : decode cX11_takesPart 86 = .ok (.ireturn, 1) := by decide +kernel
theorem dX11_sumOf_0 : decode cX11_sumOf 0 = .ok (.iconst 0, 1) := by decide +kernel
theorem dX11_sumOf_1 : decode cX11_sumOf 1 = .ok (.istore_n 3, 1) := by decide +kernel
theorem dX11_sumOf_2 : decode cX11_sumOf 2 = .ok (.iconst 0, 1) := by decide +kernel
theorem dX11_sumOf_3 : decode cX11_sumOf 3 = .ok (.istore 4, 2) := by decide +kernel
theorem dX11_sumOf_5 : decode cX11_sumOf 5 = .ok (.iload 4, 2) := by decide +kernel
theorem dX11_sumOf_7 : decode cX11_sumOf 7 = .ok (.aload_n 0, 1) := by decide +kernel
theorem dX11_sumOf_8 : decode cX11_sumOf 8 = .ok (.getfield 269, 3) := by decide +kernel
theorem dX11_sumOf_11 : decode cX11_sumOf 11 = .ok (.if_icmp .ge 44, 3) := by decide +kernel
theorem dX11_sumOf_14 : decode cX11_sumOf 14 = .ok (.iload_n 3, 1) := by decide +kernel
theorem dX11_sumOf_15 : decode cX11_sumOf 15 = .ok (.aload_n 0, 1) := by decide +kernel
theorem dX11_sumOf_16 : decode cX11_sumOf 16 = .ok (.getfield 74, 3) := by decide +kernel
theorem dX11_sumOf_19 : decode cX11_sumOf 19 = .ok (.iload 4, 2) := by decide +kernel
theorem dX11_sumOf_21 : decode cX11_sumOf 21 = .ok (.baload, 1) := by decide +kernel
theorem dX11_sumOf_22 : decode cX11_sumOf 22 = .ok (.iload_n 2, 1) := by decide +kernel
theorem dX11_sumOf_23 : decode cX11_sumOf 23 = .ok (.if_icmp .ne 23, 3) := by decide +kernel
theorem dX11_sumOf_26 : decode cX11_sumOf 26 = .ok (.aload_n 0, 1) := by decide +kernel
theorem dX11_sumOf_27 : decode cX11_sumOf 27 = .ok (.iload 4, 2) := by decide +kernel
theorem dX11_sumOf_29 : decode cX11_sumOf 29 = .ok (.iload_n 1, 1) := by decide +kernel
theorem dX11_sumOf_30 : decode cX11_sumOf 30 = .ok (.invokevirtual 310, 3) := by decide +kernel
theorem dX11_sumOf_33 : decode cX11_sumOf 33 = .ok (.ifCond .eq 13, 3) := by decide +kernel
theorem dX11_sumOf_36 : decode cX11_sumOf 36 = .ok (.aload_n 0, 1) := by decide +kernel
theorem dX11_sumOf_37 : decode cX11_sumOf 37 = .ok (.getfield 77, 3) := by decide +kernel
theorem dX11_sumOf_40 : decode cX11_sumOf 40 = .ok (.iload 4, 2) := by decide +kernel
theorem dX11_sumOf_42 : decode cX11_sumOf 42 = .ok (.iaload, 1) := by decide +kernel
theorem dX11_sumOf_43 : decode cX11_sumOf 43 = .ok (.goto 4, 3) := by decide +kernel
theorem dX11_sumOf_46 : decode cX11_sumOf 46 = .ok (.iconst 0, 1) := by decide +kernel
theorem dX11_sumOf_47 : decode cX11_sumOf 47 = .ok (.iadd, 1) := by decide +kernel
theorem dX11_sumOf_48 : decode cX11_sumOf 48 = .ok (.istore_n 3, 1) := by decide +kernel
theorem dX11_sumOf_49 : decode cX11_sumOf 49 = .ok (.iinc 4 1, 3) := by decide +kernel
theorem dX11_sumOf_52 : decode cX11_sumOf 52 = .ok (.goto (-47), 3) := by decide +kernel
theorem dX11_sumOf_55 : decode cX11_sumOf 55 = .ok (.iload_n 3, 1) := by decide +kernel
theorem dX11_sumOf_56 : decode cX11_sumOf 56 = .ok (.ireturn, 1) := by decide +kernel
theorem dX11_clears_0 : decode cX11_clears 0 = .ok (.aload_n 0, 1) := by decide +kernel
theorem dX11_clears_1 : decode cX11_clears 1 = .ok (.getfield 104, 3) := by decide +kernel
theorem dX11_clears_4 : decode cX11_clears 4 = .ok (.iload_n 1, 1) := by decide +kernel
theorem dX11_clears_5 : decode cX11_clears 5 = .ok (.iaload, 1) := by decide +kernel
theorem dX11_clears_6 : decode cX11_clears 6 = .ok (.istore_n 2, 1) := by decide +kernel
theorem dX11_clears_7 : decode cX11_clears 7 = .ok (.bipush 6, 2) := by decide +kernel
theorem dX11_clears_9 : decode cX11_clears 9 = .ok (.aload_n 0, 1) := by decide +kernel
theorem dX11_clears_10 : decode cX11_clears 10 = .ok (.getfield 101, 3) := by decide +kernel
theorem dX11_clears_13 : decode cX11_clears 13 = .ok (.iload_n 1, 1) := by decide +kernel
theorem dX11_clears_14 : decode cX11_clears 14 = .ok (.iaload, 1) := by decide +kernel
theorem dX11_clears_15 : decode cX11_clears 15 = .ok (.imul, 1) := by decide +kernel
theorem dX11_clears_16 : decode cX11_clears 16 = .ok (.istore_n 3, 1) := by decide +kernel
theorem dX11_clears_17 : decode cX11_clears 17 = .ok (.aload_n 0, 1) := by decide +kernel
theorem dX11_clears_18 : decode cX11_clears 18 = .ok (.iload_n 3, 1) := by decide +kernel
theorem dX11_clears_19 : decode cX11_clears 19 = .ok (.iload_n 2, 1) := by decide +kernel
theorem dX11_clears_20 : decode cX11_clears 20 = .ok (.invokevirtual 275, 3) := by decide +kernel
theorem dX11_clears_23 : decode cX11_clears 23 = .ok (.istore 4, 2) := by decide +kernel
theorem dX11_clears_25 : decode cX11_clears 25 = .ok (.aload_n 0, 1) := by decide +kernel
theorem dX11_clears_26 : decode cX11_clears 26 = .ok (.getfield 122, 3) := by decide +kernel
theorem dX11_clears_29 : decode cX11_clears 29 = .ok (.iload_n 1, 1) := by decide +kernel
theorem dX11_clears_30 : decode cX11_clears 30 = .ok (.aload_n 0, 1) := by decide +kernel
theorem dX11_clears_31 : decode cX11_clears 31 = .ok (.iload_n 3, 1) := by decide +kernel
theorem dX11_clears_32 : decode cX11_clears 32 = .ok (.iload_n 2, 1) := by decide +kernel
theorem dX11_clears_33 : decode cX11_clears 33 = .ok (.invokevirtual 228, 3) := by decide +kernel
theorem dX11_clears_36 : decode cX11_clears 36 = .ok (.ifCond .eq 7, 3) := by decide +kernel
theorem dX11_clears_39 : decode cX11_clears 39 = .ok (.iconst 5, 1) := by decide +kernel
theorem dX11_clears_40 : decode cX11_clears 40 = .ok (.goto 28, 3) := by decide +kernel
theorem dX11_clears_43 : decode cX11_clears 43 = .ok (.aload_n 0, 1) := by decide +kernel
theorem dX11_clears_44 : decode cX11_clears 44 = .ok (.getfield 234, 3) := by decide +kernel
theorem dX11_clears_47 : decode cX11_clears 47 = .ok (.ifCond .eq 10, 3) := by decide +kernel
theorem dX11_clears_50 : decode cX11_clears 50 = .ok (.aload_n 0, 1) := by decide +kernel
theorem dX11_clears_51 : decode cX11_clears 51 = .ok (.getfield 234, 3) := by decide +kernel
theorem dX11_clears_54 : decode cX11_clears 54 = .ok (.goto 14, 3) := by decide +kernel
theorem dX11_clears_57 : decode cX11_clears 57 = .ok (.iload 4, 2) := by decide +kernel
theorem dX11_clears_59 : decode cX11_clears 59 = .ok (.ifCond .ge 8, 3) := by decide +kernel
theorem dX11_clears_62 : decode cX11_clears 62 = .ok (.bipush 6, 2) := by decide +kernel
theorem dX11_clears_64 : decode cX11_clears 64 = .ok (.goto 4, 3) := by decide +kernel
theorem dX11_clears_67 : decode cX11_clears 67 = .ok (.iconst 0, 1) := by decide +kernel
theorem dX11_clears_68 : decode cX11_clears 68 = .ok (.iastore, 1) := by decide +kernel
theorem dX11_clears_69 : decode cX11_clears 69 = .ok (.aload_n 0, 1) := by decide +kernel
theorem dX11_clears_70 : decode cX11_clears 70 = .ok (.getfield 113, 3) := by decide +kernel
theorem dX11_clears_73 : decode cX11_clears 73 = .ok (.iload_n 1, 1) := by decide +kernel
theorem dX11_clears_74 : decode cX11_clears 74 = .ok (.aload_n 0, 1) := by decide +kernel
theorem dX11_clears_75 : decode cX11_clears 75 = .ok (.getfield 122, 3) := by decide +kernel
theorem dX11_clears_78 : decode cX11_clears 78 = .ok (.iload_n 1, 1) := by decide +kernel
theorem dX11_clears_79 : decode cX11_clears 79 = .ok (.iaload, 1) := by decide +kernel
theorem dX11_clears_80 : decode cX11_clears 80 = .ok (.ifCond .ne 8, 3) := by decide +kernel
theorem dX11_clears_83 : decode cX11_clears 83 = .ok (.iload 4, 2) := by decide +kernel
theorem dX11_clears_85 : decode cX11_clears 85 = .ok (.goto 4, 3) := by decide +kernel
theorem dX11_clears_88 : decode cX11_clears 88 = .ok (.iconst (-1), 1) := by decide +kernel
theorem dX11_clears_89 : decode cX11_clears 89 = .ok (.iastore, 1) := by decide +kernel
theorem dX11_clears_90 : decode cX11_clears 90 = .ok (.aload_n 0, 1) := by decide +kernel
theorem dX11_clears_91 : decode cX11_clears 91 = .ok (.iload_n 3, 1) := by decide +kernel
theorem dX11_clears_92 : decode cX11_clears 92 = .ok (.iconst 1, 1) := by decide +kernel
theorem dX11_clears_93 : decode cX11_clears 93 = .ok (.iadd, 1) := by decide +kernel
theorem dX11_clears_94 : decode cX11_clears 94 = .ok (.iload_n 2, 1) := by decide +kernel
theorem dX11_clears_95 : decode cX11_clears 95 = .ok (.invokevirtual 275, 3) := by decide +kernel
theorem dX11_clears_98 : decode cX11_clears 98 = .ok (.istore 5, 2) := by decide +kernel
theorem dX11_clears_100 : decode cX11_clears 100 = .ok (.aload_n 0, 1) := by decide +kernel
theorem dX11_clears_101 : decode cX11_clears 101 = .ok (.getfield 119, 3) := by decide +kernel
theorem dX11_clears_104 : decode cX11_clears 104 = .ok (.iload_n 1, 1) := by decide +kernel
theorem dX11_clears_105 : decode cX11_clears 105 = .ok (.aload_n 0, 1) := by decide +kernel
theorem dX11_clears_106 : decode cX11_clears 106 = .ok (.getfield 113, 3) := by decide +kernel
theorem dX11_clears_109 : decode cX11_clears 109 = .ok (.iload_n 1, 1) := by decide +kernel
theorem dX11_clears_110 : decode cX11_clears 110 = .ok (.iaload, 1) := by decide +kernel
theorem dX11_clears_111 : decode cX11_clears 111 = .ok (.iconst (-1), 1) := by decide +kernel
theorem dX11_clears_112 : decode cX11_clears 112 = .ok (.if_icmp .eq 8, 3) := by decide +kernel
theorem dX11_clears_115 : decode cX11_clears 115 = .ok (.iload 5, 2) := by decide +kernel
theorem dX11_clears_117 : decode cX11_clears 117 = .ok (.ifCond .ge 7, 3) := by decide +kernel
theorem dX11_clears_120 : decode cX11_clears 120 = .ok (.iconst 0, 1) := by decide +kernel
theorem dX11_clears_121 : decode cX11_clears 121 = .ok (.goto 19, 3) := by decide +kernel
theorem dX11_clears_124 : decode cX11_clears 124 = .ok (.iload 5, 2) := by decide +kernel
theorem dX11_clears_126 : decode cX11_clears 126 = .ok (.sipush 1000, 3) := by decide +kernel
theorem dX11_clears_129 : decode cX11_clears 129 = .ok (.if_icmp .le 9, 3) := by decide +kernel
theorem dX11_clears_132 : decode cX11_clears 132 = .ok (.sipush 1000, 3) := by decide +kernel
theorem dX11_clears_135 : decode cX11_clears 135 = .ok (.goto 5, 3) := by decide +kernel
theorem dX11_clears_138 : decode cX11_clears 138 = .ok (.iload 5, 2) := by decide +kernel
theorem dX11_clears_140 : decode cX11_clears 140 = .ok (.iastore, 1) := by decide +kernel
theorem dX11_clears_141 : decode cX11_clears 141 = .ok (.iconst 0, 1) := by decide +kernel
theorem dX11_clears_142 : decode cX11_clears 142 = .ok (.istore 6, 2) := by decide +kernel
theorem dX11_clears_144 : decode cX11_clears 144 = .ok (.iload 6, 2) := by decide +kernel
theorem dX11_clears_146 : decode cX11_clears 146 = .ok (.aload_n 0, 1) := by decide +kernel
theorem dX11_clears_147 : decode cX11_clears 147 = .ok (.getfield 269, 3) := by decide +kernel
theorem dX11_clears_150 : decode cX11_clears 150 = .ok (.if_icmp .ge 38, 3) := by decide +kernel
theorem dX11_clears_153 : decode cX11_clears 153 = .ok (.aload_n 0, 1) := by decide +kernel
theorem dX11_clears_154 : decode cX11_clears 154 = .ok (.getfield 95, 3) := by decide +kernel
theorem dX11_clears_157 : decode cX11_clears 157 = .ok (.iload 6, 2) := by decide +kernel
theorem dX11_clears_159 : decode cX11_clears 159 = .ok (.aload_n 0, 1) := by decide +kernel
theorem dX11_clears_160 : decode cX11_clears 160 = .ok (.getfield 89, 3) := by decide +kernel
theorem dX11_clears_163 : decode cX11_clears 163 = .ok (.iload 6, 2) := by decide +kernel
theorem dX11_clears_165 : decode cX11_clears 165 = .ok (.iaload, 1) := by decide +kernel
theorem dX11_clears_166 : decode cX11_clears 166 = .ok (.iload_n 1, 1) := by decide +kernel
theorem dX11_clears_167 : decode cX11_clears 167 = .ok (.if_icmp .ne 7, 3) := by decide +kernel
theorem dX11_clears_170 : decode cX11_clears 170 = .ok (.iconst 0, 1) := by decide +kernel
theorem dX11_clears_171 : decode cX11_clears 171 = .ok (.goto 10, 3) := by decide +kernel
theorem dX11_clears_174 : decode cX11_clears 174 = .ok (.aload_n 0, 1) := by decide +kernel
theorem dX11_clears_175 : decode cX11_clears 175 = .ok (.getfield 95, 3) := by decide +kernel
theorem dX11_clears_178 : decode cX11_clears 178 = .ok (.iload 6, 2) := by decide +kernel
theorem dX11_clears_180 : decode cX11_clears 180 = .ok (.iaload, 1) := by decide +kernel
theorem dX11_clears_181 : decode cX11_clears 181 = .ok (.iastore, 1) := by decide +kernel
theorem dX11_clears_182 : decode cX11_clears 182 = .ok (.iinc 6 1, 3) := by decide +kernel
theorem dX11_clears_185 : decode cX11_clears 185 = .ok (.goto (-41), 3) := by decide +kernel
theorem dX11_clears_188 : decode cX11_clears 188 = .ok (.aload_n 0, 1) := by decide +kernel
theorem dX11_clears_189 : decode cX11_clears 189 = .ok (.iload_n 1, 1) := by decide +kernel
theorem dX11_clears_190 : decode cX11_clears 190 = .ok (.iconst 1, 1) := by decide +kernel
theorem dX11_clears_191 : decode cX11_clears 191 = .ok (.invokevirtual 313, 3) := by decide +kernel
theorem dX11_clears_194 : decode cX11_clears 194 = .ok (.istore 6, 2) := by decide +kernel
theorem dX11_clears_196 : decode cX11_clears 196 = .ok (.aload_n 0, 1) := by decide +kernel
theorem dX11_clears_197 : decode cX11_clears 197 = .ok (.iload_n 1, 1) := by decide +kernel
theorem dX11_clears_198 : decode cX11_clears 198 = .ok (.iconst 0, 1) := by decide +kernel
theorem dX11_clears_199 : decode cX11_clears 199 = .ok (.invokevirtual 313, 3) := by decide +kernel
theorem dX11_clears_202 : decode cX11_clears 202 = .ok (.istore 7, 2) := by decide +kernel
theorem dX11_clears_204 : decode cX11_clears 204 = .ok (.aload_n 0, 1) := by decide +kernel
theorem dX11_clears_205 : decode cX11_clears 205 = .ok (.getfield 116, 3) := by decide +kernel
theorem dX11_clears_208 : decode cX11_clears 208 = .ok (.iload_n 1, 1) := by decide +kernel
theorem dX11_clears_209 : decode cX11_clears 209 = .ok (.iload 6, 2) := by decide +kernel
theorem dX11_clears_211 : decode cX11_clears 211 = .ok (.iload 7, 2) := by decide +kernel
theorem dX11_clears_213 : decode cX11_clears 213 = .ok (.if_icmp .ge 8, 3) := by decide +kernel
theorem dX11_clears_216 : decode cX11_clears 216 = .ok (.iload 6, 2) := by decide +kernel
theorem dX11_clears_218 : decode cX11_clears 218 = .ok (.goto 5, 3) := by decide +kernel
theorem dX11_clears_221 : decode cX11_clears 221 = .ok (.iload 7, 2) := by decide +kernel
theorem dX11_clears_223 : decode cX11_clears 223 = .ok (.iastore, 1) := by decide +kernel
theorem dX11_clears_224 : decode cX11_clears 224 = .ok (.aload_n 0, 1) := by decide +kernel
theorem dX11_clears_225 : decode cX11_clears 225 = .ok (.iload_n 1, 1) := by decide +kernel
theorem dX11_clears_226 : decode cX11_clears 226 = .ok (.iconst 1, 1) := by decide +kernel
theorem dX11_clears_227 : decode cX11_clears 227 = .ok (.iload 6, 2) := by decide +kernel
theorem dX11_clears_229 : decode cX11_clears 229 = .ok (.invokevirtual 317, 3) := by decide +kernel
theorem dX11_clears_232 : decode cX11_clears 232 = .ok (.aload_n 0, 1) := by decide +kernel
theorem dX11_clears_233 : decode cX11_clears 233 = .ok (.iload_n 1, 1) := by decide +kernel
theorem dX11_clears_234 : decode cX11_clears 234 = .ok (.iconst 0, 1) := by decide +kernel
theorem dX11_clears_235 : decode cX11_clears 235 = .ok (.iload 7, 2) := by decide +kernel
theorem dX11_clears_237 : decode cX11_clears 237 = .ok (.invokevirtual 317, 3) := by decide +kernel
theorem dX11_clears_240 : decode cX11_clears 240 = .ok (.return_, 1) := by decide +kernel
theorem dX11_shares_0 : decode cX11_shares 0 = .ok (.aload_n 0, 1) := by decide +kernel
theorem dX11_shares_1 : decode cX11_shares 1 = .ok (.getfield 116, 3) := by decide +kernel
theorem dX11_shares_4 : decode cX11_shares 4 = .ok (.iload_n 1, 1) := by decide +kernel
theorem dX11_shares_5 : decode cX11_shares 5 = .ok (.iaload, 1) := by decide +kernel
theorem dX11_shares_6 : decode cX11_shares 6 = .ok (.istore 4, 2) := by decide +kernel
theorem dX11_shares_8 : decode cX11_shares 8 = .ok (.aload_n 0, 1) := by decide +kernel
theorem dX11_shares_9 : decode cX11_shares 9 = .ok (.getfield 110, 3) := by decide +kernel
theorem dX11_shares_12 : decode cX11_shares 12 = .ok (.iload_n 1, 1) := by decide +kernel
theorem dX11_shares_13 : decode cX11_shares 13 = .ok (.baload, 1) := by decide +kernel
theorem dX11_shares_14 : decode cX11_shares 14 = .ok (.ifCond .eq 77, 3) := by decide +kernel
theorem dX11_shares_17 : decode cX11_shares 17 = .ok (.iconst 0, 1) := by decide +kernel
theorem dX11_shares_18 : decode cX11_shares 18 = .ok (.istore 5, 2) := by decide +kernel
theorem dX11_shares_20 : decode cX11_shares 20 = .ok (.iload 5, 2) := by decide +kernel
theorem dX11_shares_22 : decode cX11_shares 22 = .ok (.aload_n 0, 1) := by decide +kernel
theorem dX11_shares_23 : decode cX11_shares 23 = .ok (.getfield 269, 3) := by decide +kernel
theorem dX11_shares_26 : decode cX11_shares 26 = .ok (.if_icmp .ge 65, 3) := by decide +kernel
theorem dX11_shares_29 : decode cX11_shares 29 = .ok (.aload_n 0, 1) := by decide +kernel
theorem dX11_shares_30 : decode cX11_shares 30 = .ok (.getfield 74, 3) := by decide +kernel
theorem dX11_shares_33 : decode cX11_shares 33 = .ok (.iload 5, 2) := by decide +kernel
theorem dX11_shares_35 : decode cX11_shares 35 = .ok (.baload, 1) := by decide +kernel
theorem dX11_shares_36 : decode cX11_shares 36 = .ok (.iload_n 2, 1) := by decide +kernel
theorem dX11_shares_37 : decode cX11_shares 37 = .ok (.if_icmp .ne 48, 3) := by decide +kernel
theorem dX11_shares_40 : decode cX11_shares 40 = .ok (.aload_n 0, 1) := by decide +kernel
theorem dX11_shares_41 : decode cX11_shares 41 = .ok (.iload 5, 2) := by decide +kernel
theorem dX11_shares_43 : decode cX11_shares 43 = .ok (.iload_n 1, 1) := by decide +kernel
