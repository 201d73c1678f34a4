theorem kw_1 : Cond.selects "Cellmarket" yX10_needOwnCell yX10_needOwnCell ∈ hs_ws := hs_w 1 (by decide +kernel) rfl
theorem kw_2 : Cond.selects "Cellmarket" yX10_needEditable yX10_needEditable ∈ hs_ws := hs_w 2 (by decide +kernel) rfl
theorem kw_6 : Cond.selects "Cellmarket" yX10_needReader yX10_needReader ∈ hs_ws := hs_w 6 (by decide +kernel) rfl
theorem kw_7 : Cond.selects "Cellmarket$Finder" yX4_forgetFacts yX4_forgetFacts ∈ hs_ws := hs_w 7 (by decide +kernel) rfl
theorem kw_8 : Cond.selects "Cellmarket$Finder" yX4_addBid yX4_addBid ∈ hs_ws := hs_w 8 (by decide +kernel) rfl
theorem kw_9 : Cond.selects "Cellmarket$Finder" yX4_find yX4_find ∈ hs_ws := hs_w 9 (by decide +kernel) rfl
theorem kw_10 : Cond.selects "Cellmarket$Finder" yX4_goThrough yX4_goThrough ∈ hs_ws := hs_w 10 (by decide +kernel) rfl
theorem kw_11 : Cond.selects "Cellmarket$Finder" yX4_reckonWord yX4_reckonWord ∈ hs_ws := hs_w 11 (by decide +kernel) rfl
theorem kw_12 : Cond.selects "Cellmarket" yX10_bidNumbered yX10_bidNumbered ∈ hs_ws := hs_w 12 (by decide +kernel) rfl
theorem kw_13 : Cond.selects "Cellmarket$Clearing" yX2_findPrice yX2_findPrice ∈ hs_ws := hs_w 13 (by decide +kernel) rfl
theorem kw_14 : Cond.selects "Cellmarket$Clearing" yX2_shareOut yX2_shareOut ∈ hs_ws := hs_w 14 (by decide +kernel) rfl
theorem kw_15 : Cond.selects "Cellmarket$Clearing" yX2_totalOf yX2_totalOf ∈ hs_ws := hs_w 15 (by decide +kernel) rfl
theorem kw_16 : Cond.selects "Cellmarket$Clearing" yX2_partByShares yX2_partByShares ∈ hs_ws := hs_w 16 (by decide +kernel) rfl
theorem kw_17 : Cond.selects "Cellmarket$Clearing" yX2_partByOrder yX2_partByOrder ∈ hs_ws := hs_w 17 (by decide +kernel) rfl
theorem kw_18 : Cond.selects "Cellmarket" yX10_roundNumbered yX10_roundNumbered ∈ hs_ws := hs_w 18 (by decide +kernel) rfl
theorem kw_19 : Cond.selects "Cellmarket$Ledger" yX6_cutAhead yX6_cutAhead ∈ hs_ws := hs_w 19 (by decide +kernel) rfl
theorem kw_20 : Cond.initialized "CellmarketLaw" ∈ hs_ws := hs_w 20 (by decide +kernel) rfl
theorem kw_21 : Cond.initialized "Cellmarket" ∈ hs_ws := hs_w 21 (by decide +kernel) rfl
theorem kw_22 : Cond.initialized "Cellmarket$Sheet" ∈ hs_ws := hs_w 22 (by decide +kernel) rfl
theorem kw_23 : Cond.initialized "Cellmarket$Rights" ∈ hs_ws := hs_w 23 (by decide +kernel) rfl
theorem kw_27 : Cond.initialized "Cellmarket$Formula" ∈ hs_ws := hs_w 27 (by decide +kernel) rfl
theorem kw_28 : Cond.initialized "Cellmarket$Book" ∈ hs_ws := hs_w 28 (by decide +kernel) rfl
theorem kw_29 : Cond.initialized "Cellmarket$Round" ∈ hs_ws := hs_w 29 (by decide +kernel) rfl
theorem kw_30 : Cond.initialized "Cellmarket$Finder" ∈ hs_ws := hs_w 30 (by decide +kernel) rfl
theorem kw_31 : Cond.initialized "Cellmarket$Clearing" ∈ hs_ws := hs_w 31 (by decide +kernel) rfl
theorem kw_32 : Cond.initialized "Cellmarket$Ledger" ∈ hs_ws := hs_w 32 (by decide +kernel) rfl
theorem kw_36 : Cond.initialized "java/lang/IndexOutOfBoundsException" ∈ hs_ws := hs_w 36 (by decide +kernel) rfl
theorem kw_39 : Cond.initialized "java/lang/Math" ∈ hs_ws := hs_w 39 (by decide +kernel) rfl
theorem kw_40 : Cond.initialized "java/lang/IllegalArgumentException" ∈ hs_ws := hs_w 40 (by decide +kernel) rfl
theorem kw_41 : Cond.initialized "java/lang/IllegalStateException" ∈ hs_ws := hs_w 41 (by decide +kernel) rfl
theorem kw_42 : Cond.initialized "Cellmarket$Edit" ∈ hs_ws := hs_w 42 (by decide +kernel) rfl
theorem kw_45 : Cond.initialized "java/lang/System" ∈ hs_ws := hs_w 45 (by decide +kernel) rfl
theorem kw_46 : Cond.initialized "Cellmarket$Bid" ∈ hs_ws := hs_w 46 (by decide +kernel) rfl
theorem kw_47 : Cond.classLink "CellmarketLaw" 25 "Cellmarket" ∈ hs_ws := hs_w 47 (by decide +kernel) rfl
theorem kw_49 : Cond.methodLink "CellmarketLaw" 153 yX10_init ∈ hs_ws := hs_w 49 (by decide +kernel) rfl
theorem kw_52 : Cond.methodLink "Cellmarket" 1 Lib.objectInit ∈ hs_ws := hs_w 52 (by decide +kernel) rfl
theorem kw_53 : Cond.instanceMethod Lib.objectInit ∈ hs_ws := hs_w 53 (by decide +kernel) rfl
theorem kw_54 : Cond.code Lib.objectInit ⟨#[0xb1]⟩ 1 none ∈ hs_ws := hs_w 54 (by decide +kernel) rfl
theorem kw_55 : Cond.classLink "Cellmarket" 7 "Cellmarket$Sheet" ∈ hs_ws := hs_w 55 (by decide +kernel) rfl
theorem kw_56 : Cond.instantiable "Cellmarket$Sheet" 5 ∈ hs_ws := hs_w 56 (by decide +kernel) rfl
theorem kw_57 : Cond.methodLinkNest "Cellmarket" 9 yX9_init "Cellmarket" ∈ hs_ws := hs_w 57 (by decide +kernel) rfl
theorem kw_58 : Cond.instanceMethod yX9_init ∈ hs_ws := hs_w 58 (by decide +kernel) rfl
theorem kw_59 : Cond.code yX9_init cX9_init 1 none ∈ hs_ws := hs_w 59 (by decide +kernel) rfl
theorem kw_60 : Cond.methodLink "Cellmarket$Sheet" 3 Lib.objectInit ∈ hs_ws := hs_w 60 (by decide +kernel) rfl
theorem kw_61 : Cond.classLink "Cellmarket$Sheet" 9 "Cellmarket$Rights" ∈ hs_ws := hs_w 61 (by decide +kernel) rfl
theorem kw_62 : Cond.instantiable "Cellmarket$Rights" 2 ∈ hs_ws := hs_w 62 (by decide +kernel) rfl
theorem kw_63 : Cond.methodLink "Cellmarket$Sheet" 11 yX7_init ∈ hs_ws := hs_w 63 (by decide +kernel) rfl
theorem kw_64 : Cond.instanceMethod yX7_init ∈ hs_ws := hs_w 64 (by decide +kernel) rfl
theorem kw_65 : Cond.code yX7_init cX7_init 2 none ∈ hs_ws := hs_w 65 (by decide +kernel) rfl
theorem kw_66 : Cond.methodLink "Cellmarket$Rights" 3 Lib.objectInit ∈ hs_ws := hs_w 66 (by decide +kernel) rfl
theorem kw_67 : Cond.fieldLink "Cellmarket$Rights" 9 "Cellmarket$Rights" "owner" "[I" ∈ hs_ws := hs_w 67 (by decide +kernel) rfl
theorem kw_68 : Cond.fieldLink "Cellmarket" 70 "Cellmarket$Rights" "owner" "[I" ∈ hs_ws := hs_w 68 (by decide +kernel) rfl
theorem kw_69 : Cond.fieldLink "Cellmarket$Round" 45 "Cellmarket$Rights" "owner" "[I" ∈ hs_ws := hs_w 69 (by decide +kernel) rfl
theorem kw_70 : Cond.fieldLink "Cellmarket$Finder" 162 "Cellmarket$Rights" "owner" "[I" ∈ hs_ws := hs_w 70 (by decide +kernel) rfl
theorem kw_71 : Cond.fieldLink "Cellmarket$Rights" 15 "Cellmarket$Rights" "readers" "[I" ∈ hs_ws := hs_w 71 (by decide +kernel) rfl
theorem kw_72 : Cond.laysFinal "Cellmarket$Rights" "Cellmarket$Rights" "owner" "[I" ∈ hs_ws := hs_w 72 (by decide +kernel) rfl
theorem kw_74 : Cond.laysFinal "Cellmarket$Rights" "Cellmarket$Rights" "readers" "[I" ∈ hs_ws := hs_w 74 (by decide +kernel) rfl
theorem kw_77 : Cond.arrayClass .int ∈ hs_ws := hs_w 77 (by decide +kernel) rfl
theorem kw_78 : Cond.classLink "Cellmarket$Sheet" 18 "java/util/ArrayList" ∈ hs_ws := hs_w 78 (by decide +kernel) rfl
theorem kw_80 : Cond.methodLink "Cellmarket$Sheet" 20 yJx4a65c_init_da8c8 ∈ hs_ws := hs_w 80 (by decide +kernel) rfl
theorem kw_104 : Cond.classLink "Cellmarket$Sheet" 29 "Cellmarket$Formula" ∈ hs_ws := hs_w 104 (by decide +kernel) rfl
theorem kw_105 : Cond.instantiable "Cellmarket$Formula" 5 ∈ hs_ws := hs_w 105 (by decide +kernel) rfl
theorem kw_106 : Cond.methodLinkNest "Cellmarket$Sheet" 31 yX5_init "Cellmarket" ∈ hs_ws := hs_w 106 (by decide +kernel) rfl
theorem kw_107 : Cond.instanceMethod yX5_init ∈ hs_ws := hs_w 107 (by decide +kernel) rfl
theorem kw_108 : Cond.code yX5_init cX5_init 1 none ∈ hs_ws := hs_w 108 (by decide +kernel) rfl
theorem kw_109 : Cond.methodLink "Cellmarket$Formula" 3 Lib.objectInit ∈ hs_ws := hs_w 109 (by decide +kernel) rfl
theorem kw_110 : Cond.fieldLink "Cellmarket$Formula" 9 "Cellmarket$Formula" "what" "[I" ∈ hs_ws := hs_w 110 (by decide +kernel) rfl
theorem kw_111 : Cond.fieldLink "Cellmarket$Finder" 145 "Cellmarket$Formula" "what" "[I" ∈ hs_ws := hs_w 111 (by decide +kernel) rfl
theorem kw_112 : Cond.fieldLink "Cellmarket$Formula" 15 "Cellmarket$Formula" "one" "[I" ∈ hs_ws := hs_w 112 (by decide +kernel) rfl
theorem kw_113 : Cond.fieldLink "Cellmarket$Finder" 152 "Cellmarket$Formula" "one" "[I" ∈ hs_ws := hs_w 113 (by decide +kernel) rfl
theorem kw_114 : Cond.fieldLink "Cellmarket$Formula" 18 "Cellmarket$Formula" "two" "[I" ∈ hs_ws := hs_w 114 (by decide +kernel) rfl
theorem kw_115 : Cond.fieldLink "Cellmarket$Finder" 159 "Cellmarket$Formula" "two" "[I" ∈ hs_ws := hs_w 115 (by decide +kernel) rfl
theorem kw_116 : Cond.fieldLink "Cellmarket$Formula" 21 "Cellmarket$Formula" "many" "I" ∈ hs_ws := hs_w 116 (by decide +kernel) rfl
theorem kw_117 : Cond.fieldLink "Cellmarket$Finder" 114 "Cellmarket$Formula" "many" "I" ∈ hs_ws := hs_w 117 (by decide +kernel) rfl
theorem kw_118 : Cond.fieldLink "Cellmarket" 111 "Cellmarket$Formula" "many" "I" ∈ hs_ws := hs_w 118 (by decide +kernel) rfl
theorem kw_119 : Cond.fieldLink "Cellmarket$Formula" 25 "Cellmarket$Formula" "height" "I" ∈ hs_ws := hs_w 119 (by decide +kernel) rfl
theorem kw_120 : Cond.fieldLink "Cellmarket" 121 "Cellmarket$Formula" "height" "I" ∈ hs_ws := hs_w 120 (by decide +kernel) rfl
theorem kw_121 : Cond.laysFinal "Cellmarket$Formula" "Cellmarket$Formula" "what" "[I" ∈ hs_ws := hs_w 121 (by decide +kernel) rfl
theorem kw_123 : Cond.laysFinal "Cellmarket$Formula" "Cellmarket$Formula" "one" "[I" ∈ hs_ws := hs_w 123 (by decide +kernel) rfl
theorem kw_125 : Cond.laysFinal "Cellmarket$Formula" "Cellmarket$Formula" "two" "[I" ∈ hs_ws := hs_w 125 (by decide +kernel) rfl
theorem kw_127 : Cond.lays "Cellmarket$Formula" "Cellmarket$Formula" "many" "I" ∈ hs_ws := hs_w 127 (by decide +kernel) rfl
theorem kw_129 : Cond.lays "Cellmarket$Formula" "Cellmarket$Formula" "height" "I" ∈ hs_ws := hs_w 129 (by decide +kernel) rfl
theorem kw_132 : Cond.fieldLink "Cellmarket$Sheet" 12 "Cellmarket$Sheet" "rights" "LCellmarket$Rights;" ∈ hs_ws := hs_w 132 (by decide +kernel) rfl
theorem kw_133 : Cond.fieldLink "Cellmarket$Finder" 47 "Cellmarket$Sheet" "rights" "LCellmarket$Rights;" ∈ hs_ws := hs_w 133 (by decide +kernel) rfl
theorem kw_134 : Cond.fieldLink "Cellmarket" 66 "Cellmarket$Sheet" "rights" "LCellmarket$Rights;" ∈ hs_ws := hs_w 134 (by decide +kernel) rfl
theorem kw_135 : Cond.fieldLink "Cellmarket$Sheet" 21 "Cellmarket$Sheet" "edits" "Ljava/util/List;" ∈ hs_ws := hs_w 135 (by decide +kernel) rfl
theorem kw_136 : Cond.fieldLink "Cellmarket$Finder" 58 "Cellmarket$Sheet" "edits" "Ljava/util/List;" ∈ hs_ws := hs_w 136 (by decide +kernel) rfl
theorem kw_137 : Cond.fieldLink "Cellmarket" 348 "Cellmarket$Sheet" "edits" "Ljava/util/List;" ∈ hs_ws := hs_w 137 (by decide +kernel) rfl
theorem kw_138 : Cond.fieldLink "Cellmarket$Sheet" 25 "Cellmarket$Sheet" "notices" "[I" ∈ hs_ws := hs_w 138 (by decide +kernel) rfl
theorem kw_139 : Cond.fieldLink "Cellmarket" 154 "Cellmarket$Sheet" "notices" "[I" ∈ hs_ws := hs_w 139 (by decide +kernel) rfl
theorem kw_140 : Cond.fieldLink "Cellmarket$Sheet" 32 "Cellmarket$Sheet" "blank" "LCellmarket$Formula;" ∈ hs_ws := hs_w 140 (by decide +kernel) rfl
theorem kw_141 : Cond.fieldLink "Cellmarket$Finder" 54 "Cellmarket$Sheet" "blank" "LCellmarket$Formula;" ∈ hs_ws := hs_w 141 (by decide +kernel) rfl
theorem kw_142 : Cond.fieldLink "Cellmarket" 146 "Cellmarket$Sheet" "blank" "LCellmarket$Formula;" ∈ hs_ws := hs_w 142 (by decide +kernel) rfl
theorem kw_143 : Cond.fieldLink "Cellmarket$Sheet" 36 "Cellmarket$Sheet" "draft" "LCellmarket$Formula;" ∈ hs_ws := hs_w 143 (by decide +kernel) rfl
theorem kw_144 : Cond.fieldLink "Cellmarket" 107 "Cellmarket$Sheet" "draft" "LCellmarket$Formula;" ∈ hs_ws := hs_w 144 (by decide +kernel) rfl
theorem kw_145 : Cond.laysFinal "Cellmarket$Sheet" "Cellmarket$Sheet" "rights" "LCellmarket$Rights;" ∈ hs_ws := hs_w 145 (by decide +kernel) rfl
theorem kw_147 : Cond.laysFinal "Cellmarket$Sheet" "Cellmarket$Sheet" "edits" "Ljava/util/List;" ∈ hs_ws := hs_w 147 (by decide +kernel) rfl
theorem kw_149 : Cond.laysFinal "Cellmarket$Sheet" "Cellmarket$Sheet" "notices" "[I" ∈ hs_ws := hs_w 149 (by decide +kernel) rfl
theorem kw_151 : Cond.laysFinal "Cellmarket$Sheet" "Cellmarket$Sheet" "blank" "LCellmarket$Formula;" ∈ hs_ws := hs_w 151 (by decide +kernel) rfl
theorem kw_153 : Cond.lays "Cellmarket$Sheet" "Cellmarket$Sheet" "draft" "LCellmarket$Formula;" ∈ hs_ws := hs_w 153 (by decide +kernel) rfl
theorem kw_156 : Cond.classLink "Cellmarket" 16 "Cellmarket$Book" ∈ hs_ws := hs_w 156 (by decide +kernel) rfl
theorem kw_157 : Cond.instantiable "Cellmarket$Book" 4 ∈ hs_ws := hs_w 157 (by decide +kernel) rfl
theorem kw_158 : Cond.methodLink "Cellmarket" 18 yX1_init ∈ hs_ws := hs_w 158 (by decide +kernel) rfl
theorem kw_159 : Cond.instanceMethod yX1_init ∈ hs_ws := hs_w 159 (by decide +kernel) rfl
theorem kw_160 : Cond.code yX1_init cX1_init 2 none ∈ hs_ws := hs_w 160 (by decide +kernel) rfl
theorem kw_161 : Cond.methodLink "Cellmarket$Book" 3 Lib.objectInit ∈ hs_ws := hs_w 161 (by decide +kernel) rfl
theorem kw_162 : Cond.classLink "Cellmarket$Book" 9 "java/util/ArrayList" ∈ hs_ws := hs_w 162 (by decide +kernel) rfl
theorem kw_163 : Cond.methodLink "Cellmarket$Book" 11 yJx4a65c_init_da8c8 ∈ hs_ws := hs_w 163 (by decide +kernel) rfl
theorem kw_164 : Cond.classLink "Cellmarket$Book" 18 "Cellmarket$Round" ∈ hs_ws := hs_w 164 (by decide +kernel) rfl
theorem kw_166 : Cond.instantiable "Cellmarket$Round" 9 ∈ hs_ws := hs_w 166 (by decide +kernel) rfl
theorem kw_167 : Cond.methodLink "Cellmarket$Book" 31 yX8_init ∈ hs_ws := hs_w 167 (by decide +kernel) rfl
theorem kw_168 : Cond.instanceMethod yX8_init ∈ hs_ws := hs_w 168 (by decide +kernel) rfl
theorem kw_169 : Cond.code yX8_init cX8_init 2 none ∈ hs_ws := hs_w 169 (by decide +kernel) rfl
theorem kw_170 : Cond.methodLink "Cellmarket$Round" 3 Lib.objectInit ∈ hs_ws := hs_w 170 (by decide +kernel) rfl
theorem kw_171 : Cond.constant "Cellmarket$Round" 9 2147483647 ∈ hs_ws := hs_w 171 (by decide +kernel) rfl
theorem kw_172 : Cond.classLink "Cellmarket$Round" 23 "Cellmarket$Rights" ∈ hs_ws := hs_w 172 (by decide +kernel) rfl
theorem kw_173 : Cond.methodLink "Cellmarket$Round" 25 yX7_init ∈ hs_ws := hs_w 173 (by decide +kernel) rfl
theorem kw_174 : Cond.fieldLink "Cellmarket$Round" 42 "Cellmarket$Round" "column" "I" ∈ hs_ws := hs_w 174 (by decide +kernel) rfl
theorem kw_175 : Cond.fieldLink "Cellmarket$Book" 47 "Cellmarket$Round" "column" "I" ∈ hs_ws := hs_w 175 (by decide +kernel) rfl
theorem kw_176 : Cond.fieldLink "Cellmarket$Finder" 111 "Cellmarket$Round" "column" "I" ∈ hs_ws := hs_w 176 (by decide +kernel) rfl
theorem kw_177 : Cond.fieldLink "Cellmarket$Clearing" 71 "Cellmarket$Round" "column" "I" ∈ hs_ws := hs_w 177 (by decide +kernel) rfl
theorem kw_178 : Cond.fieldLink "Cellmarket" 271 "Cellmarket$Round" "column" "I" ∈ hs_ws := hs_w 178 (by decide +kernel) rfl
theorem kw_179 : Cond.fieldLink "Cellmarket$Round" 10 "Cellmarket$Round" "frozen" "I" ∈ hs_ws := hs_w 179 (by decide +kernel) rfl
theorem kw_180 : Cond.fieldLink "Cellmarket$Clearing" 51 "Cellmarket$Round" "frozen" "I" ∈ hs_ws := hs_w 180 (by decide +kernel) rfl
theorem kw_181 : Cond.fieldLink "Cellmarket$Round" 16 "Cellmarket$Round" "cleared" "I" ∈ hs_ws := hs_w 181 (by decide +kernel) rfl
theorem kw_182 : Cond.fieldLink "Cellmarket$Book" 40 "Cellmarket$Round" "cleared" "I" ∈ hs_ws := hs_w 182 (by decide +kernel) rfl
theorem kw_183 : Cond.fieldLink "Cellmarket$Bid" 45 "Cellmarket$Round" "cleared" "I" ∈ hs_ws := hs_w 183 (by decide +kernel) rfl
theorem kw_184 : Cond.fieldLink "Cellmarket$Finder" 106 "Cellmarket$Round" "cleared" "I" ∈ hs_ws := hs_w 184 (by decide +kernel) rfl
theorem kw_185 : Cond.fieldLink "Cellmarket$Round" 19 "Cellmarket$Round" "byShares" "Z" ∈ hs_ws := hs_w 185 (by decide +kernel) rfl
theorem kw_186 : Cond.fieldLink "Cellmarket$Clearing" 114 "Cellmarket$Round" "byShares" "Z" ∈ hs_ws := hs_w 186 (by decide +kernel) rfl
theorem kw_187 : Cond.fieldLink "Cellmarket$Round" 26 "Cellmarket$Round" "rights" "LCellmarket$Rights;" ∈ hs_ws := hs_w 187 (by decide +kernel) rfl
theorem kw_188 : Cond.fieldLink "Cellmarket$Clearing" 54 "Cellmarket$Round" "rights" "LCellmarket$Rights;" ∈ hs_ws := hs_w 188 (by decide +kernel) rfl
theorem kw_189 : Cond.fieldLink "Cellmarket$Round" 30 "Cellmarket$Round" "price" "I" ∈ hs_ws := hs_w 189 (by decide +kernel) rfl
theorem kw_190 : Cond.fieldLink "Cellmarket$Finder" 108 "Cellmarket$Round" "price" "I" ∈ hs_ws := hs_w 190 (by decide +kernel) rfl
theorem kw_191 : Cond.fieldLink "Cellmarket$Clearing" 41 "Cellmarket$Round" "price" "I" ∈ hs_ws := hs_w 191 (by decide +kernel) rfl
theorem kw_192 : Cond.fieldLink "Cellmarket$Bid" 50 "Cellmarket$Round" "price" "I" ∈ hs_ws := hs_w 192 (by decide +kernel) rfl
theorem kw_193 : Cond.fieldLink "Cellmarket" 307 "Cellmarket$Round" "price" "I" ∈ hs_ws := hs_w 193 (by decide +kernel) rfl
theorem kw_194 : Cond.fieldLink "Cellmarket$Round" 33 "Cellmarket$Round" "volume" "I" ∈ hs_ws := hs_w 194 (by decide +kernel) rfl
theorem kw_195 : Cond.fieldLink "Cellmarket$Clearing" 45 "Cellmarket$Round" "volume" "I" ∈ hs_ws := hs_w 195 (by decide +kernel) rfl
theorem kw_196 : Cond.fieldLink "Cellmarket" 310 "Cellmarket$Round" "volume" "I" ∈ hs_ws := hs_w 196 (by decide +kernel) rfl
theorem kw_197 : Cond.fieldLink "Cellmarket$Round" 36 "Cellmarket$Round" "fee" "I" ∈ hs_ws := hs_w 197 (by decide +kernel) rfl
theorem kw_198 : Cond.fieldLink "Cellmarket$Clearing" 48 "Cellmarket$Round" "fee" "I" ∈ hs_ws := hs_w 198 (by decide +kernel) rfl
theorem kw_199 : Cond.fieldLink "Cellmarket$Bid" 57 "Cellmarket$Round" "fee" "I" ∈ hs_ws := hs_w 199 (by decide +kernel) rfl
theorem kw_200 : Cond.fieldLink "Cellmarket" 313 "Cellmarket$Round" "fee" "I" ∈ hs_ws := hs_w 200 (by decide +kernel) rfl
theorem kw_201 : Cond.fieldLink "Cellmarket$Round" 39 "Cellmarket$Round" "why" "I" ∈ hs_ws := hs_w 201 (by decide +kernel) rfl
theorem kw_202 : Cond.fieldLink "Cellmarket$Clearing" 85 "Cellmarket$Round" "why" "I" ∈ hs_ws := hs_w 202 (by decide +kernel) rfl
theorem kw_203 : Cond.fieldLink "Cellmarket" 316 "Cellmarket$Round" "why" "I" ∈ hs_ws := hs_w 203 (by decide +kernel) rfl
theorem kw_204 : Cond.laysFinal "Cellmarket$Round" "Cellmarket$Round" "column" "I" ∈ hs_ws := hs_w 204 (by decide +kernel) rfl
theorem kw_206 : Cond.lays "Cellmarket$Round" "Cellmarket$Round" "frozen" "I" ∈ hs_ws := hs_w 206 (by decide +kernel) rfl
theorem kw_208 : Cond.lays "Cellmarket$Round" "Cellmarket$Round" "cleared" "I" ∈ hs_ws := hs_w 208 (by decide +kernel) rfl
theorem kw_210 : Cond.lays "Cellmarket$Round" "Cellmarket$Round" "byShares" "Z" ∈ hs_ws := hs_w 210 (by decide +kernel) rfl
theorem kw_212 : Cond.laysFinal "Cellmarket$Round" "Cellmarket$Round" "rights" "LCellmarket$Rights;" ∈ hs_ws := hs_w 212 (by decide +kernel) rfl
theorem kw_214 : Cond.lays "Cellmarket$Round" "Cellmarket$Round" "price" "I" ∈ hs_ws := hs_w 214 (by decide +kernel) rfl
theorem kw_216 : Cond.lays "Cellmarket$Round" "Cellmarket$Round" "volume" "I" ∈ hs_ws := hs_w 216 (by decide +kernel) rfl
theorem kw_218 : Cond.lays "Cellmarket$Round" "Cellmarket$Round" "fee" "I" ∈ hs_ws := hs_w 218 (by decide +kernel) rfl
theorem kw_220 : Cond.lays "Cellmarket$Round" "Cellmarket$Round" "why" "I" ∈ hs_ws := hs_w 220 (by decide +kernel) rfl
theorem kw_223 : Cond.arrayClass .boolean ∈ hs_ws := hs_w 223 (by decide +kernel) rfl
theorem kw_224 : Cond.fieldLink "Cellmarket$Book" 12 "Cellmarket$Book" "bids" "Ljava/util/List;" ∈ hs_ws := hs_w 224 (by decide +kernel) rfl
theorem kw_225 : Cond.fieldLink "Cellmarket$Finder" 87 "Cellmarket$Book" "bids" "Ljava/util/List;" ∈ hs_ws := hs_w 225 (by decide +kernel) rfl
theorem kw_226 : Cond.fieldLink "Cellmarket$Clearing" 101 "Cellmarket$Book" "bids" "Ljava/util/List;" ∈ hs_ws := hs_w 226 (by decide +kernel) rfl
theorem kw_227 : Cond.fieldLink "Cellmarket" 224 "Cellmarket$Book" "bids" "Ljava/util/List;" ∈ hs_ws := hs_w 227 (by decide +kernel) rfl
theorem kw_228 : Cond.fieldLink "Cellmarket$Book" 20 "Cellmarket$Book" "current" "[LCellmarket$Round;" ∈ hs_ws := hs_w 228 (by decide +kernel) rfl
theorem kw_229 : Cond.fieldLink "Cellmarket" 212 "Cellmarket$Book" "current" "[LCellmarket$Round;" ∈ hs_ws := hs_w 229 (by decide +kernel) rfl
theorem kw_230 : Cond.fieldLink "Cellmarket$Book" 24 "Cellmarket$Book" "cleared" "Ljava/util/List;" ∈ hs_ws := hs_w 230 (by decide +kernel) rfl
theorem kw_231 : Cond.fieldLink "Cellmarket$Clearing" 19 "Cellmarket$Book" "cleared" "Ljava/util/List;" ∈ hs_ws := hs_w 231 (by decide +kernel) rfl
theorem kw_232 : Cond.fieldLink "Cellmarket$Finder" 101 "Cellmarket$Book" "cleared" "Ljava/util/List;" ∈ hs_ws := hs_w 232 (by decide +kernel) rfl
theorem kw_233 : Cond.fieldLink "Cellmarket" 290 "Cellmarket$Book" "cleared" "Ljava/util/List;" ∈ hs_ws := hs_w 233 (by decide +kernel) rfl
theorem kw_234 : Cond.fieldLink "Cellmarket$Book" 27 "Cellmarket$Book" "byShares" "[Z" ∈ hs_ws := hs_w 234 (by decide +kernel) rfl
theorem kw_235 : Cond.fieldLink "Cellmarket" 282 "Cellmarket$Book" "byShares" "[Z" ∈ hs_ws := hs_w 235 (by decide +kernel) rfl
theorem kw_236 : Cond.laysFinal "Cellmarket$Book" "Cellmarket$Book" "bids" "Ljava/util/List;" ∈ hs_ws := hs_w 236 (by decide +kernel) rfl
theorem kw_238 : Cond.laysFinal "Cellmarket$Book" "Cellmarket$Book" "current" "[LCellmarket$Round;" ∈ hs_ws := hs_w 238 (by decide +kernel) rfl
theorem kw_240 : Cond.laysFinal "Cellmarket$Book" "Cellmarket$Book" "cleared" "Ljava/util/List;" ∈ hs_ws := hs_w 240 (by decide +kernel) rfl
theorem kw_242 : Cond.laysFinal "Cellmarket$Book" "Cellmarket$Book" "byShares" "[Z" ∈ hs_ws := hs_w 242 (by decide +kernel) rfl
theorem kw_245 : Cond.classLink "Cellmarket" 23 "Cellmarket$Finder" ∈ hs_ws := hs_w 245 (by decide +kernel) rfl
theorem kw_246 : Cond.instantiable "Cellmarket$Finder" 10 ∈ hs_ws := hs_w 246 (by decide +kernel) rfl
theorem kw_247 : Cond.methodLink "Cellmarket" 25 yX4_init ∈ hs_ws := hs_w 247 (by decide +kernel) rfl
theorem kw_248 : Cond.instanceMethod yX4_init ∈ hs_ws := hs_w 248 (by decide +kernel) rfl
theorem kw_249 : Cond.code yX4_init cX4_init 4 none ∈ hs_ws := hs_w 249 (by decide +kernel) rfl
theorem kw_250 : Cond.methodLink "Cellmarket$Finder" 3 Lib.objectInit ∈ hs_ws := hs_w 250 (by decide +kernel) rfl
theorem kw_251 : Cond.classLink "Cellmarket$Finder" 9 "Cellmarket$Formula" ∈ hs_ws := hs_w 251 (by decide +kernel) rfl
theorem kw_253 : Cond.classLink "Cellmarket$Finder" 27 "[[I" ∈ hs_ws := hs_w 253 (by decide +kernel) rfl
theorem kw_255 : Cond.fieldLink "Cellmarket$Finder" 39 "Cellmarket$Finder" "sheet" "LCellmarket$Sheet;" ∈ hs_ws := hs_w 255 (by decide +kernel) rfl
theorem kw_256 : Cond.fieldLink "Cellmarket$Finder" 43 "Cellmarket$Finder" "book" "LCellmarket$Book;" ∈ hs_ws := hs_w 256 (by decide +kernel) rfl
theorem kw_257 : Cond.fieldLink "Cellmarket$Finder" 53 "Cellmarket$Finder" "rights" "LCellmarket$Rights;" ∈ hs_ws := hs_w 257 (by decide +kernel) rfl
theorem kw_258 : Cond.fieldLink "Cellmarket$Finder" 11 "Cellmarket$Finder" "formulas" "[LCellmarket$Formula;" ∈ hs_ws := hs_w 258 (by decide +kernel) rfl
theorem kw_259 : Cond.fieldLink "Cellmarket$Finder" 17 "Cellmarket$Finder" "states" "[I" ∈ hs_ws := hs_w 259 (by decide +kernel) rfl
theorem kw_260 : Cond.fieldLink "Cellmarket$Finder" 21 "Cellmarket$Finder" "numbers" "[I" ∈ hs_ws := hs_w 260 (by decide +kernel) rfl
theorem kw_261 : Cond.fieldLink "Cellmarket$Finder" 24 "Cellmarket$Finder" "faults" "[I" ∈ hs_ws := hs_w 261 (by decide +kernel) rfl
theorem kw_262 : Cond.fieldLink "Cellmarket$Finder" 29 "Cellmarket$Finder" "facts" "[[I" ∈ hs_ws := hs_w 262 (by decide +kernel) rfl
theorem kw_263 : Cond.fieldLink "Cellmarket$Finder" 32 "Cellmarket$Finder" "pile" "[I" ∈ hs_ws := hs_w 263 (by decide +kernel) rfl
theorem kw_264 : Cond.fieldLink "Cellmarket$Finder" 35 "Cellmarket$Finder" "made" "I" ∈ hs_ws := hs_w 264 (by decide +kernel) rfl
theorem kw_265 : Cond.laysFinal "Cellmarket$Finder" "Cellmarket$Finder" "sheet" "LCellmarket$Sheet;" ∈ hs_ws := hs_w 265 (by decide +kernel) rfl
theorem kw_267 : Cond.laysFinal "Cellmarket$Finder" "Cellmarket$Finder" "book" "LCellmarket$Book;" ∈ hs_ws := hs_w 267 (by decide +kernel) rfl
theorem kw_269 : Cond.lays "Cellmarket$Finder" "Cellmarket$Finder" "rights" "LCellmarket$Rights;" ∈ hs_ws := hs_w 269 (by decide +kernel) rfl
theorem kw_271 : Cond.laysFinal "Cellmarket$Finder" "Cellmarket$Finder" "formulas" "[LCellmarket$Formula;" ∈ hs_ws := hs_w 271 (by decide +kernel) rfl
theorem kw_273 : Cond.laysFinal "Cellmarket$Finder" "Cellmarket$Finder" "states" "[I" ∈ hs_ws := hs_w 273 (by decide +kernel) rfl
theorem kw_275 : Cond.laysFinal "Cellmarket$Finder" "Cellmarket$Finder" "numbers" "[I" ∈ hs_ws := hs_w 275 (by decide +kernel) rfl
theorem kw_277 : Cond.laysFinal "Cellmarket$Finder" "Cellmarket$Finder" "faults" "[I" ∈ hs_ws := hs_w 277 (by decide +kernel) rfl
theorem kw_279 : Cond.laysFinal "Cellmarket$Finder" "Cellmarket$Finder" "facts" "[[I" ∈ hs_ws := hs_w 279 (by decide +kernel) rfl
theorem kw_281 : Cond.laysFinal "Cellmarket$Finder" "Cellmarket$Finder" "pile" "[I" ∈ hs_ws := hs_w 281 (by decide +kernel) rfl
theorem kw_283 : Cond.lays "Cellmarket$Finder" "Cellmarket$Finder" "made" "I" ∈ hs_ws := hs_w 283 (by decide +kernel) rfl
theorem kw_286 : Cond.classLink "Cellmarket" 32 "Cellmarket$Clearing" ∈ hs_ws := hs_w 286 (by decide +kernel) rfl
theorem kw_287 : Cond.instantiable "Cellmarket$Clearing" 2 ∈ hs_ws := hs_w 287 (by decide +kernel) rfl
theorem kw_288 : Cond.methodLink "Cellmarket" 34 yX2_init ∈ hs_ws := hs_w 288 (by decide +kernel) rfl
theorem kw_289 : Cond.instanceMethod yX2_init ∈ hs_ws := hs_w 289 (by decide +kernel) rfl
theorem kw_290 : Cond.code yX2_init cX2_init 3 none ∈ hs_ws := hs_w 290 (by decide +kernel) rfl
theorem kw_291 : Cond.methodLink "Cellmarket$Clearing" 3 Lib.objectInit ∈ hs_ws := hs_w 291 (by decide +kernel) rfl
theorem kw_292 : Cond.fieldLink "Cellmarket$Clearing" 9 "Cellmarket$Clearing" "book" "LCellmarket$Book;" ∈ hs_ws := hs_w 292 (by decide +kernel) rfl
theorem kw_293 : Cond.fieldLink "Cellmarket$Clearing" 15 "Cellmarket$Clearing" "finder" "LCellmarket$Finder;" ∈ hs_ws := hs_w 293 (by decide +kernel) rfl
theorem kw_294 : Cond.laysFinal "Cellmarket$Clearing" "Cellmarket$Clearing" "book" "LCellmarket$Book;" ∈ hs_ws := hs_w 294 (by decide +kernel) rfl
theorem kw_296 : Cond.laysFinal "Cellmarket$Clearing" "Cellmarket$Clearing" "finder" "LCellmarket$Finder;" ∈ hs_ws := hs_w 296 (by decide +kernel) rfl
theorem kw_299 : Cond.classLink "Cellmarket" 41 "Cellmarket$Ledger" ∈ hs_ws := hs_w 299 (by decide +kernel) rfl
theorem kw_300 : Cond.instantiable "Cellmarket$Ledger" 6 ∈ hs_ws := hs_w 300 (by decide +kernel) rfl
theorem kw_301 : Cond.methodLink "Cellmarket" 43 yX6_init ∈ hs_ws := hs_w 301 (by decide +kernel) rfl
theorem kw_302 : Cond.instanceMethod yX6_init ∈ hs_ws := hs_w 302 (by decide +kernel) rfl
theorem kw_303 : Cond.code yX6_init cX6_init 3 none ∈ hs_ws := hs_w 303 (by decide +kernel) rfl
theorem kw_304 : Cond.methodLink "Cellmarket$Ledger" 3 Lib.objectInit ∈ hs_ws := hs_w 304 (by decide +kernel) rfl
theorem kw_305 : Cond.constant "Cellmarket$Ledger" 31 100000 ∈ hs_ws := hs_w 305 (by decide +kernel) rfl
theorem kw_306 : Cond.fieldLink "Cellmarket$Ledger" 27 "Cellmarket$Ledger" "book" "LCellmarket$Book;" ∈ hs_ws := hs_w 306 (by decide +kernel) rfl
theorem kw_307 : Cond.fieldLink "Cellmarket$Ledger" 9 "Cellmarket$Ledger" "settled" "[I" ∈ hs_ws := hs_w 307 (by decide +kernel) rfl
theorem kw_308 : Cond.fieldLink "Cellmarket$Ledger" 15 "Cellmarket$Ledger" "cash" "[I" ∈ hs_ws := hs_w 308 (by decide +kernel) rfl
theorem kw_309 : Cond.fieldLink "Cellmarket" 336 "Cellmarket$Ledger" "cash" "[I" ∈ hs_ws := hs_w 309 (by decide +kernel) rfl
theorem kw_310 : Cond.fieldLink "Cellmarket$Ledger" 18 "Cellmarket$Ledger" "limits" "[I" ∈ hs_ws := hs_w 310 (by decide +kernel) rfl
theorem kw_311 : Cond.fieldLink "Cellmarket" 239 "Cellmarket$Ledger" "limits" "[I" ∈ hs_ws := hs_w 311 (by decide +kernel) rfl
theorem kw_312 : Cond.fieldLink "Cellmarket$Ledger" 21 "Cellmarket$Ledger" "paid" "[I" ∈ hs_ws := hs_w 312 (by decide +kernel) rfl
theorem kw_313 : Cond.fieldLink "Cellmarket$Ledger" 24 "Cellmarket$Ledger" "cut" "[I" ∈ hs_ws := hs_w 313 (by decide +kernel) rfl
theorem kw_314 : Cond.laysFinal "Cellmarket$Ledger" "Cellmarket$Ledger" "book" "LCellmarket$Book;" ∈ hs_ws := hs_w 314 (by decide +kernel) rfl
theorem kw_316 : Cond.laysFinal "Cellmarket$Ledger" "Cellmarket$Ledger" "settled" "[I" ∈ hs_ws := hs_w 316 (by decide +kernel) rfl
theorem kw_318 : Cond.laysFinal "Cellmarket$Ledger" "Cellmarket$Ledger" "cash" "[I" ∈ hs_ws := hs_w 318 (by decide +kernel) rfl
theorem kw_320 : Cond.laysFinal "Cellmarket$Ledger" "Cellmarket$Ledger" "limits" "[I" ∈ hs_ws := hs_w 320 (by decide +kernel) rfl
theorem kw_322 : Cond.laysFinal "Cellmarket$Ledger" "Cellmarket$Ledger" "paid" "[I" ∈ hs_ws := hs_w 322 (by decide +kernel) rfl
theorem kw_324 : Cond.laysFinal "Cellmarket$Ledger" "Cellmarket$Ledger" "cut" "[I" ∈ hs_ws := hs_w 324 (by decide +kernel) rfl
theorem kw_327 : Cond.fieldLink "Cellmarket" 10 "Cellmarket" "sheet" "LCellmarket$Sheet;" ∈ hs_ws := hs_w 327 (by decide +kernel) rfl
theorem kw_328 : Cond.fieldLink "Cellmarket" 19 "Cellmarket" "book" "LCellmarket$Book;" ∈ hs_ws := hs_w 328 (by decide +kernel) rfl
theorem kw_329 : Cond.fieldLink "Cellmarket" 28 "Cellmarket" "finder" "LCellmarket$Finder;" ∈ hs_ws := hs_w 329 (by decide +kernel) rfl
theorem kw_330 : Cond.fieldLink "Cellmarket" 37 "Cellmarket" "clearing" "LCellmarket$Clearing;" ∈ hs_ws := hs_w 330 (by decide +kernel) rfl
theorem kw_331 : Cond.fieldLink "Cellmarket" 46 "Cellmarket" "ledger" "LCellmarket$Ledger;" ∈ hs_ws := hs_w 331 (by decide +kernel) rfl
theorem kw_332 : Cond.fieldLink "Cellmarket" 50 "Cellmarket" "eventCount" "I" ∈ hs_ws := hs_w 332 (by decide +kernel) rfl
theorem kw_333 : Cond.laysFinal "Cellmarket" "Cellmarket" "sheet" "LCellmarket$Sheet;" ∈ hs_ws := hs_w 333 (by decide +kernel) rfl
theorem kw_335 : Cond.laysFinal "Cellmarket" "Cellmarket" "book" "LCellmarket$Book;" ∈ hs_ws := hs_w 335 (by decide +kernel) rfl
theorem kw_337 : Cond.laysFinal "Cellmarket" "Cellmarket" "finder" "LCellmarket$Finder;" ∈ hs_ws := hs_w 337 (by decide +kernel) rfl
theorem kw_339 : Cond.laysFinal "Cellmarket" "Cellmarket" "clearing" "LCellmarket$Clearing;" ∈ hs_ws := hs_w 339 (by decide +kernel) rfl
theorem kw_341 : Cond.laysFinal "Cellmarket" "Cellmarket" "ledger" "LCellmarket$Ledger;" ∈ hs_ws := hs_w 341 (by decide +kernel) rfl
theorem kw_343 : Cond.lays "Cellmarket" "Cellmarket" "eventCount" "I" ∈ hs_ws := hs_w 343 (by decide +kernel) rfl
theorem kw_346 : Cond.methodLink "CellmarketLaw" 54 yX10_edits ∈ hs_ws := hs_w 346 (by decide +kernel) rfl
theorem kw_347 : Cond.instanceMethod yX10_edits ∈ hs_ws := hs_w 347 (by decide +kernel) rfl
theorem kw_348 : Cond.selects "Cellmarket" yX10_edits yX10_edits ∈ hs_ws := hs_w 348 (by decide +kernel) rfl
theorem kw_349 : Cond.code yX10_edits cX10_edits 3 (some FieldType.int) ∈ hs_ws := hs_w 349 (by decide +kernel) rfl
theorem kw_350 : Cond.methodLink "Cellmarket" 58 yX10_cellAt ∈ hs_ws := hs_w 350 (by decide +kernel) rfl
theorem kw_351 : Cond.static yX10_cellAt ∈ hs_ws := hs_w 351 (by decide +kernel) rfl
theorem kw_352 : Cond.code yX10_cellAt cX10_cellAt 2 (some FieldType.int) ∈ hs_ws := hs_w 352 (by decide +kernel) rfl
theorem kw_353 : Cond.methodLink "Cellmarket" 149 yX10_needColumn ∈ hs_ws := hs_w 353 (by decide +kernel) rfl
theorem kw_354 : Cond.static yX10_needColumn ∈ hs_ws := hs_w 354 (by decide +kernel) rfl
theorem kw_355 : Cond.code yX10_needColumn cX10_needColumn 1 none ∈ hs_ws := hs_w 355 (by decide +kernel) rfl
theorem kw_356 : Cond.classLink "Cellmarket" 177 "java/lang/IndexOutOfBoundsException" ∈ hs_ws := hs_w 356 (by decide +kernel) rfl
theorem kw_358 : Cond.castable "java/lang/IndexOutOfBoundsException" "java/lang/IndexOutOfBoundsException" ∈ hs_ws := hs_w 358 (by decide +kernel) rfl
theorem kw_425 : Cond.methodLink "Cellmarket" 170 yX9_countOf ∈ hs_ws := hs_w 425 (by decide +kernel) rfl
theorem kw_426 : Cond.instanceMethod yX9_countOf ∈ hs_ws := hs_w 426 (by decide +kernel) rfl
theorem kw_427 : Cond.selects "Cellmarket$Sheet" yX9_countOf yX9_countOf ∈ hs_ws := hs_w 427 (by decide +kernel) rfl
theorem kw_428 : Cond.code yX9_countOf cX9_countOf 4 (some FieldType.int) ∈ hs_ws := hs_w 428 (by decide +kernel) rfl
theorem kw_430 : Cond.methodLink "Cellmarket$Sheet" 39 ⟨"java/util/List", "size", "()I"⟩ ∈ hs_ws := hs_w 430 (by decide +kernel) rfl
theorem kw_440 : Cond.methodLink "Cellmarket$Sheet" 60 ⟨"java/util/List", "get", "(I)Ljava/lang/Object;"⟩ ∈ hs_ws := hs_w 440 (by decide +kernel) rfl
theorem kw_458 : Cond.classLink "Cellmarket$Sheet" 51 "Cellmarket$Edit" ∈ hs_ws := hs_w 458 (by decide +kernel) rfl
theorem kw_459 : Cond.methodLink "CellmarketLaw" 88 yX10_due ∈ hs_ws := hs_w 459 (by decide +kernel) rfl
theorem kw_460 : Cond.instanceMethod yX10_due ∈ hs_ws := hs_w 460 (by decide +kernel) rfl
theorem kw_461 : Cond.selects "Cellmarket" yX10_due yX10_due ∈ hs_ws := hs_w 461 (by decide +kernel) rfl
theorem kw_462 : Cond.code yX10_due cX10_due 3 (some FieldType.int) ∈ hs_ws := hs_w 462 (by decide +kernel) rfl
theorem kw_463 : Cond.methodLink "Cellmarket" 54 yX10_needOwner ∈ hs_ws := hs_w 463 (by decide +kernel) rfl
theorem kw_464 : Cond.static yX10_needOwner ∈ hs_ws := hs_w 464 (by decide +kernel) rfl
theorem kw_465 : Cond.code yX10_needOwner cX10_needOwner 1 none ∈ hs_ws := hs_w 465 (by decide +kernel) rfl
theorem kw_467 : Cond.methodLink "Cellmarket" 330 yX6_dueOf ∈ hs_ws := hs_w 467 (by decide +kernel) rfl
theorem kw_468 : Cond.instanceMethod yX6_dueOf ∈ hs_ws := hs_w 468 (by decide +kernel) rfl
theorem kw_469 : Cond.selects "Cellmarket$Ledger" yX6_dueOf yX6_dueOf ∈ hs_ws := hs_w 469 (by decide +kernel) rfl
theorem kw_470 : Cond.code yX6_dueOf cX6_dueOf 3 (some FieldType.int) ∈ hs_ws := hs_w 470 (by decide +kernel) rfl
theorem kw_471 : Cond.methodLink "Cellmarket$Ledger" 32 yX1_owedBy ∈ hs_ws := hs_w 471 (by decide +kernel) rfl
theorem kw_472 : Cond.instanceMethod yX1_owedBy ∈ hs_ws := hs_w 472 (by decide +kernel) rfl
theorem kw_473 : Cond.selects "Cellmarket$Book" yX1_owedBy yX1_owedBy ∈ hs_ws := hs_w 473 (by decide +kernel) rfl
theorem kw_474 : Cond.code yX1_owedBy cX1_owedBy 6 (some FieldType.int) ∈ hs_ws := hs_w 474 (by decide +kernel) rfl
theorem kw_476 : Cond.methodLink "Cellmarket$Book" 34 ⟨"java/util/List", "size", "()I"⟩ ∈ hs_ws := hs_w 476 (by decide +kernel) rfl
theorem kw_478 : Cond.methodLink "Cellmarket$Book" 50 ⟨"java/util/List", "get", "(I)Ljava/lang/Object;"⟩ ∈ hs_ws := hs_w 478 (by decide +kernel) rfl
theorem kw_479 : Cond.classLink "Cellmarket$Book" 54 "Cellmarket$Bid" ∈ hs_ws := hs_w 479 (by decide +kernel) rfl
theorem kw_480 : Cond.methodLink "Cellmarket$Book" 66 yX0_owed ∈ hs_ws := hs_w 480 (by decide +kernel) rfl
theorem kw_481 : Cond.instanceMethod yX0_owed ∈ hs_ws := hs_w 481 (by decide +kernel) rfl
theorem kw_482 : Cond.selects "Cellmarket$Bid" yX0_owed yX0_owed ∈ hs_ws := hs_w 482 (by decide +kernel) rfl
theorem kw_483 : Cond.code yX0_owed cX0_owed 1 (some FieldType.int) ∈ hs_ws := hs_w 483 (by decide +kernel) rfl
theorem kw_484 : Cond.methodLink "Cellmarket$Bid" 53 yX0_worth ∈ hs_ws := hs_w 484 (by decide +kernel) rfl
theorem kw_485 : Cond.instanceMethod yX0_worth ∈ hs_ws := hs_w 485 (by decide +kernel) rfl
theorem kw_486 : Cond.selects "Cellmarket$Bid" yX0_worth yX0_worth ∈ hs_ws := hs_w 486 (by decide +kernel) rfl
theorem kw_487 : Cond.code yX0_worth cX0_worth 1 (some FieldType.int) ∈ hs_ws := hs_w 487 (by decide +kernel) rfl
theorem kw_488 : Cond.methodLink "Cellmarket$Bid" 60 yX0_feePaid ∈ hs_ws := hs_w 488 (by decide +kernel) rfl
theorem kw_489 : Cond.instanceMethod yX0_feePaid ∈ hs_ws := hs_w 489 (by decide +kernel) rfl
theorem kw_490 : Cond.selects "Cellmarket$Bid" yX0_feePaid yX0_feePaid ∈ hs_ws := hs_w 490 (by decide +kernel) rfl
theorem kw_491 : Cond.code yX0_feePaid cX0_feePaid 1 (some FieldType.int) ∈ hs_ws := hs_w 491 (by decide +kernel) rfl
theorem kw_492 : Cond.methodLink "Cellmarket$Book" 69 yX8_feeOwner ∈ hs_ws := hs_w 492 (by decide +kernel) rfl
theorem kw_493 : Cond.instanceMethod yX8_feeOwner ∈ hs_ws := hs_w 493 (by decide +kernel) rfl
theorem kw_494 : Cond.selects "Cellmarket$Round" yX8_feeOwner yX8_feeOwner ∈ hs_ws := hs_w 494 (by decide +kernel) rfl
theorem kw_495 : Cond.code yX8_feeOwner cX8_feeOwner 1 (some FieldType.int) ∈ hs_ws := hs_w 495 (by decide +kernel) rfl
theorem kw_496 : Cond.methodLink "Cellmarket$Book" 60 yX0_feePaid ∈ hs_ws := hs_w 496 (by decide +kernel) rfl
theorem kw_497 : Cond.methodLink "CellmarketLaw" 158 yL_cell ∈ hs_ws := hs_w 497 (by decide +kernel) rfl
theorem kw_498 : Cond.static yL_cell ∈ hs_ws := hs_w 498 (by decide +kernel) rfl
set_option maxRecDepth 100000 in
theorem kw_499 : Cond.code yL_cell cL_cell 3 (some FieldType.int) ∈ hs_ws := hs_w 499 (by rfl) rfl
theorem kw_500 : Cond.constant "CellmarketLaw" 7 90017 ∈ hs_ws := hs_w 500 (by decide +kernel) rfl
theorem kw_501 : Cond.constant "CellmarketLaw" 8 952559949 ∈ hs_ws := hs_w 501 (by decide +kernel) rfl
theorem kw_502 : Cond.methodLink "CellmarketLaw" 136 yL_some ∈ hs_ws := hs_w 502 (by decide +kernel) rfl
theorem kw_503 : Cond.static yL_some ∈ hs_ws := hs_w 503 (by decide +kernel) rfl
set_option maxRecDepth 100000 in
theorem kw_504 : Cond.code yL_some cL_some 2 (some FieldType.int) ∈ hs_ws := hs_w 504 (by rfl) rfl
theorem kw_505 : Cond.methodLink "CellmarketLaw" 132 yL_call ∈ hs_ws := hs_w 505 (by decide +kernel) rfl
theorem kw_506 : Cond.static yL_call ∈ hs_ws := hs_w 506 (by decide +kernel) rfl
set_option maxRecDepth 100000 in
theorem kw_507 : Cond.codeWith yL_call cL_call 6 (some FieldType.int) [(0, 9, 10, 15), (0, 9, 15, 18), (0, 9, 20, 21)] ∈ hs_ws := hs_w 507 (by rfl) rfl
theorem kw_508 : Cond.classLink "CellmarketLaw" 15 "java/lang/IndexOutOfBoundsException" ∈ hs_ws := hs_w 508 (by decide +kernel) rfl
theorem kw_509 : Cond.classLink "CellmarketLaw" 18 "java/lang/IllegalArgumentException" ∈ hs_ws := hs_w 509 (by decide +kernel) rfl
theorem kw_510 : Cond.classLink "CellmarketLaw" 21 "java/lang/IllegalStateException" ∈ hs_ws := hs_w 510 (by decide +kernel) rfl
theorem kw_511 : Cond.methodLink "CellmarketLaw" 9 yL_does ∈ hs_ws := hs_w 511 (by decide +kernel) rfl
theorem kw_512 : Cond.static yL_does ∈ hs_ws := hs_w 512 (by decide +kernel) rfl
set_option maxRecDepth 100000 in
theorem kw_513 : Cond.code yL_does cL_does 5 (some FieldType.int) ∈ hs_ws := hs_w 513 (by rfl) rfl
theorem kw_514 : Cond.methodLink "CellmarketLaw" 24 yX10_give ∈ hs_ws := hs_w 514 (by decide +kernel) rfl
theorem kw_515 : Cond.instanceMethod yX10_give ∈ hs_ws := hs_w 515 (by decide +kernel) rfl
theorem kw_516 : Cond.selects "Cellmarket" yX10_give yX10_give ∈ hs_ws := hs_w 516 (by decide +kernel) rfl
theorem kw_517 : Cond.code yX10_give cX10_give 6 (some FieldType.int) ∈ hs_ws := hs_w 517 (by decide +kernel) rfl
theorem kw_518 : Cond.methodLink "Cellmarket" 62 yX10_needOwnCell ∈ hs_ws := hs_w 518 (by decide +kernel) rfl
theorem kw_520 : Cond.instanceMethod yX10_needOwnCell ∈ hs_ws := hs_w 520 (by decide +kernel) rfl
theorem kw_521 : Cond.code yX10_needOwnCell cX10_needOwnCell 3 none ∈ hs_ws := hs_w 521 (by decide +kernel) rfl
theorem kw_522 : Cond.classLink "Cellmarket" 116 "java/lang/IllegalStateException" ∈ hs_ws := hs_w 522 (by decide +kernel) rfl
theorem kw_524 : Cond.castable "java/lang/IllegalStateException" "java/lang/IllegalStateException" ∈ hs_ws := hs_w 524 (by decide +kernel) rfl
theorem kw_538 : Cond.methodLink "Cellmarket" 76 yX7_ownedBy ∈ hs_ws := hs_w 538 (by decide +kernel) rfl
theorem kw_539 : Cond.instanceMethod yX7_ownedBy ∈ hs_ws := hs_w 539 (by decide +kernel) rfl
theorem kw_540 : Cond.selects "Cellmarket$Rights" yX7_ownedBy yX7_ownedBy ∈ hs_ws := hs_w 540 (by decide +kernel) rfl
theorem kw_541 : Cond.code yX7_ownedBy cX7_ownedBy 4 (some FieldType.int) ∈ hs_ws := hs_w 541 (by decide +kernel) rfl
theorem kw_542 : Cond.methodLink "CellmarketLaw" 30 yX10_let ∈ hs_ws := hs_w 542 (by decide +kernel) rfl
theorem kw_543 : Cond.instanceMethod yX10_let ∈ hs_ws := hs_w 543 (by decide +kernel) rfl
theorem kw_544 : Cond.selects "Cellmarket" yX10_let yX10_let ∈ hs_ws := hs_w 544 (by decide +kernel) rfl
theorem kw_545 : Cond.code yX10_let cX10_let 9 (some FieldType.int) ∈ hs_ws := hs_w 545 (by decide +kernel) rfl
theorem kw_546 : Cond.classLink "Cellmarket" 80 "java/lang/IllegalArgumentException" ∈ hs_ws := hs_w 546 (by decide +kernel) rfl
theorem kw_548 : Cond.castable "java/lang/IllegalArgumentException" "java/lang/IllegalArgumentException" ∈ hs_ws := hs_w 548 (by decide +kernel) rfl
theorem kw_563 : Cond.methodLink "Cellmarket" 89 yX7_letRead ∈ hs_ws := hs_w 563 (by decide +kernel) rfl
theorem kw_564 : Cond.instanceMethod yX7_letRead ∈ hs_ws := hs_w 564 (by decide +kernel) rfl
theorem kw_565 : Cond.selects "Cellmarket$Rights" yX7_letRead yX7_letRead ∈ hs_ws := hs_w 565 (by decide +kernel) rfl
theorem kw_566 : Cond.code yX7_letRead cX7_letRead 8 (some FieldType.int) ∈ hs_ws := hs_w 566 (by decide +kernel) rfl
theorem kw_567 : Cond.methodLink "CellmarketLaw" 34 yX10_word ∈ hs_ws := hs_w 567 (by decide +kernel) rfl
theorem kw_568 : Cond.instanceMethod yX10_word ∈ hs_ws := hs_w 568 (by decide +kernel) rfl
theorem kw_569 : Cond.selects "Cellmarket" yX10_word yX10_word ∈ hs_ws := hs_w 569 (by decide +kernel) rfl
theorem kw_570 : Cond.code yX10_word cX10_word 4 (some FieldType.int) ∈ hs_ws := hs_w 570 (by decide +kernel) rfl
theorem kw_572 : Cond.constant "Cellmarket" 99 (-1000000) ∈ hs_ws := hs_w 572 (by decide +kernel) rfl
theorem kw_573 : Cond.constant "Cellmarket" 100 1000000 ∈ hs_ws := hs_w 573 (by decide +kernel) rfl
theorem kw_576 : Cond.methodLink "Cellmarket" 124 yX10_taken ∈ hs_ws := hs_w 576 (by decide +kernel) rfl
theorem kw_577 : Cond.static yX10_taken ∈ hs_ws := hs_w 577 (by decide +kernel) rfl
theorem kw_578 : Cond.code yX10_taken cX10_taken 1 (some FieldType.int) ∈ hs_ws := hs_w 578 (by decide +kernel) rfl
theorem kw_580 : Cond.methodLink "Cellmarket" 129 yX5_append ∈ hs_ws := hs_w 580 (by decide +kernel) rfl
theorem kw_581 : Cond.instanceMethod yX5_append ∈ hs_ws := hs_w 581 (by decide +kernel) rfl
theorem kw_582 : Cond.selects "Cellmarket$Formula" yX5_append yX5_append ∈ hs_ws := hs_w 582 (by decide +kernel) rfl
theorem kw_583 : Cond.code yX5_append cX5_append 4 none ∈ hs_ws := hs_w 583 (by decide +kernel) rfl
theorem kw_584 : Cond.methodLinkNest "Cellmarket$Formula" 28 yX10_taken "Cellmarket" ∈ hs_ws := hs_w 584 (by decide +kernel) rfl
theorem kw_585 : Cond.methodLink "CellmarketLaw" 38 yX10_enter ∈ hs_ws := hs_w 585 (by decide +kernel) rfl
theorem kw_586 : Cond.instanceMethod yX10_enter ∈ hs_ws := hs_w 586 (by decide +kernel) rfl
theorem kw_587 : Cond.selects "Cellmarket" yX10_enter yX10_enter ∈ hs_ws := hs_w 587 (by decide +kernel) rfl
theorem kw_588 : Cond.code yX10_enter cX10_enter 6 (some FieldType.int) ∈ hs_ws := hs_w 588 (by decide +kernel) rfl
theorem kw_589 : Cond.methodLink "Cellmarket" 136 yX10_needEditable ∈ hs_ws := hs_w 589 (by decide +kernel) rfl
theorem kw_591 : Cond.instanceMethod yX10_needEditable ∈ hs_ws := hs_w 591 (by decide +kernel) rfl
theorem kw_592 : Cond.code yX10_needEditable cX10_needEditable 3 none ∈ hs_ws := hs_w 592 (by decide +kernel) rfl
theorem kw_593 : Cond.methodLink "Cellmarket" 216 yX8_wasFrozen ∈ hs_ws := hs_w 593 (by decide +kernel) rfl
theorem kw_594 : Cond.instanceMethod yX8_wasFrozen ∈ hs_ws := hs_w 594 (by decide +kernel) rfl
theorem kw_595 : Cond.selects "Cellmarket$Round" yX8_wasFrozen yX8_wasFrozen ∈ hs_ws := hs_w 595 (by decide +kernel) rfl
theorem kw_596 : Cond.code yX8_wasFrozen cX8_wasFrozen 1 (some FieldType.boolean) ∈ hs_ws := hs_w 596 (by decide +kernel) rfl
theorem kw_599 : Cond.methodLink "Cellmarket" 228 ⟨"java/util/List", "size", "()I"⟩ ∈ hs_ws := hs_w 599 (by decide +kernel) rfl
theorem kw_602 : Cond.methodLink "Cellmarket" 141 yX9_tell ∈ hs_ws := hs_w 602 (by decide +kernel) rfl
theorem kw_603 : Cond.instanceMethod yX9_tell ∈ hs_ws := hs_w 603 (by decide +kernel) rfl
theorem kw_604 : Cond.selects "Cellmarket$Sheet" yX9_tell yX9_tell ∈ hs_ws := hs_w 604 (by decide +kernel) rfl
theorem kw_605 : Cond.code yX9_tell cX9_tell 7 (some FieldType.int) ∈ hs_ws := hs_w 605 (by decide +kernel) rfl
theorem kw_606 : Cond.methodLink "Cellmarket$Sheet" 45 yJ9_max_7cf53 ∈ hs_ws := hs_w 606 (by decide +kernel) rfl
theorem kw_607 : Cond.static yJ9_max_7cf53 ∈ hs_ws := hs_w 607 (by decide +kernel) rfl
theorem kw_608 : Cond.code yJ9_max_7cf53 cJ9_max_7cf53 2 (some FieldType.int) ∈ hs_ws := hs_w 608 (by decide +kernel) rfl
theorem kw_609 : Cond.instantiable "Cellmarket$Edit" 7 ∈ hs_ws := hs_w 609 (by decide +kernel) rfl
theorem kw_610 : Cond.methodLink "Cellmarket$Sheet" 53 yX3_init ∈ hs_ws := hs_w 610 (by decide +kernel) rfl
theorem kw_611 : Cond.instanceMethod yX3_init ∈ hs_ws := hs_w 611 (by decide +kernel) rfl
theorem kw_612 : Cond.code yX3_init cX3_init 7 none ∈ hs_ws := hs_w 612 (by decide +kernel) rfl
theorem kw_613 : Cond.methodLink "Cellmarket$Edit" 1 Lib.objectInit ∈ hs_ws := hs_w 613 (by decide +kernel) rfl
theorem kw_614 : Cond.fieldLink "Cellmarket$Edit" 13 "Cellmarket$Edit" "number" "I" ∈ hs_ws := hs_w 614 (by decide +kernel) rfl
theorem kw_615 : Cond.fieldLink "Cellmarket" 182 "Cellmarket$Edit" "number" "I" ∈ hs_ws := hs_w 615 (by decide +kernel) rfl
theorem kw_616 : Cond.fieldLink "Cellmarket$Edit" 17 "Cellmarket$Edit" "cell" "I" ∈ hs_ws := hs_w 616 (by decide +kernel) rfl
theorem kw_617 : Cond.fieldLink "Cellmarket$Finder" 78 "Cellmarket$Edit" "cell" "I" ∈ hs_ws := hs_w 617 (by decide +kernel) rfl
theorem kw_618 : Cond.fieldLink "Cellmarket$Sheet" 64 "Cellmarket$Edit" "cell" "I" ∈ hs_ws := hs_w 618 (by decide +kernel) rfl
theorem kw_619 : Cond.fieldLink "Cellmarket$Edit" 20 "Cellmarket$Edit" "teller" "I" ∈ hs_ws := hs_w 619 (by decide +kernel) rfl
theorem kw_620 : Cond.fieldLink "Cellmarket" 193 "Cellmarket$Edit" "teller" "I" ∈ hs_ws := hs_w 620 (by decide +kernel) rfl
theorem kw_621 : Cond.fieldLink "Cellmarket$Edit" 23 "Cellmarket$Edit" "told" "I" ∈ hs_ws := hs_w 621 (by decide +kernel) rfl
theorem kw_622 : Cond.fieldLink "Cellmarket" 187 "Cellmarket$Edit" "told" "I" ∈ hs_ws := hs_w 622 (by decide +kernel) rfl
theorem kw_623 : Cond.fieldLink "Cellmarket$Edit" 26 "Cellmarket$Edit" "from" "I" ∈ hs_ws := hs_w 623 (by decide +kernel) rfl
theorem kw_624 : Cond.fieldLink "Cellmarket" 190 "Cellmarket$Edit" "from" "I" ∈ hs_ws := hs_w 624 (by decide +kernel) rfl
theorem kw_625 : Cond.fieldLink "Cellmarket$Edit" 29 "Cellmarket$Edit" "formula" "LCellmarket$Formula;" ∈ hs_ws := hs_w 625 (by decide +kernel) rfl
theorem kw_626 : Cond.fieldLink "Cellmarket$Finder" 81 "Cellmarket$Edit" "formula" "LCellmarket$Formula;" ∈ hs_ws := hs_w 626 (by decide +kernel) rfl
theorem kw_627 : Cond.fieldLink "Cellmarket" 196 "Cellmarket$Edit" "formula" "LCellmarket$Formula;" ∈ hs_ws := hs_w 627 (by decide +kernel) rfl
theorem kw_628 : Cond.fieldLink "Cellmarket$Edit" 7 "Cellmarket$Edit" "isStruck" "Z" ∈ hs_ws := hs_w 628 (by decide +kernel) rfl
theorem kw_629 : Cond.fieldLink "Cellmarket" 199 "Cellmarket$Edit" "isStruck" "Z" ∈ hs_ws := hs_w 629 (by decide +kernel) rfl
theorem kw_630 : Cond.laysFinal "Cellmarket$Edit" "Cellmarket$Edit" "number" "I" ∈ hs_ws := hs_w 630 (by decide +kernel) rfl
theorem kw_632 : Cond.laysFinal "Cellmarket$Edit" "Cellmarket$Edit" "cell" "I" ∈ hs_ws := hs_w 632 (by decide +kernel) rfl
theorem kw_634 : Cond.laysFinal "Cellmarket$Edit" "Cellmarket$Edit" "teller" "I" ∈ hs_ws := hs_w 634 (by decide +kernel) rfl
theorem kw_636 : Cond.laysFinal "Cellmarket$Edit" "Cellmarket$Edit" "told" "I" ∈ hs_ws := hs_w 636 (by decide +kernel) rfl
theorem kw_638 : Cond.laysFinal "Cellmarket$Edit" "Cellmarket$Edit" "from" "I" ∈ hs_ws := hs_w 638 (by decide +kernel) rfl
theorem kw_640 : Cond.laysFinal "Cellmarket$Edit" "Cellmarket$Edit" "formula" "LCellmarket$Formula;" ∈ hs_ws := hs_w 640 (by decide +kernel) rfl
theorem kw_642 : Cond.lays "Cellmarket$Edit" "Cellmarket$Edit" "isStruck" "Z" ∈ hs_ws := hs_w 642 (by decide +kernel) rfl
theorem kw_646 : Cond.methodLink "Cellmarket$Sheet" 56 ⟨"java/util/List", "add", "(Ljava/lang/Object;)Z"⟩ ∈ hs_ws := hs_w 646 (by decide +kernel) rfl
theorem kw_703 : Cond.static yJ9_min_7cf53 ∈ hs_ws := hs_w 703 (by decide +kernel) rfl
theorem kw_704 : Cond.code yJ9_min_7cf53 cJ9_min_7cf53 2 (some FieldType.int) ∈ hs_ws := hs_w 704 (by decide +kernel) rfl
theorem kw_706 : Cond.static arraycopyName ∈ hs_ws := hs_w 706 (by decide +kernel) rfl
theorem kw_707 : Cond.native arraycopyName ∈ hs_ws := hs_w 707 (by decide +kernel) rfl
theorem kw_710 : Cond.classLink "Cellmarket" 112 "Cellmarket$Formula" ∈ hs_ws := hs_w 710 (by decide +kernel) rfl
theorem kw_711 : Cond.methodLinkNest "Cellmarket" 145 yX5_init "Cellmarket" ∈ hs_ws := hs_w 711 (by decide +kernel) rfl
theorem kw_712 : Cond.methodLink "CellmarketLaw" 41 yX10_empty ∈ hs_ws := hs_w 712 (by decide +kernel) rfl
theorem kw_713 : Cond.instanceMethod yX10_empty ∈ hs_ws := hs_w 713 (by decide +kernel) rfl
theorem kw_714 : Cond.selects "Cellmarket" yX10_empty yX10_empty ∈ hs_ws := hs_w 714 (by decide +kernel) rfl
theorem kw_715 : Cond.code yX10_empty cX10_empty 6 (some FieldType.int) ∈ hs_ws := hs_w 715 (by decide +kernel) rfl
theorem kw_716 : Cond.methodLink "CellmarketLaw" 44 yX10_notice ∈ hs_ws := hs_w 716 (by decide +kernel) rfl
theorem kw_717 : Cond.instanceMethod yX10_notice ∈ hs_ws := hs_w 717 (by decide +kernel) rfl
theorem kw_718 : Cond.selects "Cellmarket" yX10_notice yX10_notice ∈ hs_ws := hs_w 718 (by decide +kernel) rfl
theorem kw_719 : Cond.code yX10_notice cX10_notice 4 (some FieldType.int) ∈ hs_ws := hs_w 719 (by decide +kernel) rfl
theorem kw_721 : Cond.methodLink "CellmarketLaw" 48 yX10_value ∈ hs_ws := hs_w 721 (by decide +kernel) rfl
theorem kw_722 : Cond.instanceMethod yX10_value ∈ hs_ws := hs_w 722 (by decide +kernel) rfl
theorem kw_723 : Cond.selects "Cellmarket" yX10_value yX10_value ∈ hs_ws := hs_w 723 (by decide +kernel) rfl
theorem kw_724 : Cond.code yX10_value cX10_value 5 (some FieldType.int) ∈ hs_ws := hs_w 724 (by decide +kernel) rfl
theorem kw_725 : Cond.methodLink "Cellmarket" 157 yX10_needReader ∈ hs_ws := hs_w 725 (by decide +kernel) rfl
theorem kw_727 : Cond.instanceMethod yX10_needReader ∈ hs_ws := hs_w 727 (by decide +kernel) rfl
theorem kw_728 : Cond.code yX10_needReader cX10_needReader 3 none ∈ hs_ws := hs_w 728 (by decide +kernel) rfl
theorem kw_729 : Cond.methodLink "Cellmarket" 93 yX7_canRead ∈ hs_ws := hs_w 729 (by decide +kernel) rfl
theorem kw_730 : Cond.instanceMethod yX7_canRead ∈ hs_ws := hs_w 730 (by decide +kernel) rfl
theorem kw_731 : Cond.selects "Cellmarket$Rights" yX7_canRead yX7_canRead ∈ hs_ws := hs_w 731 (by decide +kernel) rfl
theorem kw_732 : Cond.code yX7_canRead cX7_canRead 3 (some FieldType.boolean) ∈ hs_ws := hs_w 732 (by decide +kernel) rfl
theorem kw_734 : Cond.methodLink "Cellmarket" 160 yX4_goTo ∈ hs_ws := hs_w 734 (by decide +kernel) rfl
theorem kw_735 : Cond.instanceMethod yX4_goTo ∈ hs_ws := hs_w 735 (by decide +kernel) rfl
theorem kw_736 : Cond.selects "Cellmarket$Finder" yX4_goTo yX4_goTo ∈ hs_ws := hs_w 736 (by decide +kernel) rfl
theorem kw_737 : Cond.code yX4_goTo cX4_goTo 5 none ∈ hs_ws := hs_w 737 (by decide +kernel) rfl
theorem kw_739 : Cond.methodLink "Cellmarket$Finder" 62 ⟨"java/util/List", "size", "()I"⟩ ∈ hs_ws := hs_w 739 (by decide +kernel) rfl
theorem kw_741 : Cond.methodLink "Cellmarket$Finder" 68 ⟨"java/util/List", "get", "(I)Ljava/lang/Object;"⟩ ∈ hs_ws := hs_w 741 (by decide +kernel) rfl
theorem kw_742 : Cond.classLink "Cellmarket$Finder" 72 "Cellmarket$Edit" ∈ hs_ws := hs_w 742 (by decide +kernel) rfl
theorem kw_743 : Cond.methodLink "Cellmarket$Finder" 74 yX3_countsAt ∈ hs_ws := hs_w 743 (by decide +kernel) rfl
theorem kw_744 : Cond.instanceMethod yX3_countsAt ∈ hs_ws := hs_w 744 (by decide +kernel) rfl
theorem kw_745 : Cond.selects "Cellmarket$Edit" yX3_countsAt yX3_countsAt ∈ hs_ws := hs_w 745 (by decide +kernel) rfl
theorem kw_746 : Cond.code yX3_countsAt cX3_countsAt 2 (some FieldType.boolean) ∈ hs_ws := hs_w 746 (by decide +kernel) rfl
theorem kw_747 : Cond.methodLink "Cellmarket$Finder" 84 yX4_forgetFacts ∈ hs_ws := hs_w 747 (by decide +kernel) rfl
theorem kw_749 : Cond.instanceMethod yX4_forgetFacts ∈ hs_ws := hs_w 749 (by decide +kernel) rfl
theorem kw_750 : Cond.code yX4_forgetFacts cX4_forgetFacts 3 none ∈ hs_ws := hs_w 750 (by decide +kernel) rfl
theorem kw_751 : Cond.classLink "Cellmarket$Finder" 92 "Cellmarket$Bid" ∈ hs_ws := hs_w 751 (by decide +kernel) rfl
theorem kw_752 : Cond.methodLink "Cellmarket$Finder" 94 yX0_standsAt ∈ hs_ws := hs_w 752 (by decide +kernel) rfl
theorem kw_753 : Cond.instanceMethod yX0_standsAt ∈ hs_ws := hs_w 753 (by decide +kernel) rfl
theorem kw_754 : Cond.selects "Cellmarket$Bid" yX0_standsAt yX0_standsAt ∈ hs_ws := hs_w 754 (by decide +kernel) rfl
theorem kw_755 : Cond.code yX0_standsAt cX0_standsAt 2 (some FieldType.boolean) ∈ hs_ws := hs_w 755 (by decide +kernel) rfl
theorem kw_756 : Cond.methodLink "Cellmarket$Finder" 97 yX4_addBid ∈ hs_ws := hs_w 756 (by decide +kernel) rfl
theorem kw_758 : Cond.instanceMethod yX4_addBid ∈ hs_ws := hs_w 758 (by decide +kernel) rfl
theorem kw_759 : Cond.code yX4_addBid cX4_addBid 4 none ∈ hs_ws := hs_w 759 (by decide +kernel) rfl
theorem kw_760 : Cond.methodLink "Cellmarket$Finder" 132 yJ9_max_7cf53 ∈ hs_ws := hs_w 760 (by decide +kernel) rfl
theorem kw_761 : Cond.methodLink "Cellmarket$Finder" 138 yJ9_min_7cf53 ∈ hs_ws := hs_w 761 (by decide +kernel) rfl
theorem kw_762 : Cond.classLink "Cellmarket$Finder" 104 "Cellmarket$Round" ∈ hs_ws := hs_w 762 (by decide +kernel) rfl
theorem kw_763 : Cond.methodLink "Cellmarket" 164 yX4_numberOf ∈ hs_ws := hs_w 763 (by decide +kernel) rfl
theorem kw_764 : Cond.instanceMethod yX4_numberOf ∈ hs_ws := hs_w 764 (by decide +kernel) rfl
theorem kw_765 : Cond.selects "Cellmarket$Finder" yX4_numberOf yX4_numberOf ∈ hs_ws := hs_w 765 (by decide +kernel) rfl
theorem kw_766 : Cond.code yX4_numberOf cX4_numberOf 2 (some FieldType.int) ∈ hs_ws := hs_w 766 (by decide +kernel) rfl
theorem kw_767 : Cond.methodLink "Cellmarket$Finder" 117 yX4_find ∈ hs_ws := hs_w 767 (by decide +kernel) rfl
theorem kw_769 : Cond.instanceMethod yX4_find ∈ hs_ws := hs_w 769 (by decide +kernel) rfl
theorem kw_770 : Cond.code yX4_find cX4_find 3 (some FieldType.int) ∈ hs_ws := hs_w 770 (by decide +kernel) rfl
theorem kw_771 : Cond.methodLink "Cellmarket$Finder" 141 yX4_goThrough ∈ hs_ws := hs_w 771 (by decide +kernel) rfl
theorem kw_773 : Cond.instanceMethod yX4_goThrough ∈ hs_ws := hs_w 773 (by decide +kernel) rfl
theorem kw_774 : Cond.code yX4_goThrough cX4_goThrough 9 (some FieldType.int) ∈ hs_ws := hs_w 774 (by decide +kernel) rfl
theorem kw_775 : Cond.methodLinkNest "Cellmarket$Finder" 148 yX10_taken "Cellmarket" ∈ hs_ws := hs_w 775 (by decide +kernel) rfl
theorem kw_776 : Cond.methodLink "Cellmarket$Finder" 155 yX4_reckonWord ∈ hs_ws := hs_w 776 (by decide +kernel) rfl
theorem kw_778 : Cond.instanceMethod yX4_reckonWord ∈ hs_ws := hs_w 778 (by decide +kernel) rfl
theorem kw_779 : Cond.code yX4_reckonWord cX4_reckonWord 12 (some FieldType.int) ∈ hs_ws := hs_w 779 (by decide +kernel) rfl
theorem kw_780 : Cond.constantLong "Cellmarket$Finder" 171 (-1000000000) ∈ hs_ws := hs_w 780 (by decide +kernel) rfl
theorem kw_781 : Cond.constantLong "Cellmarket$Finder" 173 1000000000 ∈ hs_ws := hs_w 781 (by decide +kernel) rfl
theorem kw_782 : Cond.methodLink "Cellmarket$Finder" 167 yX7_canRead ∈ hs_ws := hs_w 782 (by decide +kernel) rfl
theorem kw_783 : Cond.methodLink "CellmarketLaw" 51 yX10_fault ∈ hs_ws := hs_w 783 (by decide +kernel) rfl
theorem kw_784 : Cond.instanceMethod yX10_fault ∈ hs_ws := hs_w 784 (by decide +kernel) rfl
theorem kw_785 : Cond.selects "Cellmarket" yX10_fault yX10_fault ∈ hs_ws := hs_w 785 (by decide +kernel) rfl
theorem kw_786 : Cond.code yX10_fault cX10_fault 5 (some FieldType.int) ∈ hs_ws := hs_w 786 (by decide +kernel) rfl
theorem kw_787 : Cond.methodLink "Cellmarket" 167 yX4_faultOf ∈ hs_ws := hs_w 787 (by decide +kernel) rfl
theorem kw_788 : Cond.instanceMethod yX4_faultOf ∈ hs_ws := hs_w 788 (by decide +kernel) rfl
theorem kw_789 : Cond.selects "Cellmarket$Finder" yX4_faultOf yX4_faultOf ∈ hs_ws := hs_w 789 (by decide +kernel) rfl
theorem kw_790 : Cond.code yX4_faultOf cX4_faultOf 2 (some FieldType.int) ∈ hs_ws := hs_w 790 (by decide +kernel) rfl
theorem kw_791 : Cond.methodLink "CellmarketLaw" 57 yX10_edit ∈ hs_ws := hs_w 791 (by decide +kernel) rfl
theorem kw_792 : Cond.instanceMethod yX10_edit ∈ hs_ws := hs_w 792 (by decide +kernel) rfl
theorem kw_793 : Cond.selects "Cellmarket" yX10_edit yX10_edit ∈ hs_ws := hs_w 793 (by decide +kernel) rfl
theorem kw_794 : Cond.code yX10_edit cX10_edit 7 (some FieldType.int) ∈ hs_ws := hs_w 794 (by decide +kernel) rfl
theorem kw_795 : Cond.methodLink "Cellmarket" 173 yX9_placed ∈ hs_ws := hs_w 795 (by decide +kernel) rfl
theorem kw_796 : Cond.instanceMethod yX9_placed ∈ hs_ws := hs_w 796 (by decide +kernel) rfl
theorem kw_797 : Cond.selects "Cellmarket$Sheet" yX9_placed yX9_placed ∈ hs_ws := hs_w 797 (by decide +kernel) rfl
theorem kw_798 : Cond.code yX9_placed cX9_placed 6 (some (FieldType.object "Cellmarket$Edit")) ∈ hs_ws := hs_w 798 (by decide +kernel) rfl
theorem kw_800 : Cond.methodLink "Cellmarket" 203 yX9_counting ∈ hs_ws := hs_w 800 (by decide +kernel) rfl
theorem kw_801 : Cond.instanceMethod yX9_counting ∈ hs_ws := hs_w 801 (by decide +kernel) rfl
theorem kw_802 : Cond.selects "Cellmarket$Sheet" yX9_counting yX9_counting ∈ hs_ws := hs_w 802 (by decide +kernel) rfl
theorem kw_803 : Cond.code yX9_counting cX9_counting 5 (some (FieldType.object "Cellmarket$Edit")) ∈ hs_ws := hs_w 803 (by decide +kernel) rfl
theorem kw_804 : Cond.methodLink "Cellmarket$Sheet" 68 yX3_countsAt ∈ hs_ws := hs_w 804 (by decide +kernel) rfl
theorem kw_806 : Cond.methodLink "CellmarketLaw" 60 yX10_bid ∈ hs_ws := hs_w 806 (by decide +kernel) rfl
theorem kw_807 : Cond.instanceMethod yX10_bid ∈ hs_ws := hs_w 807 (by decide +kernel) rfl
theorem kw_808 : Cond.selects "Cellmarket" yX10_bid yX10_bid ∈ hs_ws := hs_w 808 (by decide +kernel) rfl
theorem kw_809 : Cond.code yX10_bid cX10_bid 8 (some FieldType.int) ∈ hs_ws := hs_w 809 (by decide +kernel) rfl
theorem kw_813 : Cond.methodLink "Cellmarket" 236 yX6_exposureOf ∈ hs_ws := hs_w 813 (by decide +kernel) rfl
theorem kw_814 : Cond.instanceMethod yX6_exposureOf ∈ hs_ws := hs_w 814 (by decide +kernel) rfl
theorem kw_815 : Cond.selects "Cellmarket$Ledger" yX6_exposureOf yX6_exposureOf ∈ hs_ws := hs_w 815 (by decide +kernel) rfl
theorem kw_816 : Cond.code yX6_exposureOf cX6_exposureOf 4 (some FieldType.int) ∈ hs_ws := hs_w 816 (by decide +kernel) rfl
theorem kw_817 : Cond.methodLink "Cellmarket$Ledger" 38 yX1_offeredBy ∈ hs_ws := hs_w 817 (by decide +kernel) rfl
theorem kw_818 : Cond.instanceMethod yX1_offeredBy ∈ hs_ws := hs_w 818 (by decide +kernel) rfl
theorem kw_819 : Cond.selects "Cellmarket$Book" yX1_offeredBy yX1_offeredBy ∈ hs_ws := hs_w 819 (by decide +kernel) rfl
theorem kw_820 : Cond.code yX1_offeredBy cX1_offeredBy 5 (some FieldType.int) ∈ hs_ws := hs_w 820 (by decide +kernel) rfl
theorem kw_821 : Cond.constant "Cellmarket$Book" 79 2147483647 ∈ hs_ws := hs_w 821 (by decide +kernel) rfl
theorem kw_822 : Cond.methodLink "Cellmarket$Book" 80 yX8_isCleared ∈ hs_ws := hs_w 822 (by decide +kernel) rfl
theorem kw_823 : Cond.instanceMethod yX8_isCleared ∈ hs_ws := hs_w 823 (by decide +kernel) rfl
theorem kw_824 : Cond.selects "Cellmarket$Round" yX8_isCleared yX8_isCleared ∈ hs_ws := hs_w 824 (by decide +kernel) rfl
theorem kw_825 : Cond.code yX8_isCleared cX8_isCleared 1 (some FieldType.boolean) ∈ hs_ws := hs_w 825 (by decide +kernel) rfl
theorem kw_826 : Cond.methodLink "Cellmarket$Ledger" 42 yX6_dueOf ∈ hs_ws := hs_w 826 (by decide +kernel) rfl
theorem kw_827 : Cond.methodLink "Cellmarket$Ledger" 45 yJ9_max_7cf53 ∈ hs_ws := hs_w 827 (by decide +kernel) rfl
theorem kw_829 : Cond.classLink "Cellmarket" 244 "Cellmarket$Bid" ∈ hs_ws := hs_w 829 (by decide +kernel) rfl
theorem kw_830 : Cond.instantiable "Cellmarket$Bid" 10 ∈ hs_ws := hs_w 830 (by decide +kernel) rfl
theorem kw_831 : Cond.methodLink "Cellmarket" 246 yX0_init ∈ hs_ws := hs_w 831 (by decide +kernel) rfl
theorem kw_832 : Cond.instanceMethod yX0_init ∈ hs_ws := hs_w 832 (by decide +kernel) rfl
theorem kw_833 : Cond.code yX0_init cX0_init 8 none ∈ hs_ws := hs_w 833 (by decide +kernel) rfl
theorem kw_834 : Cond.methodLink "Cellmarket$Bid" 3 Lib.objectInit ∈ hs_ws := hs_w 834 (by decide +kernel) rfl
theorem kw_835 : Cond.constant "Cellmarket$Bid" 9 2147483647 ∈ hs_ws := hs_w 835 (by decide +kernel) rfl
theorem kw_836 : Cond.fieldLink "Cellmarket$Bid" 23 "Cellmarket$Bid" "number" "I" ∈ hs_ws := hs_w 836 (by decide +kernel) rfl
theorem kw_837 : Cond.fieldLink "Cellmarket$Clearing" 143 "Cellmarket$Bid" "number" "I" ∈ hs_ws := hs_w 837 (by decide +kernel) rfl
theorem kw_838 : Cond.fieldLink "Cellmarket$Bid" 26 "Cellmarket$Bid" "owner" "I" ∈ hs_ws := hs_w 838 (by decide +kernel) rfl
theorem kw_839 : Cond.fieldLink "Cellmarket$Book" 63 "Cellmarket$Bid" "owner" "I" ∈ hs_ws := hs_w 839 (by decide +kernel) rfl
theorem kw_840 : Cond.fieldLink "Cellmarket" 257 "Cellmarket$Bid" "owner" "I" ∈ hs_ws := hs_w 840 (by decide +kernel) rfl
theorem kw_841 : Cond.fieldLink "Cellmarket$Bid" 29 "Cellmarket$Bid" "round" "LCellmarket$Round;" ∈ hs_ws := hs_w 841 (by decide +kernel) rfl
theorem kw_842 : Cond.fieldLink "Cellmarket$Book" 56 "Cellmarket$Bid" "round" "LCellmarket$Round;" ∈ hs_ws := hs_w 842 (by decide +kernel) rfl
theorem kw_843 : Cond.fieldLink "Cellmarket$Clearing" 106 "Cellmarket$Bid" "round" "LCellmarket$Round;" ∈ hs_ws := hs_w 843 (by decide +kernel) rfl
theorem kw_844 : Cond.fieldLink "Cellmarket$Finder" 121 "Cellmarket$Bid" "round" "LCellmarket$Round;" ∈ hs_ws := hs_w 844 (by decide +kernel) rfl
theorem kw_845 : Cond.fieldLink "Cellmarket" 267 "Cellmarket$Bid" "round" "LCellmarket$Round;" ∈ hs_ws := hs_w 845 (by decide +kernel) rfl
theorem kw_846 : Cond.fieldLink "Cellmarket$Bid" 33 "Cellmarket$Bid" "isBuy" "Z" ∈ hs_ws := hs_w 846 (by decide +kernel) rfl
theorem kw_847 : Cond.fieldLink "Cellmarket$Book" 72 "Cellmarket$Bid" "isBuy" "Z" ∈ hs_ws := hs_w 847 (by decide +kernel) rfl
theorem kw_848 : Cond.fieldLink "Cellmarket$Clearing" 118 "Cellmarket$Bid" "isBuy" "Z" ∈ hs_ws := hs_w 848 (by decide +kernel) rfl
theorem kw_849 : Cond.fieldLink "Cellmarket$Finder" 125 "Cellmarket$Bid" "isBuy" "Z" ∈ hs_ws := hs_w 849 (by decide +kernel) rfl
theorem kw_850 : Cond.fieldLink "Cellmarket$Bid" 36 "Cellmarket$Bid" "many" "I" ∈ hs_ws := hs_w 850 (by decide +kernel) rfl
theorem kw_851 : Cond.fieldLink "Cellmarket$Book" 84 "Cellmarket$Bid" "many" "I" ∈ hs_ws := hs_w 851 (by decide +kernel) rfl
theorem kw_852 : Cond.fieldLink "Cellmarket$Clearing" 136 "Cellmarket$Bid" "many" "I" ∈ hs_ws := hs_w 852 (by decide +kernel) rfl
theorem kw_853 : Cond.fieldLink "Cellmarket$Finder" 137 "Cellmarket$Bid" "many" "I" ∈ hs_ws := hs_w 853 (by decide +kernel) rfl
theorem kw_854 : Cond.fieldLink "Cellmarket" 281 "Cellmarket$Bid" "many" "I" ∈ hs_ws := hs_w 854 (by decide +kernel) rfl
theorem kw_855 : Cond.fieldLink "Cellmarket$Bid" 39 "Cellmarket$Bid" "limit" "I" ∈ hs_ws := hs_w 855 (by decide +kernel) rfl
theorem kw_856 : Cond.fieldLink "Cellmarket$Book" 87 "Cellmarket$Bid" "limit" "I" ∈ hs_ws := hs_w 856 (by decide +kernel) rfl
theorem kw_857 : Cond.fieldLink "Cellmarket$Finder" 129 "Cellmarket$Bid" "limit" "I" ∈ hs_ws := hs_w 857 (by decide +kernel) rfl
theorem kw_858 : Cond.fieldLink "Cellmarket$Bid" 42 "Cellmarket$Bid" "made" "I" ∈ hs_ws := hs_w 858 (by decide +kernel) rfl
theorem kw_859 : Cond.fieldLink "Cellmarket$Bid" 10 "Cellmarket$Bid" "withdrawn" "I" ∈ hs_ws := hs_w 859 (by decide +kernel) rfl
theorem kw_860 : Cond.fieldLink "Cellmarket$Book" 76 "Cellmarket$Bid" "withdrawn" "I" ∈ hs_ws := hs_w 860 (by decide +kernel) rfl
theorem kw_861 : Cond.fieldLink "Cellmarket" 261 "Cellmarket$Bid" "withdrawn" "I" ∈ hs_ws := hs_w 861 (by decide +kernel) rfl
theorem kw_862 : Cond.fieldLink "Cellmarket$Bid" 16 "Cellmarket$Bid" "isStruck" "Z" ∈ hs_ws := hs_w 862 (by decide +kernel) rfl
theorem kw_863 : Cond.fieldLink "Cellmarket" 342 "Cellmarket$Bid" "isStruck" "Z" ∈ hs_ws := hs_w 863 (by decide +kernel) rfl
theorem kw_864 : Cond.fieldLink "Cellmarket$Bid" 20 "Cellmarket$Bid" "got" "I" ∈ hs_ws := hs_w 864 (by decide +kernel) rfl
theorem kw_865 : Cond.fieldLink "Cellmarket$Clearing" 129 "Cellmarket$Bid" "got" "I" ∈ hs_ws := hs_w 865 (by decide +kernel) rfl
theorem kw_866 : Cond.fieldLink "Cellmarket" 327 "Cellmarket$Bid" "got" "I" ∈ hs_ws := hs_w 866 (by decide +kernel) rfl
theorem kw_867 : Cond.laysFinal "Cellmarket$Bid" "Cellmarket$Bid" "number" "I" ∈ hs_ws := hs_w 867 (by decide +kernel) rfl
theorem kw_869 : Cond.laysFinal "Cellmarket$Bid" "Cellmarket$Bid" "owner" "I" ∈ hs_ws := hs_w 869 (by decide +kernel) rfl
theorem kw_871 : Cond.laysFinal "Cellmarket$Bid" "Cellmarket$Bid" "round" "LCellmarket$Round;" ∈ hs_ws := hs_w 871 (by decide +kernel) rfl
theorem kw_873 : Cond.laysFinal "Cellmarket$Bid" "Cellmarket$Bid" "isBuy" "Z" ∈ hs_ws := hs_w 873 (by decide +kernel) rfl
theorem kw_875 : Cond.laysFinal "Cellmarket$Bid" "Cellmarket$Bid" "many" "I" ∈ hs_ws := hs_w 875 (by decide +kernel) rfl
theorem kw_877 : Cond.laysFinal "Cellmarket$Bid" "Cellmarket$Bid" "limit" "I" ∈ hs_ws := hs_w 877 (by decide +kernel) rfl
theorem kw_879 : Cond.laysFinal "Cellmarket$Bid" "Cellmarket$Bid" "made" "I" ∈ hs_ws := hs_w 879 (by decide +kernel) rfl
theorem kw_881 : Cond.lays "Cellmarket$Bid" "Cellmarket$Bid" "withdrawn" "I" ∈ hs_ws := hs_w 881 (by decide +kernel) rfl
theorem kw_883 : Cond.lays "Cellmarket$Bid" "Cellmarket$Bid" "isStruck" "Z" ∈ hs_ws := hs_w 883 (by decide +kernel) rfl
theorem kw_885 : Cond.lays "Cellmarket$Bid" "Cellmarket$Bid" "got" "I" ∈ hs_ws := hs_w 885 (by decide +kernel) rfl
theorem kw_889 : Cond.methodLink "Cellmarket" 249 ⟨"java/util/List", "add", "(Ljava/lang/Object;)Z"⟩ ∈ hs_ws := hs_w 889 (by decide +kernel) rfl
theorem kw_890 : Cond.methodLink "CellmarketLaw" 64 yX10_withdraw ∈ hs_ws := hs_w 890 (by decide +kernel) rfl
theorem kw_891 : Cond.instanceMethod yX10_withdraw ∈ hs_ws := hs_w 891 (by decide +kernel) rfl
theorem kw_892 : Cond.selects "Cellmarket" yX10_withdraw yX10_withdraw ∈ hs_ws := hs_w 892 (by decide +kernel) rfl
theorem kw_893 : Cond.code yX10_withdraw cX10_withdraw 4 (some FieldType.int) ∈ hs_ws := hs_w 893 (by decide +kernel) rfl
theorem kw_894 : Cond.methodLink "Cellmarket" 253 yX10_bidNumbered ∈ hs_ws := hs_w 894 (by decide +kernel) rfl
theorem kw_896 : Cond.instanceMethod yX10_bidNumbered ∈ hs_ws := hs_w 896 (by decide +kernel) rfl
theorem kw_897 : Cond.code yX10_bidNumbered cX10_bidNumbered 2 (some (FieldType.object "Cellmarket$Bid")) ∈ hs_ws := hs_w 897 (by decide +kernel) rfl
theorem kw_900 : Cond.methodLink "Cellmarket" 323 ⟨"java/util/List", "get", "(I)Ljava/lang/Object;"⟩ ∈ hs_ws := hs_w 900 (by decide +kernel) rfl
theorem kw_902 : Cond.constant "Cellmarket" 264 2147483647 ∈ hs_ws := hs_w 902 (by decide +kernel) rfl
theorem kw_905 : Cond.methodLink "Cellmarket" 276 yX8_isCleared ∈ hs_ws := hs_w 905 (by decide +kernel) rfl
theorem kw_907 : Cond.methodLink "CellmarketLaw" 67 yX10_share ∈ hs_ws := hs_w 907 (by decide +kernel) rfl
theorem kw_908 : Cond.instanceMethod yX10_share ∈ hs_ws := hs_w 908 (by decide +kernel) rfl
theorem kw_909 : Cond.selects "Cellmarket" yX10_share yX10_share ∈ hs_ws := hs_w 909 (by decide +kernel) rfl
theorem kw_910 : Cond.code yX10_share cX10_share 4 (some FieldType.boolean) ∈ hs_ws := hs_w 910 (by decide +kernel) rfl
theorem kw_911 : Cond.methodLink "CellmarketLaw" 71 yX10_bell ∈ hs_ws := hs_w 911 (by decide +kernel) rfl
theorem kw_912 : Cond.instanceMethod yX10_bell ∈ hs_ws := hs_w 912 (by decide +kernel) rfl
theorem kw_913 : Cond.selects "Cellmarket" yX10_bell yX10_bell ∈ hs_ws := hs_w 913 (by decide +kernel) rfl
theorem kw_914 : Cond.code yX10_bell cX10_bell 4 (some FieldType.int) ∈ hs_ws := hs_w 914 (by decide +kernel) rfl
theorem kw_915 : Cond.methodLink "Cellmarket" 286 yX8_freeze ∈ hs_ws := hs_w 915 (by decide +kernel) rfl
theorem kw_916 : Cond.instanceMethod yX8_freeze ∈ hs_ws := hs_w 916 (by decide +kernel) rfl
theorem kw_917 : Cond.selects "Cellmarket$Round" yX8_freeze yX8_freeze ∈ hs_ws := hs_w 917 (by decide +kernel) rfl
theorem kw_918 : Cond.code yX8_freeze cX8_freeze 4 none ∈ hs_ws := hs_w 918 (by decide +kernel) rfl
theorem kw_919 : Cond.methodLink "Cellmarket$Round" 49 yX7_copy ∈ hs_ws := hs_w 919 (by decide +kernel) rfl
theorem kw_920 : Cond.instanceMethod yX7_copy ∈ hs_ws := hs_w 920 (by decide +kernel) rfl
theorem kw_921 : Cond.selects "Cellmarket$Rights" yX7_copy yX7_copy ∈ hs_ws := hs_w 921 (by decide +kernel) rfl
theorem kw_922 : Cond.code yX7_copy cX7_copy 2 none ∈ hs_ws := hs_w 922 (by decide +kernel) rfl
theorem kw_923 : Cond.methodLink "Cellmarket$Rights" 18 arraycopyName ∈ hs_ws := hs_w 923 (by decide +kernel) rfl
theorem kw_925 : Cond.methodLink "Cellmarket" 295 yX1_close ∈ hs_ws := hs_w 925 (by decide +kernel) rfl
theorem kw_926 : Cond.instanceMethod yX1_close ∈ hs_ws := hs_w 926 (by decide +kernel) rfl
theorem kw_927 : Cond.selects "Cellmarket$Book" yX1_close yX1_close ∈ hs_ws := hs_w 927 (by decide +kernel) rfl
theorem kw_928 : Cond.code yX1_close cX1_close 4 (some FieldType.int) ∈ hs_ws := hs_w 928 (by decide +kernel) rfl
theorem kw_930 : Cond.methodLink "Cellmarket$Book" 43 ⟨"java/util/List", "add", "(Ljava/lang/Object;)Z"⟩ ∈ hs_ws := hs_w 930 (by decide +kernel) rfl
theorem kw_931 : Cond.methodLink "Cellmarket" 299 yX2_reckon ∈ hs_ws := hs_w 931 (by decide +kernel) rfl
theorem kw_932 : Cond.instanceMethod yX2_reckon ∈ hs_ws := hs_w 932 (by decide +kernel) rfl
theorem kw_933 : Cond.selects "Cellmarket$Clearing" yX2_reckon yX2_reckon ∈ hs_ws := hs_w 933 (by decide +kernel) rfl
theorem kw_934 : Cond.code yX2_reckon cX2_reckon 6 (some FieldType.boolean) ∈ hs_ws := hs_w 934 (by decide +kernel) rfl
theorem kw_935 : Cond.methodLink "Cellmarket$Clearing" 58 yX4_goTo ∈ hs_ws := hs_w 935 (by decide +kernel) rfl
theorem kw_936 : Cond.methodLink "Cellmarket$Clearing" 64 yX2_findPrice ∈ hs_ws := hs_w 936 (by decide +kernel) rfl
theorem kw_938 : Cond.instanceMethod yX2_findPrice ∈ hs_ws := hs_w 938 (by decide +kernel) rfl
theorem kw_939 : Cond.code yX2_findPrice cX2_findPrice 4 none ∈ hs_ws := hs_w 939 (by decide +kernel) rfl
theorem kw_940 : Cond.methodLink "Cellmarket$Clearing" 74 yX4_faultOf ∈ hs_ws := hs_w 940 (by decide +kernel) rfl
theorem kw_941 : Cond.methodLink "Cellmarket$Clearing" 78 yX4_isEmpty ∈ hs_ws := hs_w 941 (by decide +kernel) rfl
theorem kw_942 : Cond.instanceMethod yX4_isEmpty ∈ hs_ws := hs_w 942 (by decide +kernel) rfl
theorem kw_943 : Cond.selects "Cellmarket$Finder" yX4_isEmpty yX4_isEmpty ∈ hs_ws := hs_w 943 (by decide +kernel) rfl
theorem kw_944 : Cond.code yX4_isEmpty cX4_isEmpty 2 (some FieldType.boolean) ∈ hs_ws := hs_w 944 (by decide +kernel) rfl
theorem kw_945 : Cond.methodLink "Cellmarket$Clearing" 82 yX4_numberOf ∈ hs_ws := hs_w 945 (by decide +kernel) rfl
theorem kw_946 : Cond.methodLink "Cellmarket$Clearing" 88 yJ9_min_7cf53 ∈ hs_ws := hs_w 946 (by decide +kernel) rfl
theorem kw_947 : Cond.methodLink "Cellmarket$Clearing" 94 yJ9_max_7cf53 ∈ hs_ws := hs_w 947 (by decide +kernel) rfl
theorem kw_948 : Cond.methodLink "Cellmarket$Clearing" 68 yX2_shareOut ∈ hs_ws := hs_w 948 (by decide +kernel) rfl
theorem kw_950 : Cond.instanceMethod yX2_shareOut ∈ hs_ws := hs_w 950 (by decide +kernel) rfl
theorem kw_951 : Cond.code yX2_shareOut cX2_shareOut 8 (some FieldType.boolean) ∈ hs_ws := hs_w 951 (by decide +kernel) rfl
theorem kw_952 : Cond.methodLink "Cellmarket$Clearing" 97 yX2_totalOf ∈ hs_ws := hs_w 952 (by decide +kernel) rfl
theorem kw_954 : Cond.instanceMethod yX2_totalOf ∈ hs_ws := hs_w 954 (by decide +kernel) rfl
theorem kw_955 : Cond.code yX2_totalOf cX2_totalOf 6 (some FieldType.int) ∈ hs_ws := hs_w 955 (by decide +kernel) rfl
theorem kw_957 : Cond.methodLink "Cellmarket$Clearing" 25 ⟨"java/util/List", "size", "()I"⟩ ∈ hs_ws := hs_w 957 (by decide +kernel) rfl
theorem kw_959 : Cond.methodLink "Cellmarket$Clearing" 31 ⟨"java/util/List", "get", "(I)Ljava/lang/Object;"⟩ ∈ hs_ws := hs_w 959 (by decide +kernel) rfl
theorem kw_960 : Cond.classLink "Cellmarket$Clearing" 104 "Cellmarket$Bid" ∈ hs_ws := hs_w 960 (by decide +kernel) rfl
theorem kw_961 : Cond.methodLink "Cellmarket$Clearing" 132 yX2_isOnSide ∈ hs_ws := hs_w 961 (by decide +kernel) rfl
theorem kw_962 : Cond.static yX2_isOnSide ∈ hs_ws := hs_w 962 (by decide +kernel) rfl
theorem kw_963 : Cond.code yX2_isOnSide cX2_isOnSide 3 (some FieldType.boolean) ∈ hs_ws := hs_w 963 (by decide +kernel) rfl
theorem kw_964 : Cond.methodLink "Cellmarket$Clearing" 110 yX0_takesPart ∈ hs_ws := hs_w 964 (by decide +kernel) rfl
theorem kw_965 : Cond.instanceMethod yX0_takesPart ∈ hs_ws := hs_w 965 (by decide +kernel) rfl
theorem kw_966 : Cond.selects "Cellmarket$Bid" yX0_takesPart yX0_takesPart ∈ hs_ws := hs_w 966 (by decide +kernel) rfl
theorem kw_967 : Cond.code yX0_takesPart cX0_takesPart 1 (some FieldType.boolean) ∈ hs_ws := hs_w 967 (by decide +kernel) rfl
theorem kw_968 : Cond.methodLink "Cellmarket$Clearing" 121 yX2_partByShares ∈ hs_ws := hs_w 968 (by decide +kernel) rfl
theorem kw_970 : Cond.instanceMethod yX2_partByShares ∈ hs_ws := hs_w 970 (by decide +kernel) rfl
theorem kw_971 : Cond.code yX2_partByShares cX2_partByShares 10 (some FieldType.int) ∈ hs_ws := hs_w 971 (by decide +kernel) rfl
theorem kw_972 : Cond.methodLink "Cellmarket$Clearing" 125 yX2_partByOrder ∈ hs_ws := hs_w 972 (by decide +kernel) rfl
theorem kw_974 : Cond.instanceMethod yX2_partByOrder ∈ hs_ws := hs_w 974 (by decide +kernel) rfl
theorem kw_975 : Cond.code yX2_partByOrder cX2_partByOrder 5 (some FieldType.int) ∈ hs_ws := hs_w 975 (by decide +kernel) rfl
theorem kw_976 : Cond.methodLink "Cellmarket$Clearing" 139 yX0_goesAhead ∈ hs_ws := hs_w 976 (by decide +kernel) rfl
theorem kw_977 : Cond.instanceMethod yX0_goesAhead ∈ hs_ws := hs_w 977 (by decide +kernel) rfl
theorem kw_978 : Cond.selects "Cellmarket$Bid" yX0_goesAhead yX0_goesAhead ∈ hs_ws := hs_w 978 (by decide +kernel) rfl
theorem kw_979 : Cond.code yX0_goesAhead cX0_goesAhead 2 (some FieldType.boolean) ∈ hs_ws := hs_w 979 (by decide +kernel) rfl
theorem kw_980 : Cond.methodLink "CellmarketLaw" 75 yX10_isFrozen ∈ hs_ws := hs_w 980 (by decide +kernel) rfl
theorem kw_981 : Cond.instanceMethod yX10_isFrozen ∈ hs_ws := hs_w 981 (by decide +kernel) rfl
theorem kw_982 : Cond.selects "Cellmarket" yX10_isFrozen yX10_isFrozen ∈ hs_ws := hs_w 982 (by decide +kernel) rfl
theorem kw_983 : Cond.code yX10_isFrozen cX10_isFrozen 2 (some FieldType.boolean) ∈ hs_ws := hs_w 983 (by decide +kernel) rfl
theorem kw_984 : Cond.methodLink "CellmarketLaw" 79 yX10_round ∈ hs_ws := hs_w 984 (by decide +kernel) rfl
theorem kw_985 : Cond.instanceMethod yX10_round ∈ hs_ws := hs_w 985 (by decide +kernel) rfl
theorem kw_986 : Cond.selects "Cellmarket" yX10_round yX10_round ∈ hs_ws := hs_w 986 (by decide +kernel) rfl
theorem kw_987 : Cond.code yX10_round cX10_round 4 (some FieldType.int) ∈ hs_ws := hs_w 987 (by decide +kernel) rfl
theorem kw_988 : Cond.methodLink "Cellmarket" 303 yX10_roundNumbered ∈ hs_ws := hs_w 988 (by decide +kernel) rfl
theorem kw_990 : Cond.instanceMethod yX10_roundNumbered ∈ hs_ws := hs_w 990 (by decide +kernel) rfl
theorem kw_991 : Cond.code yX10_roundNumbered cX10_roundNumbered 2 (some (FieldType.object "Cellmarket$Round")) ∈ hs_ws := hs_w 991 (by decide +kernel) rfl
theorem kw_993 : Cond.classLink "Cellmarket" 217 "Cellmarket$Round" ∈ hs_ws := hs_w 993 (by decide +kernel) rfl
theorem kw_994 : Cond.methodLink "Cellmarket" 319 yX1_feesOf ∈ hs_ws := hs_w 994 (by decide +kernel) rfl
theorem kw_995 : Cond.instanceMethod yX1_feesOf ∈ hs_ws := hs_w 995 (by decide +kernel) rfl
theorem kw_996 : Cond.selects "Cellmarket$Book" yX1_feesOf yX1_feesOf ∈ hs_ws := hs_w 996 (by decide +kernel) rfl
theorem kw_997 : Cond.code yX1_feesOf cX1_feesOf 5 (some FieldType.int) ∈ hs_ws := hs_w 997 (by decide +kernel) rfl
theorem kw_998 : Cond.methodLink "CellmarketLaw" 82 yX10_priceAnew ∈ hs_ws := hs_w 998 (by decide +kernel) rfl
theorem kw_999 : Cond.instanceMethod yX10_priceAnew ∈ hs_ws := hs_w 999 (by decide +kernel) rfl
theorem kw_1000 : Cond.selects "Cellmarket" yX10_priceAnew yX10_priceAnew ∈ hs_ws := hs_w 1000 (by decide +kernel) rfl
theorem kw_1001 : Cond.code yX10_priceAnew cX10_priceAnew 4 (some FieldType.int) ∈ hs_ws := hs_w 1001 (by decide +kernel) rfl
theorem kw_1002 : Cond.methodLink "CellmarketLaw" 85 yX10_got ∈ hs_ws := hs_w 1002 (by decide +kernel) rfl
theorem kw_1003 : Cond.instanceMethod yX10_got ∈ hs_ws := hs_w 1003 (by decide +kernel) rfl
theorem kw_1004 : Cond.selects "Cellmarket" yX10_got yX10_got ∈ hs_ws := hs_w 1004 (by decide +kernel) rfl
theorem kw_1005 : Cond.code yX10_got cX10_got 2 (some FieldType.int) ∈ hs_ws := hs_w 1005 (by decide +kernel) rfl
theorem kw_1006 : Cond.methodLink "CellmarketLaw" 91 yX10_settle ∈ hs_ws := hs_w 1006 (by decide +kernel) rfl
theorem kw_1007 : Cond.instanceMethod yX10_settle ∈ hs_ws := hs_w 1007 (by decide +kernel) rfl
theorem kw_1008 : Cond.selects "Cellmarket" yX10_settle yX10_settle ∈ hs_ws := hs_w 1008 (by decide +kernel) rfl
theorem kw_1009 : Cond.code yX10_settle cX10_settle 2 (some FieldType.int) ∈ hs_ws := hs_w 1009 (by decide +kernel) rfl
theorem kw_1010 : Cond.methodLink "Cellmarket" 333 yX6_payDues ∈ hs_ws := hs_w 1010 (by decide +kernel) rfl
theorem kw_1011 : Cond.instanceMethod yX6_payDues ∈ hs_ws := hs_w 1011 (by decide +kernel) rfl
theorem kw_1012 : Cond.selects "Cellmarket$Ledger" yX6_payDues yX6_payDues ∈ hs_ws := hs_w 1012 (by decide +kernel) rfl
theorem kw_1013 : Cond.code yX6_payDues cX6_payDues 6 (some FieldType.int) ∈ hs_ws := hs_w 1013 (by decide +kernel) rfl
theorem kw_1014 : Cond.methodLink "Cellmarket$Ledger" 50 yJ9_floorDiv_7cf53 ∈ hs_ws := hs_w 1014 (by decide +kernel) rfl
theorem kw_1015 : Cond.static yJ9_floorDiv_7cf53 ∈ hs_ws := hs_w 1015 (by decide +kernel) rfl
theorem kw_1016 : Cond.code yJ9_floorDiv_7cf53 cJ9_floorDiv_7cf53 3 (some FieldType.int) ∈ hs_ws := hs_w 1016 (by decide +kernel) rfl
theorem kw_1017 : Cond.methodLink "Cellmarket$Ledger" 53 yJ9_floorMod_7cf53 ∈ hs_ws := hs_w 1017 (by decide +kernel) rfl
theorem kw_1018 : Cond.static yJ9_floorMod_7cf53 ∈ hs_ws := hs_w 1018 (by decide +kernel) rfl
theorem kw_1019 : Cond.code yJ9_floorMod_7cf53 cJ9_floorMod_7cf53 3 (some FieldType.int) ∈ hs_ws := hs_w 1019 (by decide +kernel) rfl
theorem kw_1020 : Cond.methodLink "Cellmarket$Ledger" 56 yX6_cutAhead ∈ hs_ws := hs_w 1020 (by decide +kernel) rfl
theorem kw_1022 : Cond.instanceMethod yX6_cutAhead ∈ hs_ws := hs_w 1022 (by decide +kernel) rfl
theorem kw_1023 : Cond.code yX6_cutAhead cX6_cutAhead 4 (some FieldType.int) ∈ hs_ws := hs_w 1023 (by decide +kernel) rfl
theorem kw_1024 : Cond.methodLink "CellmarketLaw" 94 yX10_cash ∈ hs_ws := hs_w 1024 (by decide +kernel) rfl
theorem kw_1025 : Cond.instanceMethod yX10_cash ∈ hs_ws := hs_w 1025 (by decide +kernel) rfl
theorem kw_1026 : Cond.selects "Cellmarket" yX10_cash yX10_cash ∈ hs_ws := hs_w 1026 (by decide +kernel) rfl
theorem kw_1027 : Cond.code yX10_cash cX10_cash 2 (some FieldType.int) ∈ hs_ws := hs_w 1027 (by decide +kernel) rfl
theorem kw_1028 : Cond.methodLink "CellmarketLaw" 97 yX10_limit ∈ hs_ws := hs_w 1028 (by decide +kernel) rfl
theorem kw_1029 : Cond.instanceMethod yX10_limit ∈ hs_ws := hs_w 1029 (by decide +kernel) rfl
theorem kw_1030 : Cond.selects "Cellmarket" yX10_limit yX10_limit ∈ hs_ws := hs_w 1030 (by decide +kernel) rfl
theorem kw_1031 : Cond.code yX10_limit cX10_limit 4 (some FieldType.int) ∈ hs_ws := hs_w 1031 (by decide +kernel) rfl
theorem kw_1032 : Cond.constant "Cellmarket" 339 1000000000 ∈ hs_ws := hs_w 1032 (by decide +kernel) rfl
theorem kw_1033 : Cond.methodLink "CellmarketLaw" 100 yX10_exposure ∈ hs_ws := hs_w 1033 (by decide +kernel) rfl
theorem kw_1034 : Cond.instanceMethod yX10_exposure ∈ hs_ws := hs_w 1034 (by decide +kernel) rfl
theorem kw_1035 : Cond.selects "Cellmarket" yX10_exposure yX10_exposure ∈ hs_ws := hs_w 1035 (by decide +kernel) rfl
theorem kw_1036 : Cond.code yX10_exposure cX10_exposure 2 (some FieldType.int) ∈ hs_ws := hs_w 1036 (by decide +kernel) rfl
theorem kw_1037 : Cond.methodLink "CellmarketLaw" 103 yX10_strikeBid ∈ hs_ws := hs_w 1037 (by decide +kernel) rfl
theorem kw_1038 : Cond.instanceMethod yX10_strikeBid ∈ hs_ws := hs_w 1038 (by decide +kernel) rfl
theorem kw_1039 : Cond.selects "Cellmarket" yX10_strikeBid yX10_strikeBid ∈ hs_ws := hs_w 1039 (by decide +kernel) rfl
theorem kw_1040 : Cond.code yX10_strikeBid cX10_strikeBid 3 (some FieldType.int) ∈ hs_ws := hs_w 1040 (by decide +kernel) rfl
theorem kw_1043 : Cond.methodLink "Cellmarket" 345 yX2_reckonAll ∈ hs_ws := hs_w 1043 (by decide +kernel) rfl
theorem kw_1044 : Cond.instanceMethod yX2_reckonAll ∈ hs_ws := hs_w 1044 (by decide +kernel) rfl
theorem kw_1045 : Cond.selects "Cellmarket$Clearing" yX2_reckonAll yX2_reckonAll ∈ hs_ws := hs_w 1045 (by decide +kernel) rfl
theorem kw_1046 : Cond.code yX2_reckonAll cX2_reckonAll 3 (some FieldType.int) ∈ hs_ws := hs_w 1046 (by decide +kernel) rfl
theorem kw_1047 : Cond.classLink "Cellmarket$Clearing" 35 "Cellmarket$Round" ∈ hs_ws := hs_w 1047 (by decide +kernel) rfl
theorem kw_1048 : Cond.methodLink "Cellmarket$Clearing" 37 yX2_reckon ∈ hs_ws := hs_w 1048 (by decide +kernel) rfl
theorem kw_1049 : Cond.methodLink "CellmarketLaw" 106 yX10_strikeEdit ∈ hs_ws := hs_w 1049 (by decide +kernel) rfl
theorem kw_1050 : Cond.instanceMethod yX10_strikeEdit ∈ hs_ws := hs_w 1050 (by decide +kernel) rfl
theorem kw_1051 : Cond.selects "Cellmarket" yX10_strikeEdit yX10_strikeEdit ∈ hs_ws := hs_w 1051 (by decide +kernel) rfl
theorem kw_1052 : Cond.code yX10_strikeEdit cX10_strikeEdit 3 (some FieldType.int) ∈ hs_ws := hs_w 1052 (by decide +kernel) rfl
theorem kw_1054 : Cond.classLink "Cellmarket" 183 "Cellmarket$Edit" ∈ hs_ws := hs_w 1054 (by decide +kernel) rfl
theorem kw_1055 : Cond.methodLink "CellmarketLaw" 109 yX10_ownerOf ∈ hs_ws := hs_w 1055 (by decide +kernel) rfl
theorem kw_1056 : Cond.instanceMethod yX10_ownerOf ∈ hs_ws := hs_w 1056 (by decide +kernel) rfl
theorem kw_1057 : Cond.selects "Cellmarket" yX10_ownerOf yX10_ownerOf ∈ hs_ws := hs_w 1057 (by decide +kernel) rfl
theorem kw_1058 : Cond.code yX10_ownerOf cX10_ownerOf 3 (some FieldType.int) ∈ hs_ws := hs_w 1058 (by decide +kernel) rfl
theorem kw_1059 : Cond.methodLink "CellmarketLaw" 112 yX10_reads ∈ hs_ws := hs_w 1059 (by decide +kernel) rfl
theorem kw_1060 : Cond.instanceMethod yX10_reads ∈ hs_ws := hs_w 1060 (by decide +kernel) rfl
theorem kw_1061 : Cond.selects "Cellmarket" yX10_reads yX10_reads ∈ hs_ws := hs_w 1061 (by decide +kernel) rfl
theorem kw_1062 : Cond.code yX10_reads cX10_reads 4 (some FieldType.boolean) ∈ hs_ws := hs_w 1062 (by decide +kernel) rfl
theorem kw_1063 : Cond.constant "CellmarketLaw" 17 (-2100000001) ∈ hs_ws := hs_w 1063 (by decide +kernel) rfl
theorem kw_1064 : Cond.constant "CellmarketLaw" 20 (-2100000002) ∈ hs_ws := hs_w 1064 (by decide +kernel) rfl
theorem kw_1065 : Cond.constant "CellmarketLaw" 23 (-2100000003) ∈ hs_ws := hs_w 1065 (by decide +kernel) rfl
theorem kw_1066 : Cond.methodLink "CellmarketLaw" 149 yL_all ∈ hs_ws := hs_w 1066 (by decide +kernel) rfl
theorem kw_1067 : Cond.static yL_all ∈ hs_ws := hs_w 1067 (by decide +kernel) rfl
set_option maxRecDepth 100000 in
theorem kw_1068 : Cond.code yL_all cL_all 8 (some FieldType.long) ∈ hs_ws := hs_w 1068 (by rfl) rfl
theorem kw_1069 : Cond.methodLink "CellmarketLaw" 116 yX10_events ∈ hs_ws := hs_w 1069 (by decide +kernel) rfl
theorem kw_1070 : Cond.instanceMethod yX10_events ∈ hs_ws := hs_w 1070 (by decide +kernel) rfl
theorem kw_1071 : Cond.selects "Cellmarket" yX10_events yX10_events ∈ hs_ws := hs_w 1071 (by decide +kernel) rfl
theorem kw_1072 : Cond.code yX10_events cX10_events 1 (some FieldType.int) ∈ hs_ws := hs_w 1072 (by decide +kernel) rfl
theorem kw_1073 : Cond.constantLong "CellmarketLaw" 120 1000003 ∈ hs_ws := hs_w 1073 (by decide +kernel) rfl
theorem kw_1074 : Cond.constantLong "CellmarketLaw" 122 103 ∈ hs_ws := hs_w 1074 (by decide +kernel) rfl
theorem kw_1075 : Cond.constantLong "CellmarketLaw" 124 10007 ∈ hs_ws := hs_w 1075 (by decide +kernel) rfl
theorem kw_1076 : Cond.constantLong "CellmarketLaw" 126 1009 ∈ hs_ws := hs_w 1076 (by decide +kernel) rfl
theorem kw_1077 : Cond.constantLong "CellmarketLaw" 128 7 ∈ hs_ws := hs_w 1077 (by decide +kernel) rfl
theorem kw_1078 : Cond.constantLong "CellmarketLaw" 130 3 ∈ hs_ws := hs_w 1078 (by decide +kernel) rfl
theorem kw_1079 : Cond.methodLink "CellmarketLaw" 139 yL_both ∈ hs_ws := hs_w 1079 (by decide +kernel) rfl
theorem kw_1080 : Cond.static yL_both ∈ hs_ws := hs_w 1080 (by decide +kernel) rfl
set_option maxRecDepth 100000 in
theorem kw_1081 : Cond.code yL_both cL_both 7 (some FieldType.int) ∈ hs_ws := hs_w 1081 (by rfl) rfl
theorem kw_1082 : Cond.constant "CellmarketLaw" 135 (-2100000099) ∈ hs_ws := hs_w 1082 (by decide +kernel) rfl
theorem kw_1083 : Cond.methodLink "CellmarketLaw" 162 yL_gives ∈ hs_ws := hs_w 1083 (by decide +kernel) rfl
theorem kw_1084 : Cond.static yL_gives ∈ hs_ws := hs_w 1084 (by decide +kernel) rfl
set_option maxRecDepth 100000 in
theorem kw_1085 : Cond.code yL_gives cL_gives 11 (some FieldType.boolean) ∈ hs_ws := hs_w 1085 (by rfl) rfl
theorem kw_1086 : Cond.methodLink "CellmarketLaw" 166 yL_edits ∈ hs_ws := hs_w 1086 (by decide +kernel) rfl
theorem kw_1087 : Cond.static yL_edits ∈ hs_ws := hs_w 1087 (by decide +kernel) rfl
set_option maxRecDepth 100000 in
theorem kw_1088 : Cond.code yL_edits cL_edits 18 (some FieldType.boolean) ∈ hs_ws := hs_w 1088 (by rfl) rfl
theorem kw_1089 : Cond.methodLink "CellmarketLaw" 143 yX10_wipe ∈ hs_ws := hs_w 1089 (by decide +kernel) rfl
theorem kw_1090 : Cond.instanceMethod yX10_wipe ∈ hs_ws := hs_w 1090 (by decide +kernel) rfl
theorem kw_1091 : Cond.selects "Cellmarket" yX10_wipe yX10_wipe ∈ hs_ws := hs_w 1091 (by decide +kernel) rfl
theorem kw_1092 : Cond.code yX10_wipe cX10_wipe 2 (some FieldType.int) ∈ hs_ws := hs_w 1092 (by decide +kernel) rfl
theorem kw_1093 : Cond.methodLink "Cellmarket" 133 yX5_clear ∈ hs_ws := hs_w 1093 (by decide +kernel) rfl
theorem kw_1094 : Cond.instanceMethod yX5_clear ∈ hs_ws := hs_w 1094 (by decide +kernel) rfl
theorem kw_1095 : Cond.selects "Cellmarket$Formula" yX5_clear yX5_clear ∈ hs_ws := hs_w 1095 (by decide +kernel) rfl
theorem kw_1096 : Cond.code yX5_clear cX5_clear 1 none ∈ hs_ws := hs_w 1096 (by decide +kernel) rfl
theorem kw_1097 : Cond.methodLink "CellmarketLaw" 169 yL_bids ∈ hs_ws := hs_w 1097 (by decide +kernel) rfl
theorem kw_1098 : Cond.static yL_bids ∈ hs_ws := hs_w 1098 (by decide +kernel) rfl
set_option maxRecDepth 100000 in
theorem kw_1099 : Cond.code yL_bids cL_bids 14 (some FieldType.boolean) ∈ hs_ws := hs_w 1099 (by rfl) rfl
theorem kw_1100 : Cond.methodLink "CellmarketLaw" 173 yL_rings ∈ hs_ws := hs_w 1100 (by decide +kernel) rfl
theorem kw_1101 : Cond.static yL_rings ∈ hs_ws := hs_w 1101 (by decide +kernel) rfl
set_option maxRecDepth 100000 in
theorem kw_1102 : Cond.code yL_rings cL_rings 15 (some FieldType.boolean) ∈ hs_ws := hs_w 1102 (by rfl) rfl
theorem kw_1103 : Cond.constant "CellmarketLaw" 146 49155 ∈ hs_ws := hs_w 1103 (by decide +kernel) rfl
theorem kw_1104 : Cond.constantLong "CellmarketLaw" 147 2 ∈ hs_ws := hs_w 1104 (by decide +kernel) rfl
theorem kw_1105 : Cond.methodLink "CellmarketLaw" 176 yL_strikes ∈ hs_ws := hs_w 1105 (by decide +kernel) rfl
theorem kw_1106 : Cond.static yL_strikes ∈ hs_ws := hs_w 1106 (by decide +kernel) rfl
set_option maxRecDepth 100000 in
theorem kw_1107 : Cond.code yL_strikes cL_strikes 16 (some FieldType.boolean) ∈ hs_ws := hs_w 1107 (by rfl) rfl
theorem kw_1108 : Cond.methodLink "CellmarketLaw" 154 yL_refused ∈ hs_ws := hs_w 1108 (by decide +kernel) rfl
theorem kw_1109 : Cond.static yL_refused ∈ hs_ws := hs_w 1109 (by decide +kernel) rfl
set_option maxRecDepth 100000 in
theorem kw_1110 : Cond.code yL_refused cL_refused 7 (some FieldType.boolean) ∈ hs_ws := hs_w 1110 (by rfl) rfl
theorem kw_1112 : Cond.castable "Cellmarket$Round" "java/lang/Object" ∈ hs_ws := hs_w 1112 (by decide +kernel) rfl
theorem kw_1125 : Cond.castable "Cellmarket$Edit" "java/lang/Object" ∈ hs_ws := hs_w 1125 (by decide +kernel) rfl
theorem kw_1126 : Cond.castable "Cellmarket$Bid" "java/lang/Object" ∈ hs_ws := hs_w 1126 (by decide +kernel) rfl
theorem hk_0 : hs_k 0 = (1, (0, 10)) := rfl
theorem hc_0 : hs_cl0[0]? = some (RX0, TX0, 10) := rfl
theorem i_0 : ∀ w ∈ u_ws RX0 TX0 10, w ∈ hs_ws := List.forall_mem_cons.mpr ⟨kw_867, List.forall_mem_cons.mpr ⟨kw_869, List.forall_mem_cons.mpr ⟨kw_871, List.forall_mem_cons.mpr ⟨kw_873, List.forall_mem_cons.mpr ⟨kw_875, List.forall_mem_cons.mpr ⟨kw_877, List.forall_mem_cons.mpr ⟨kw_879, List.forall_mem_cons.mpr ⟨kw_881, List.forall_mem_cons.mpr ⟨kw_883, List.forall_mem_cons.mpr ⟨kw_885, fun _ h => nomatch h⟩⟩⟩⟩⟩⟩⟩⟩⟩⟩
theorem dv_0 : ∀ j, j < 10 → defaultValue (tyX0 j) = hs_dv 0 j := by decide +kernel
theorem hk_1 : hs_k 1 = (1, (1, 4)) := rfl
theorem hc_1 : hs_cl0[1]? = some (RX1, TX1, 4) := rfl
theorem i_1 : ∀ w ∈ u_ws RX1 TX1 4, w ∈ hs_ws := List.forall_mem_cons.mpr ⟨kw_236, List.forall_mem_cons.mpr ⟨kw_238, List.forall_mem_cons.mpr ⟨kw_240, List.forall_mem_cons.mpr ⟨kw_242, fun _ h => nomatch h⟩⟩⟩⟩
theorem dv_1 : ∀ j, j < 4 → defaultValue (tyX1 j) = hs_dv 1 j := by decide +kernel
theorem hk_2 : hs_k 2 = (1, (2, 2)) := rfl
theorem hc_2 : hs_cl0[2]? = some (RX2, TX2, 2) := rfl
theorem i_2 : ∀ w ∈ u_ws RX2 TX2 2, w ∈ hs_ws := List.forall_mem_cons.mpr ⟨kw_294, List.forall_mem_cons.mpr ⟨kw_296, fun _ h => nomatch h⟩⟩
theorem dv_2 : ∀ j, j < 2 → defaultValue (tyX2 j) = hs_dv 2 j := by decide +kernel
theorem hk_3 : hs_k 3 = (1, (3, 7)) := rfl
theorem hc_3 : hs_cl0[3]? = some (RX3, TX3, 7) := rfl
theorem i_3 : ∀ w ∈ u_ws RX3 TX3 7, w ∈ hs_ws := List.forall_mem_cons.mpr ⟨kw_630, List.forall_mem_cons.mpr ⟨kw_632, List.forall_mem_cons.mpr ⟨kw_634, List.forall_mem_cons.mpr ⟨kw_636, List.forall_mem_cons.mpr ⟨kw_638, List.forall_mem_cons.mpr ⟨kw_640, List.forall_mem_cons.mpr ⟨kw_642, fun _ h => nomatch h⟩⟩⟩⟩⟩⟩⟩
theorem dv_3 : ∀ j, j < 7 → defaultValue (tyX3 j) = hs_dv 3 j := by decide +kernel
theorem hk_4 : hs_k 4 = (1, (4, 10)) := rfl
theorem hc_4 : hs_cl0[4]? = some (RX4, TX4, 10) := rfl
theorem i_4 : ∀ w ∈ u_ws RX4 TX4 10, w ∈ hs_ws := List.forall_mem_cons.mpr ⟨kw_265, List.forall_mem_cons.mpr ⟨kw_267, List.forall_mem_cons.mpr ⟨kw_269, List.forall_mem_cons.mpr ⟨kw_271, List.forall_mem_cons.mpr ⟨kw_273, List.forall_mem_cons.mpr ⟨kw_275, List.forall_mem_cons.mpr ⟨kw_277, List.forall_mem_cons.mpr ⟨kw_279, List.forall_mem_cons.mpr ⟨kw_281, List.forall_mem_cons.mpr ⟨kw_283, fun _ h => nomatch h⟩⟩⟩⟩⟩⟩⟩⟩⟩⟩
theorem dv_4 : ∀ j, j < 10 → defaultValue (tyX4 j) = hs_dv 4 j := by decide +kernel
theorem hk_5 : hs_k 5 = (1, (5, 5)) := rfl
theorem hc_5 : hs_cl0[5]? = some (RX5, TX5, 5) := rfl
theorem i_5 : ∀ w ∈ u_ws RX5 TX5 5, w ∈ hs_ws := List.forall_mem_cons.mpr ⟨kw_121, List.forall_mem_cons.mpr ⟨kw_123, List.forall_mem_cons.mpr ⟨kw_125, List.forall_mem_cons.mpr ⟨kw_127, List.forall_mem_cons.mpr ⟨kw_129, fun _ h => nomatch h⟩⟩⟩⟩⟩
theorem dv_5 : ∀ j, j < 5 → defaultValue (tyX5 j) = hs_dv 5 j := by decide +kernel
theorem hk_6 : hs_k 6 = (1, (6, 6)) := rfl
theorem hc_6 : hs_cl0[6]? = some (RX6, TX6, 6) := rfl
theorem i_6 : ∀ w ∈ u_ws RX6 TX6 6, w ∈ hs_ws := List.forall_mem_cons.mpr ⟨kw_314, List.forall_mem_cons.mpr ⟨kw_316, List.forall_mem_cons.mpr ⟨kw_318, List.forall_mem_cons.mpr ⟨kw_320, List.forall_mem_cons.mpr ⟨kw_322, List.forall_mem_cons.mpr ⟨kw_324, fun _ h => nomatch h⟩⟩⟩⟩⟩⟩
theorem dv_6 : ∀ j, j < 6 → defaultValue (tyX6 j) = hs_dv 6 j := by decide +kernel
theorem hk_7 : hs_k 7 = (1, (7, 2)) := rfl
theorem hc_7 : hs_cl0[7]? = some (RX7, TX7, 2) := rfl
theorem i_7 : ∀ w ∈ u_ws RX7 TX7 2, w ∈ hs_ws := List.forall_mem_cons.mpr ⟨kw_72, List.forall_mem_cons.mpr ⟨kw_74, fun _ h => nomatch h⟩⟩
theorem dv_7 : ∀ j, j < 2 → defaultValue (tyX7 j) = hs_dv 7 j := by decide +kernel
theorem hk_8 : hs_k 8 = (1, (8, 9)) := rfl
theorem hc_8 : hs_cl0[8]? = some (RX8, TX8, 9) := rfl
theorem i_8 : ∀ w ∈ u_ws RX8 TX8 9, w ∈ hs_ws := List.forall_mem_cons.mpr ⟨kw_204, List.forall_mem_cons.mpr ⟨kw_206, List.forall_mem_cons.mpr ⟨kw_208, List.forall_mem_cons.mpr ⟨kw_210, List.forall_mem_cons.mpr ⟨kw_212, List.forall_mem_cons.mpr ⟨kw_214, List.forall_mem_cons.mpr ⟨kw_216, List.forall_mem_cons.mpr ⟨kw_218, List.forall_mem_cons.mpr ⟨kw_220, fun _ h => nomatch h⟩⟩⟩⟩⟩⟩⟩⟩⟩
theorem dv_8 : ∀ j, j < 9 → defaultValue (tyX8 j) = hs_dv 8 j := by decide +kernel
theorem hk_9 : hs_k 9 = (1, (9, 5)) := rfl
theorem hc_9 : hs_cl0[9]? = some (RX9, TX9, 5) := rfl
theorem i_9 : ∀ w ∈ u_ws RX9 TX9 5, w ∈ hs_ws := List.forall_mem_cons.mpr ⟨kw_145, List.forall_mem_cons.mpr ⟨kw_147, List.forall_mem_cons.mpr ⟨kw_149, List.forall_mem_cons.mpr ⟨kw_151, List.forall_mem_cons.mpr ⟨kw_153, fun _ h => nomatch h⟩⟩⟩⟩⟩
theorem dv_9 : ∀ j, j < 5 → defaultValue (tyX9 j) = hs_dv 9 j := by decide +kernel
theorem hk_10 : hs_k 10 = (1, (10, 6)) := rfl
theorem hc_10 : hs_cl0[10]? = some (RX10, TX10, 6) := rfl
theorem i_10 : ∀ w ∈ u_ws RX10 TX10 6, w ∈ hs_ws := List.forall_mem_cons.mpr ⟨kw_333, List.forall_mem_cons.mpr ⟨kw_335, List.forall_mem_cons.mpr ⟨kw_337, List.forall_mem_cons.mpr ⟨kw_339, List.forall_mem_cons.mpr ⟨kw_341, List.forall_mem_cons.mpr ⟨kw_343, fun _ h => nomatch h⟩⟩⟩⟩⟩⟩
theorem dv_10 : ∀ j, j < 6 → defaultValue (tyX10 j) = hs_dv 10 j := by decide +kernel
theorem hk_12 : hs_k 12 = (6, (3, 0)) := rfl
theorem hk_13 : hs_k 13 = (6, (0, 0)) := rfl
theorem hk_14 : hs_k 14 = (6, (8, 0)) := rfl
theorem hk_15 : hs_k 15 = (7, (0, 0)) := rfl
theorem hk_16 : hs_k 16 = (7, (0, 0)) := rfl
theorem hk_17 : hs_k 17 = (7, (0, 0)) := rfl
theorem hk_20 : hs_k 20 = (2, (24, 0)) := rfl
theorem hk_21 : hs_k 21 = (2, (24, 0)) := rfl
theorem hk_22 : hs_k 22 = (2, (12, 0)) := rfl
theorem hk_23 : hs_k 23 = (2, (12, 0)) := rfl
theorem hk_24 : hs_k 24 = (2, (12, 0)) := rfl
theorem hk_25 : hs_k 25 = (2, (4, 0)) := rfl
theorem hk_26 : hs_k 26 = (5, (4, 8)) := rfl
theorem hk_27 : hs_k 27 = (3, (4, 0)) := rfl
theorem hk_28 : hs_k 28 = (5, (24, 5)) := rfl
theorem hk_29 : hs_k 29 = (2, (24, 0)) := rfl
theorem hk_30 : hs_k 30 = (2, (24, 0)) := rfl
theorem hk_31 : hs_k 31 = (2, (24, 0)) := rfl
theorem hk_32 : hs_k 32 = (5, (8, 33)) := rfl
theorem hk_33 : hs_k 33 = (2, (4, 0)) := rfl
theorem hk_34 : hs_k 34 = (2, (291, 0)) := rfl
theorem hk_35 : hs_k 35 = (2, (24, 0)) := rfl
theorem hk_36 : hs_k 36 = (2, (6, 0)) := rfl
theorem hk_37 : hs_k 37 = (2, (6, 0)) := rfl
theorem hk_38 : hs_k 38 = (2, (6, 0)) := rfl
theorem hk_39 : hs_k 39 = (2, (6, 0)) := rfl
theorem hk_100 : hs_k 100 = (4, (1, 0)) := rfl
theorem hk_101 : hs_k 101 = (8, (0, 0)) := rfl
theorem kb10 : (Int8.ofInt 10).toInt32 = 10 := by decide
theorem kb100 : (Int8.ofInt 100).toInt32 = 100 := by decide
theorem kb11 : (Int8.ofInt 11).toInt32 = 11 := by decide
theorem kb114 : (Int8.ofInt 114).toInt32 = 114 := by decide
theorem kb12 : (Int8.ofInt 12).toInt32 = 12 := by decide
theorem kb13 : (Int8.ofInt 13).toInt32 = 13 := by decide
theorem kb14 : (Int8.ofInt 14).toInt32 = 14 := by decide
theorem kb15 : (Int8.ofInt 15).toInt32 = 15 := by decide
theorem kb16 : (Int8.ofInt 16).toInt32 = 16 := by decide
theorem kb17 : (Int8.ofInt 17).toInt32 = 17 := by decide
theorem kb18 : (Int8.ofInt 18).toInt32 = 18 := by decide
theorem kb19 : (Int8.ofInt 19).toInt32 = 19 := by decide
theorem kb20 : (Int8.ofInt 20).toInt32 = 20 := by decide
theorem kb21 : (Int8.ofInt 21).toInt32 = 21 := by decide
theorem kb22 : (Int8.ofInt 22).toInt32 = 22 := by decide
theorem kb23 : (Int8.ofInt 23).toInt32 = 23 := by decide
theorem kb24 : (Int8.ofInt 24).toInt32 = 24 := by decide
theorem kb25 : (Int8.ofInt 25).toInt32 = 25 := by decide
theorem kb26 : (Int8.ofInt 26).toInt32 = 26 := by decide
theorem kb30 : (Int8.ofInt 30).toInt32 = 30 := by decide
theorem kb41 : (Int8.ofInt 41).toInt32 = 41 := by decide
theorem kb45 : (Int8.ofInt 45).toInt32 = 45 := by decide
theorem kb50 : (Int8.ofInt 50).toInt32 = 50 := by decide
theorem kb51 : (Int8.ofInt 51).toInt32 = 51 := by decide
theorem kb6 : (Int8.ofInt 6).toInt32 = 6 := by decide
theorem kb60 : (Int8.ofInt 60).toInt32 = 60 := by decide
theorem kb61 : (Int8.ofInt 61).toInt32 = 61 := by decide
theorem kb7 : (Int8.ofInt 7).toInt32 = 7 := by decide
theorem kb8 : (Int8.ofInt 8).toInt32 = 8 := by decide
theorem kb80 : (Int8.ofInt 80).toInt32 = 80 := by decide
theorem kb9 : (Int8.ofInt 9).toInt32 = 9 := by decide
theorem kc0 : Int32.ofInt 0 = 0 := by decide
theorem kc1 : Int32.ofInt 1 = 1 := by decide
theorem kc2 : Int32.ofInt 2 = 2 := by decide
theorem kc3 : Int32.ofInt 3 = 3 := by decide
theorem kc4 : Int32.ofInt 4 = 4 := by decide
theorem kc5 : Int32.ofInt 5 = 5 := by decide
theorem kcm1 : Int32.ofInt (-1) = (-1) := by decide
theorem kl0 : Int64.ofNat ((0 : Fin 2) : Nat) = 0 := by decide
theorem ks1000 : (Int16.ofInt 1000).toInt32 = 1000 := by decide
theorem ks16384 : (Int16.ofInt 16384).toInt32 = 16384 := by decide
theorem ks185 : (Int16.ofInt 185).toInt32 = 185 := by decide
theorem ks288 : (Int16.ofInt 288).toInt32 = 288 := by decide
theorem ks291 : (Int16.ofInt 291).toInt32 = 291 := by decide
theorem ks400 : (Int16.ofInt 400).toInt32 = 400 := by decide
theorem ks9999 : (Int16.ofInt 9999).toInt32 = 9999 := by decide
theorem nd_J9_floorDiv_7cf53 : yJ9_floorDiv_7cf53.cls ≠ "java/lang/invoke/MethodHandle" ∧ yJ9_floorDiv_7cf53.cls ≠ "java/lang/invoke/VarHandle" ∧ (parseMethodDescriptor yJ9_floorDiv_7cf53.desc).map (fun d => d.parameters.length) = some 2 := ⟨by decide +kernel, by decide +kernel, by decide +kernel⟩
theorem nd_J9_floorMod_7cf53 : yJ9_floorMod_7cf53.cls ≠ "java/lang/invoke/MethodHandle" ∧ yJ9_floorMod_7cf53.cls ≠ "java/lang/invoke/VarHandle" ∧ (parseMethodDescriptor yJ9_floorMod_7cf53.desc).map (fun d => d.parameters.length) = some 2 := ⟨by decide +kernel, by decide +kernel, by decide +kernel⟩
theorem nd_L_all : yL_all.cls ≠ "java/lang/invoke/MethodHandle" ∧ yL_all.cls ≠ "java/lang/invoke/VarHandle" ∧ (parseMethodDescriptor yL_all.desc).map (fun d => d.parameters.length) = some 3 := ⟨by decide +kernel, by decide +kernel, by decide +kernel⟩
theorem nd_L_bids : yL_bids.cls ≠ "java/lang/invoke/MethodHandle" ∧ yL_bids.cls ≠ "java/lang/invoke/VarHandle" ∧ (parseMethodDescriptor yL_bids.desc).map (fun d => d.parameters.length) = some 4 := ⟨by decide +kernel, by decide +kernel, by decide +kernel⟩
theorem nd_L_both : yL_both.cls ≠ "java/lang/invoke/MethodHandle" ∧ yL_both.cls ≠ "java/lang/invoke/VarHandle" ∧ (parseMethodDescriptor yL_both.desc).map (fun d => d.parameters.length) = some 6 := ⟨by decide +kernel, by decide +kernel, by decide +kernel⟩
theorem nd_L_call : yL_call.cls ≠ "java/lang/invoke/MethodHandle" ∧ yL_call.cls ≠ "java/lang/invoke/VarHandle" ∧ (parseMethodDescriptor yL_call.desc).map (fun d => d.parameters.length) = some 5 := ⟨by decide +kernel, by decide +kernel, by decide +kernel⟩
theorem nd_L_cell : yL_cell.cls ≠ "java/lang/invoke/MethodHandle" ∧ yL_cell.cls ≠ "java/lang/invoke/VarHandle" ∧ (parseMethodDescriptor yL_cell.desc).map (fun d => d.parameters.length) = some 2 := ⟨by decide +kernel, by decide +kernel, by decide +kernel⟩
theorem nd_L_does : yL_does.cls ≠ "java/lang/invoke/MethodHandle" ∧ yL_does.cls ≠ "java/lang/invoke/VarHandle" ∧ (parseMethodDescriptor yL_does.desc).map (fun d => d.parameters.length) = some 5 := ⟨by decide +kernel, by decide +kernel, by decide +kernel⟩
theorem nd_L_edits : yL_edits.cls ≠ "java/lang/invoke/MethodHandle" ∧ yL_edits.cls ≠ "java/lang/invoke/VarHandle" ∧ (parseMethodDescriptor yL_edits.desc).map (fun d => d.parameters.length) = some 5 := ⟨by decide +kernel, by decide +kernel, by decide +kernel⟩
theorem nd_L_gives : yL_gives.cls ≠ "java/lang/invoke/MethodHandle" ∧ yL_gives.cls ≠ "java/lang/invoke/VarHandle" ∧ (parseMethodDescriptor yL_gives.desc).map (fun d => d.parameters.length) = some 3 := ⟨by decide +kernel, by decide +kernel, by decide +kernel⟩
theorem nd_L_refused : yL_refused.cls ≠ "java/lang/invoke/MethodHandle" ∧ yL_refused.cls ≠ "java/lang/invoke/VarHandle" ∧ (parseMethodDescriptor yL_refused.desc).map (fun d => d.parameters.length) = some 4 := ⟨by decide +kernel, by decide +kernel, by decide +kernel⟩
theorem nd_L_rings : yL_rings.cls ≠ "java/lang/invoke/MethodHandle" ∧ yL_rings.cls ≠ "java/lang/invoke/VarHandle" ∧ (parseMethodDescriptor yL_rings.desc).map (fun d => d.parameters.length) = some 5 := ⟨by decide +kernel, by decide +kernel, by decide +kernel⟩
theorem nd_L_some : yL_some.cls ≠ "java/lang/invoke/MethodHandle" ∧ yL_some.cls ≠ "java/lang/invoke/VarHandle" ∧ (parseMethodDescriptor yL_some.desc).map (fun d => d.parameters.length) = some 2 := ⟨by decide +kernel, by decide +kernel, by decide +kernel⟩
theorem nd_L_strikes : yL_strikes.cls ≠ "java/lang/invoke/MethodHandle" ∧ yL_strikes.cls ≠ "java/lang/invoke/VarHandle" ∧ (parseMethodDescriptor yL_strikes.desc).map (fun d => d.parameters.length) = some 6 := ⟨by decide +kernel, by decide +kernel, by decide +kernel⟩
theorem nd_X0_feePaid : yX0_feePaid.cls ≠ "java/lang/invoke/MethodHandle" ∧ yX0_feePaid.cls ≠ "java/lang/invoke/VarHandle" ∧ (parseMethodDescriptor yX0_feePaid.desc).map (fun d => d.parameters.length) = some 0 := ⟨by decide +kernel, by decide +kernel, by decide +kernel⟩
theorem nd_X0_goesAhead : yX0_goesAhead.cls ≠ "java/lang/invoke/MethodHandle" ∧ yX0_goesAhead.cls ≠ "java/lang/invoke/VarHandle" ∧ (parseMethodDescriptor yX0_goesAhead.desc).map (fun d => d.parameters.length) = some 1 := ⟨by decide +kernel, by decide +kernel, by decide +kernel⟩
theorem nd_X0_init : yX0_init.cls ≠ "java/lang/invoke/MethodHandle" ∧ yX0_init.cls ≠ "java/lang/invoke/VarHandle" ∧ (parseMethodDescriptor yX0_init.desc).map (fun d => d.parameters.length) = some 7 := ⟨by decide +kernel, by decide +kernel, by decide +kernel⟩
theorem nd_X0_owed : yX0_owed.cls ≠ "java/lang/invoke/MethodHandle" ∧ yX0_owed.cls ≠ "java/lang/invoke/VarHandle" ∧ (parseMethodDescriptor yX0_owed.desc).map (fun d => d.parameters.length) = some 0 := ⟨by decide +kernel, by decide +kernel, by decide +kernel⟩
theorem nd_X0_standsAt : yX0_standsAt.cls ≠ "java/lang/invoke/MethodHandle" ∧ yX0_standsAt.cls ≠ "java/lang/invoke/VarHandle" ∧ (parseMethodDescriptor yX0_standsAt.desc).map (fun d => d.parameters.length) = some 1 := ⟨by decide +kernel, by decide +kernel, by decide +kernel⟩
theorem nd_X0_takesPart : yX0_takesPart.cls ≠ "java/lang/invoke/MethodHandle" ∧ yX0_takesPart.cls ≠ "java/lang/invoke/VarHandle" ∧ (parseMethodDescriptor yX0_takesPart.desc).map (fun d => d.parameters.length) = some 0 := ⟨by decide +kernel, by decide +kernel, by decide +kernel⟩
theorem nd_X0_worth : yX0_worth.cls ≠ "java/lang/invoke/MethodHandle" ∧ yX0_worth.cls ≠ "java/lang/invoke/VarHandle" ∧ (parseMethodDescriptor yX0_worth.desc).map (fun d => d.parameters.length) = some 0 := ⟨by decide +kernel, by decide +kernel, by decide +kernel⟩
theorem nd_X10_bell : yX10_bell.cls ≠ "java/lang/invoke/MethodHandle" ∧ yX10_bell.cls ≠ "java/lang/invoke/VarHandle" ∧ (parseMethodDescriptor yX10_bell.desc).map (fun d => d.parameters.length) = some 1 := ⟨by decide +kernel, by decide +kernel, by decide +kernel⟩
theorem nd_X10_bid : yX10_bid.cls ≠ "java/lang/invoke/MethodHandle" ∧ yX10_bid.cls ≠ "java/lang/invoke/VarHandle" ∧ (parseMethodDescriptor yX10_bid.desc).map (fun d => d.parameters.length) = some 5 := ⟨by decide +kernel, by decide +kernel, by decide +kernel⟩
theorem nd_X10_bidNumbered : yX10_bidNumbered.cls ≠ "java/lang/invoke/MethodHandle" ∧ yX10_bidNumbered.cls ≠ "java/lang/invoke/VarHandle" ∧ (parseMethodDescriptor yX10_bidNumbered.desc).map (fun d => d.parameters.length) = some 1 := ⟨by decide +kernel, by decide +kernel, by decide +kernel⟩
theorem nd_X10_cash : yX10_cash.cls ≠ "java/lang/invoke/MethodHandle" ∧ yX10_cash.cls ≠ "java/lang/invoke/VarHandle" ∧ (parseMethodDescriptor yX10_cash.desc).map (fun d => d.parameters.length) = some 1 := ⟨by decide +kernel, by decide +kernel, by decide +kernel⟩
theorem nd_X10_cellAt : yX10_cellAt.cls ≠ "java/lang/invoke/MethodHandle" ∧ yX10_cellAt.cls ≠ "java/lang/invoke/VarHandle" ∧ (parseMethodDescriptor yX10_cellAt.desc).map (fun d => d.parameters.length) = some 2 := ⟨by decide +kernel, by decide +kernel, by decide +kernel⟩
theorem nd_X10_due : yX10_due.cls ≠ "java/lang/invoke/MethodHandle" ∧ yX10_due.cls ≠ "java/lang/invoke/VarHandle" ∧ (parseMethodDescriptor yX10_due.desc).map (fun d => d.parameters.length) = some 2 := ⟨by decide +kernel, by decide +kernel, by decide +kernel⟩
theorem nd_X10_edit : yX10_edit.cls ≠ "java/lang/invoke/MethodHandle" ∧ yX10_edit.cls ≠ "java/lang/invoke/VarHandle" ∧ (parseMethodDescriptor yX10_edit.desc).map (fun d => d.parameters.length) = some 4 := ⟨by decide +kernel, by decide +kernel, by decide +kernel⟩
theorem nd_X10_edits : yX10_edits.cls ≠ "java/lang/invoke/MethodHandle" ∧ yX10_edits.cls ≠ "java/lang/invoke/VarHandle" ∧ (parseMethodDescriptor yX10_edits.desc).map (fun d => d.parameters.length) = some 2 := ⟨by decide +kernel, by decide +kernel, by decide +kernel⟩
theorem nd_X10_empty : yX10_empty.cls ≠ "java/lang/invoke/MethodHandle" ∧ yX10_empty.cls ≠ "java/lang/invoke/VarHandle" ∧ (parseMethodDescriptor yX10_empty.desc).map (fun d => d.parameters.length) = some 3 := ⟨by decide +kernel, by decide +kernel, by decide +kernel⟩
theorem nd_X10_enter : yX10_enter.cls ≠ "java/lang/invoke/MethodHandle" ∧ yX10_enter.cls ≠ "java/lang/invoke/VarHandle" ∧ (parseMethodDescriptor yX10_enter.desc).map (fun d => d.parameters.length) = some 3 := ⟨by decide +kernel, by decide +kernel, by decide +kernel⟩
theorem nd_X10_events : yX10_events.cls ≠ "java/lang/invoke/MethodHandle" ∧ yX10_events.cls ≠ "java/lang/invoke/VarHandle" ∧ (parseMethodDescriptor yX10_events.desc).map (fun d => d.parameters.length) = some 0 := ⟨by decide +kernel, by decide +kernel, by decide +kernel⟩
theorem nd_X10_exposure : yX10_exposure.cls ≠ "java/lang/invoke/MethodHandle" ∧ yX10_exposure.cls ≠ "java/lang/invoke/VarHandle" ∧ (parseMethodDescriptor yX10_exposure.desc).map (fun d => d.parameters.length) = some 1 := ⟨by decide +kernel, by decide +kernel, by decide +kernel⟩
theorem nd_X10_fault : yX10_fault.cls ≠ "java/lang/invoke/MethodHandle" ∧ yX10_fault.cls ≠ "java/lang/invoke/VarHandle" ∧ (parseMethodDescriptor yX10_fault.desc).map (fun d => d.parameters.length) = some 3 := ⟨by decide +kernel, by decide +kernel, by decide +kernel⟩
theorem nd_X10_give : yX10_give.cls ≠ "java/lang/invoke/MethodHandle" ∧ yX10_give.cls ≠ "java/lang/invoke/VarHandle" ∧ (parseMethodDescriptor yX10_give.desc).map (fun d => d.parameters.length) = some 4 := ⟨by decide +kernel, by decide +kernel, by decide +kernel⟩
theorem nd_X10_got : yX10_got.cls ≠ "java/lang/invoke/MethodHandle" ∧ yX10_got.cls ≠ "java/lang/invoke/VarHandle" ∧ (parseMethodDescriptor yX10_got.desc).map (fun d => d.parameters.length) = some 1 := ⟨by decide +kernel, by decide +kernel, by decide +kernel⟩
theorem nd_X10_init : yX10_init.cls ≠ "java/lang/invoke/MethodHandle" ∧ yX10_init.cls ≠ "java/lang/invoke/VarHandle" ∧ (parseMethodDescriptor yX10_init.desc).map (fun d => d.parameters.length) = some 0 := ⟨by decide +kernel, by decide +kernel, by decide +kernel⟩
theorem nd_X10_isFrozen : yX10_isFrozen.cls ≠ "java/lang/invoke/MethodHandle" ∧ yX10_isFrozen.cls ≠ "java/lang/invoke/VarHandle" ∧ (parseMethodDescriptor yX10_isFrozen.desc).map (fun d => d.parameters.length) = some 1 := ⟨by decide +kernel, by decide +kernel, by decide +kernel⟩
theorem nd_X10_let : yX10_let.cls ≠ "java/lang/invoke/MethodHandle" ∧ yX10_let.cls ≠ "java/lang/invoke/VarHandle" ∧ (parseMethodDescriptor yX10_let.desc).map (fun d => d.parameters.length) = some 6 := ⟨by decide +kernel, by decide +kernel, by decide +kernel⟩
theorem nd_X10_limit : yX10_limit.cls ≠ "java/lang/invoke/MethodHandle" ∧ yX10_limit.cls ≠ "java/lang/invoke/VarHandle" ∧ (parseMethodDescriptor yX10_limit.desc).map (fun d => d.parameters.length) = some 2 := ⟨by decide +kernel, by decide +kernel, by decide +kernel⟩
theorem nd_X10_needColumn : yX10_needColumn.cls ≠ "java/lang/invoke/MethodHandle" ∧ yX10_needColumn.cls ≠ "java/lang/invoke/VarHandle" ∧ (parseMethodDescriptor yX10_needColumn.desc).map (fun d => d.parameters.length) = some 1 := ⟨by decide +kernel, by decide +kernel, by decide +kernel⟩
theorem nd_X10_needEditable : yX10_needEditable.cls ≠ "java/lang/invoke/MethodHandle" ∧ yX10_needEditable.cls ≠ "java/lang/invoke/VarHandle" ∧ (parseMethodDescriptor yX10_needEditable.desc).map (fun d => d.parameters.length) = some 2 := ⟨by decide +kernel, by decide +kernel, by decide +kernel⟩
theorem nd_X10_needOwnCell : yX10_needOwnCell.cls ≠ "java/lang/invoke/MethodHandle" ∧ yX10_needOwnCell.cls ≠ "java/lang/invoke/VarHandle" ∧ (parseMethodDescriptor yX10_needOwnCell.desc).map (fun d => d.parameters.length) = some 2 := ⟨by decide +kernel, by decide +kernel, by decide +kernel⟩
theorem nd_X10_needOwner : yX10_needOwner.cls ≠ "java/lang/invoke/MethodHandle" ∧ yX10_needOwner.cls ≠ "java/lang/invoke/VarHandle" ∧ (parseMethodDescriptor yX10_needOwner.desc).map (fun d => d.parameters.length) = some 1 := ⟨by decide +kernel, by decide +kernel, by decide +kernel⟩
theorem nd_X10_needReader : yX10_needReader.cls ≠ "java/lang/invoke/MethodHandle" ∧ yX10_needReader.cls ≠ "java/lang/invoke/VarHandle" ∧ (parseMethodDescriptor yX10_needReader.desc).map (fun d => d.parameters.length) = some 2 := ⟨by decide +kernel, by decide +kernel, by decide +kernel⟩
theorem nd_X10_notice : yX10_notice.cls ≠ "java/lang/invoke/MethodHandle" ∧ yX10_notice.cls ≠ "java/lang/invoke/VarHandle" ∧ (parseMethodDescriptor yX10_notice.desc).map (fun d => d.parameters.length) = some 2 := ⟨by decide +kernel, by decide +kernel, by decide +kernel⟩
theorem nd_X10_ownerOf : yX10_ownerOf.cls ≠ "java/lang/invoke/MethodHandle" ∧ yX10_ownerOf.cls ≠ "java/lang/invoke/VarHandle" ∧ (parseMethodDescriptor yX10_ownerOf.desc).map (fun d => d.parameters.length) = some 2 := ⟨by decide +kernel, by decide +kernel, by decide +kernel⟩
theorem nd_X10_priceAnew : yX10_priceAnew.cls ≠ "java/lang/invoke/MethodHandle" ∧ yX10_priceAnew.cls ≠ "java/lang/invoke/VarHandle" ∧ (parseMethodDescriptor yX10_priceAnew.desc).map (fun d => d.parameters.length) = some 1 := ⟨by decide +kernel, by decide +kernel, by decide +kernel⟩
theorem nd_X10_reads : yX10_reads.cls ≠ "java/lang/invoke/MethodHandle" ∧ yX10_reads.cls ≠ "java/lang/invoke/VarHandle" ∧ (parseMethodDescriptor yX10_reads.desc).map (fun d => d.parameters.length) = some 3 := ⟨by decide +kernel, by decide +kernel, by decide +kernel⟩
theorem nd_X10_round : yX10_round.cls ≠ "java/lang/invoke/MethodHandle" ∧ yX10_round.cls ≠ "java/lang/invoke/VarHandle" ∧ (parseMethodDescriptor yX10_round.desc).map (fun d => d.parameters.length) = some 2 := ⟨by decide +kernel, by decide +kernel, by decide +kernel⟩
theorem nd_X10_roundNumbered : yX10_roundNumbered.cls ≠ "java/lang/invoke/MethodHandle" ∧ yX10_roundNumbered.cls ≠ "java/lang/invoke/VarHandle" ∧ (parseMethodDescriptor yX10_roundNumbered.desc).map (fun d => d.parameters.length) = some 1 := ⟨by decide +kernel, by decide +kernel, by decide +kernel⟩
theorem nd_X10_settle : yX10_settle.cls ≠ "java/lang/invoke/MethodHandle" ∧ yX10_settle.cls ≠ "java/lang/invoke/VarHandle" ∧ (parseMethodDescriptor yX10_settle.desc).map (fun d => d.parameters.length) = some 1 := ⟨by decide +kernel, by decide +kernel, by decide +kernel⟩
theorem nd_X10_share : yX10_share.cls ≠ "java/lang/invoke/MethodHandle" ∧ yX10_share.cls ≠ "java/lang/invoke/VarHandle" ∧ (parseMethodDescriptor yX10_share.desc).map (fun d => d.parameters.length) = some 2 := ⟨by decide +kernel, by decide +kernel, by decide +kernel⟩
theorem nd_X10_strikeBid : yX10_strikeBid.cls ≠ "java/lang/invoke/MethodHandle" ∧ yX10_strikeBid.cls ≠ "java/lang/invoke/VarHandle" ∧ (parseMethodDescriptor yX10_strikeBid.desc).map (fun d => d.parameters.length) = some 1 := ⟨by decide +kernel, by decide +kernel, by decide +kernel⟩
theorem nd_X10_strikeEdit : yX10_strikeEdit.cls ≠ "java/lang/invoke/MethodHandle" ∧ yX10_strikeEdit.cls ≠ "java/lang/invoke/VarHandle" ∧ (parseMethodDescriptor yX10_strikeEdit.desc).map (fun d => d.parameters.length) = some 1 := ⟨by decide +kernel, by decide +kernel, by decide +kernel⟩
theorem nd_X10_taken : yX10_taken.cls ≠ "java/lang/invoke/MethodHandle" ∧ yX10_taken.cls ≠ "java/lang/invoke/VarHandle" ∧ (parseMethodDescriptor yX10_taken.desc).map (fun d => d.parameters.length) = some 1 := ⟨by decide +kernel, by decide +kernel, by decide +kernel⟩
theorem nd_X10_value : yX10_value.cls ≠ "java/lang/invoke/MethodHandle" ∧ yX10_value.cls ≠ "java/lang/invoke/VarHandle" ∧ (parseMethodDescriptor yX10_value.desc).map (fun d => d.parameters.length) = some 3 := ⟨by decide +kernel, by decide +kernel, by decide +kernel⟩
theorem nd_X10_wipe : yX10_wipe.cls ≠ "java/lang/invoke/MethodHandle" ∧ yX10_wipe.cls ≠ "java/lang/invoke/VarHandle" ∧ (parseMethodDescriptor yX10_wipe.desc).map (fun d => d.parameters.length) = some 0 := ⟨by decide +kernel, by decide +kernel, by decide +kernel⟩
theorem nd_X10_withdraw : yX10_withdraw.cls ≠ "java/lang/invoke/MethodHandle" ∧ yX10_withdraw.cls ≠ "java/lang/invoke/VarHandle" ∧ (parseMethodDescriptor yX10_withdraw.desc).map (fun d => d.parameters.length) = some 2 := ⟨by decide +kernel, by decide +kernel, by decide +kernel⟩
theorem nd_X10_word : yX10_word.cls ≠ "java/lang/invoke/MethodHandle" ∧ yX10_word.cls ≠ "java/lang/invoke/VarHandle" ∧ (parseMethodDescriptor yX10_word.desc).map (fun d => d.parameters.length) = some 3 := ⟨by decide +kernel, by decide +kernel, by decide +kernel⟩
theorem nd_X1_close : yX1_close.cls ≠ "java/lang/invoke/MethodHandle" ∧ yX1_close.cls ≠ "java/lang/invoke/VarHandle" ∧ (parseMethodDescriptor yX1_close.desc).map (fun d => d.parameters.length) = some 2 := ⟨by decide +kernel, by decide +kernel, by decide +kernel⟩
theorem nd_X1_feesOf : yX1_feesOf.cls ≠ "java/lang/invoke/MethodHandle" ∧ yX1_feesOf.cls ≠ "java/lang/invoke/VarHandle" ∧ (parseMethodDescriptor yX1_feesOf.desc).map (fun d => d.parameters.length) = some 1 := ⟨by decide +kernel, by decide +kernel, by decide +kernel⟩
theorem nd_X1_init : yX1_init.cls ≠ "java/lang/invoke/MethodHandle" ∧ yX1_init.cls ≠ "java/lang/invoke/VarHandle" ∧ (parseMethodDescriptor yX1_init.desc).map (fun d => d.parameters.length) = some 0 := ⟨by decide +kernel, by decide +kernel, by decide +kernel⟩
theorem nd_X1_offeredBy : yX1_offeredBy.cls ≠ "java/lang/invoke/MethodHandle" ∧ yX1_offeredBy.cls ≠ "java/lang/invoke/VarHandle" ∧ (parseMethodDescriptor yX1_offeredBy.desc).map (fun d => d.parameters.length) = some 1 := ⟨by decide +kernel, by decide +kernel, by decide +kernel⟩
theorem nd_X1_owedBy : yX1_owedBy.cls ≠ "java/lang/invoke/MethodHandle" ∧ yX1_owedBy.cls ≠ "java/lang/invoke/VarHandle" ∧ (parseMethodDescriptor yX1_owedBy.desc).map (fun d => d.parameters.length) = some 2 := ⟨by decide +kernel, by decide +kernel, by decide +kernel⟩
theorem nd_X2_findPrice : yX2_findPrice.cls ≠ "java/lang/invoke/MethodHandle" ∧ yX2_findPrice.cls ≠ "java/lang/invoke/VarHandle" ∧ (parseMethodDescriptor yX2_findPrice.desc).map (fun d => d.parameters.length) = some 1 := ⟨by decide +kernel, by decide +kernel, by decide +kernel⟩
theorem nd_X2_init : yX2_init.cls ≠ "java/lang/invoke/MethodHandle" ∧ yX2_init.cls ≠ "java/lang/invoke/VarHandle" ∧ (parseMethodDescriptor yX2_init.desc).map (fun d => d.parameters.length) = some 2 := ⟨by decide +kernel, by decide +kernel, by decide +kernel⟩
theorem nd_X2_isOnSide : yX2_isOnSide.cls ≠ "java/lang/invoke/MethodHandle" ∧ yX2_isOnSide.cls ≠ "java/lang/invoke/VarHandle" ∧ (parseMethodDescriptor yX2_isOnSide.desc).map (fun d => d.parameters.length) = some 3 := ⟨by decide +kernel, by decide +kernel, by decide +kernel⟩
theorem nd_X2_partByOrder : yX2_partByOrder.cls ≠ "java/lang/invoke/MethodHandle" ∧ yX2_partByOrder.cls ≠ "java/lang/invoke/VarHandle" ∧ (parseMethodDescriptor yX2_partByOrder.desc).map (fun d => d.parameters.length) = some 1 := ⟨by decide +kernel, by decide +kernel, by decide +kernel⟩
theorem nd_X2_partByShares : yX2_partByShares.cls ≠ "java/lang/invoke/MethodHandle" ∧ yX2_partByShares.cls ≠ "java/lang/invoke/VarHandle" ∧ (parseMethodDescriptor yX2_partByShares.desc).map (fun d => d.parameters.length) = some 2 := ⟨by decide +kernel, by decide +kernel, by decide +kernel⟩
theorem nd_X2_reckon : yX2_reckon.cls ≠ "java/lang/invoke/MethodHandle" ∧ yX2_reckon.cls ≠ "java/lang/invoke/VarHandle" ∧ (parseMethodDescriptor yX2_reckon.desc).map (fun d => d.parameters.length) = some 1 := ⟨by decide +kernel, by decide +kernel, by decide +kernel⟩
theorem nd_X2_reckonAll : yX2_reckonAll.cls ≠ "java/lang/invoke/MethodHandle" ∧ yX2_reckonAll.cls ≠ "java/lang/invoke/VarHandle" ∧ (parseMethodDescriptor yX2_reckonAll.desc).map (fun d => d.parameters.length) = some 0 := ⟨by decide +kernel, by decide +kernel, by decide +kernel⟩
theorem nd_X2_shareOut : yX2_shareOut.cls ≠ "java/lang/invoke/MethodHandle" ∧ yX2_shareOut.cls ≠ "java/lang/invoke/VarHandle" ∧ (parseMethodDescriptor yX2_shareOut.desc).map (fun d => d.parameters.length) = some 1 := ⟨by decide +kernel, by decide +kernel, by decide +kernel⟩
theorem nd_X2_totalOf : yX2_totalOf.cls ≠ "java/lang/invoke/MethodHandle" ∧ yX2_totalOf.cls ≠ "java/lang/invoke/VarHandle" ∧ (parseMethodDescriptor yX2_totalOf.desc).map (fun d => d.parameters.length) = some 2 := ⟨by decide +kernel, by decide +kernel, by decide +kernel⟩
theorem nd_X3_countsAt : yX3_countsAt.cls ≠ "java/lang/invoke/MethodHandle" ∧ yX3_countsAt.cls ≠ "java/lang/invoke/VarHandle" ∧ (parseMethodDescriptor yX3_countsAt.desc).map (fun d => d.parameters.length) = some 1 := ⟨by decide +kernel, by decide +kernel, by decide +kernel⟩
theorem nd_X3_init : yX3_init.cls ≠ "java/lang/invoke/MethodHandle" ∧ yX3_init.cls ≠ "java/lang/invoke/VarHandle" ∧ (parseMethodDescriptor yX3_init.desc).map (fun d => d.parameters.length) = some 6 := ⟨by decide +kernel, by decide +kernel, by decide +kernel⟩
theorem nd_X4_addBid : yX4_addBid.cls ≠ "java/lang/invoke/MethodHandle" ∧ yX4_addBid.cls ≠ "java/lang/invoke/VarHandle" ∧ (parseMethodDescriptor yX4_addBid.desc).map (fun d => d.parameters.length) = some 1 := ⟨by decide +kernel, by decide +kernel, by decide +kernel⟩
theorem nd_X4_faultOf : yX4_faultOf.cls ≠ "java/lang/invoke/MethodHandle" ∧ yX4_faultOf.cls ≠ "java/lang/invoke/VarHandle" ∧ (parseMethodDescriptor yX4_faultOf.desc).map (fun d => d.parameters.length) = some 1 := ⟨by decide +kernel, by decide +kernel, by decide +kernel⟩
theorem nd_X4_find : yX4_find.cls ≠ "java/lang/invoke/MethodHandle" ∧ yX4_find.cls ≠ "java/lang/invoke/VarHandle" ∧ (parseMethodDescriptor yX4_find.desc).map (fun d => d.parameters.length) = some 2 := ⟨by decide +kernel, by decide +kernel, by decide +kernel⟩
theorem nd_X4_forgetFacts : yX4_forgetFacts.cls ≠ "java/lang/invoke/MethodHandle" ∧ yX4_forgetFacts.cls ≠ "java/lang/invoke/VarHandle" ∧ (parseMethodDescriptor yX4_forgetFacts.desc).map (fun d => d.parameters.length) = some 0 := ⟨by decide +kernel, by decide +kernel, by decide +kernel⟩
theorem nd_X4_goThrough : yX4_goThrough.cls ≠ "java/lang/invoke/MethodHandle" ∧ yX4_goThrough.cls ≠ "java/lang/invoke/VarHandle" ∧ (parseMethodDescriptor yX4_goThrough.desc).map (fun d => d.parameters.length) = some 3 := ⟨by decide +kernel, by decide +kernel, by decide +kernel⟩
theorem nd_X4_goTo : yX4_goTo.cls ≠ "java/lang/invoke/MethodHandle" ∧ yX4_goTo.cls ≠ "java/lang/invoke/VarHandle" ∧ (parseMethodDescriptor yX4_goTo.desc).map (fun d => d.parameters.length) = some 2 := ⟨by decide +kernel, by decide +kernel, by decide +kernel⟩
theorem nd_X4_init : yX4_init.cls ≠ "java/lang/invoke/MethodHandle" ∧ yX4_init.cls ≠ "java/lang/invoke/VarHandle" ∧ (parseMethodDescriptor yX4_init.desc).map (fun d => d.parameters.length) = some 2 := ⟨by decide +kernel, by decide +kernel, by decide +kernel⟩
theorem nd_X4_isEmpty : yX4_isEmpty.cls ≠ "java/lang/invoke/MethodHandle" ∧ yX4_isEmpty.cls ≠ "java/lang/invoke/VarHandle" ∧ (parseMethodDescriptor yX4_isEmpty.desc).map (fun d => d.parameters.length) = some 1 := ⟨by decide +kernel, by decide +kernel, by decide +kernel⟩
theorem nd_X4_numberOf : yX4_numberOf.cls ≠ "java/lang/invoke/MethodHandle" ∧ yX4_numberOf.cls ≠ "java/lang/invoke/VarHandle" ∧ (parseMethodDescriptor yX4_numberOf.desc).map (fun d => d.parameters.length) = some 1 := ⟨by decide +kernel, by decide +kernel, by decide +kernel⟩
theorem nd_X4_reckonWord : yX4_reckonWord.cls ≠ "java/lang/invoke/MethodHandle" ∧ yX4_reckonWord.cls ≠ "java/lang/invoke/VarHandle" ∧ (parseMethodDescriptor yX4_reckonWord.desc).map (fun d => d.parameters.length) = some 3 := ⟨by decide +kernel, by decide +kernel, by decide +kernel⟩
theorem nd_X5_append : yX5_append.cls ≠ "java/lang/invoke/MethodHandle" ∧ yX5_append.cls ≠ "java/lang/invoke/VarHandle" ∧ (parseMethodDescriptor yX5_append.desc).map (fun d => d.parameters.length) = some 3 := ⟨by decide +kernel, by decide +kernel, by decide +kernel⟩
theorem nd_X5_clear : yX5_clear.cls ≠ "java/lang/invoke/MethodHandle" ∧ yX5_clear.cls ≠ "java/lang/invoke/VarHandle" ∧ (parseMethodDescriptor yX5_clear.desc).map (fun d => d.parameters.length) = some 0 := ⟨by decide +kernel, by decide +kernel, by decide +kernel⟩
theorem nd_X5_init : yX5_init.cls ≠ "java/lang/invoke/MethodHandle" ∧ yX5_init.cls ≠ "java/lang/invoke/VarHandle" ∧ (parseMethodDescriptor yX5_init.desc).map (fun d => d.parameters.length) = some 0 := ⟨by decide +kernel, by decide +kernel, by decide +kernel⟩
theorem nd_X6_cutAhead : yX6_cutAhead.cls ≠ "java/lang/invoke/MethodHandle" ∧ yX6_cutAhead.cls ≠ "java/lang/invoke/VarHandle" ∧ (parseMethodDescriptor yX6_cutAhead.desc).map (fun d => d.parameters.length) = some 1 := ⟨by decide +kernel, by decide +kernel, by decide +kernel⟩
theorem nd_X6_dueOf : yX6_dueOf.cls ≠ "java/lang/invoke/MethodHandle" ∧ yX6_dueOf.cls ≠ "java/lang/invoke/VarHandle" ∧ (parseMethodDescriptor yX6_dueOf.desc).map (fun d => d.parameters.length) = some 2 := ⟨by decide +kernel, by decide +kernel, by decide +kernel⟩
theorem nd_X6_exposureOf : yX6_exposureOf.cls ≠ "java/lang/invoke/MethodHandle" ∧ yX6_exposureOf.cls ≠ "java/lang/invoke/VarHandle" ∧ (parseMethodDescriptor yX6_exposureOf.desc).map (fun d => d.parameters.length) = some 1 := ⟨by decide +kernel, by decide +kernel, by decide +kernel⟩
theorem nd_X6_init : yX6_init.cls ≠ "java/lang/invoke/MethodHandle" ∧ yX6_init.cls ≠ "java/lang/invoke/VarHandle" ∧ (parseMethodDescriptor yX6_init.desc).map (fun d => d.parameters.length) = some 1 := ⟨by decide +kernel, by decide +kernel, by decide +kernel⟩
theorem nd_X6_payDues : yX6_payDues.cls ≠ "java/lang/invoke/MethodHandle" ∧ yX6_payDues.cls ≠ "java/lang/invoke/VarHandle" ∧ (parseMethodDescriptor yX6_payDues.desc).map (fun d => d.parameters.length) = some 1 := ⟨by decide +kernel, by decide +kernel, by decide +kernel⟩
theorem nd_X7_canRead : yX7_canRead.cls ≠ "java/lang/invoke/MethodHandle" ∧ yX7_canRead.cls ≠ "java/lang/invoke/VarHandle" ∧ (parseMethodDescriptor yX7_canRead.desc).map (fun d => d.parameters.length) = some 2 := ⟨by decide +kernel, by decide +kernel, by decide +kernel⟩
theorem nd_X7_copy : yX7_copy.cls ≠ "java/lang/invoke/MethodHandle" ∧ yX7_copy.cls ≠ "java/lang/invoke/VarHandle" ∧ (parseMethodDescriptor yX7_copy.desc).map (fun d => d.parameters.length) = some 1 := ⟨by decide +kernel, by decide +kernel, by decide +kernel⟩
theorem nd_X7_init : yX7_init.cls ≠ "java/lang/invoke/MethodHandle" ∧ yX7_init.cls ≠ "java/lang/invoke/VarHandle" ∧ (parseMethodDescriptor yX7_init.desc).map (fun d => d.parameters.length) = some 0 := ⟨by decide +kernel, by decide +kernel, by decide +kernel⟩
theorem nd_X7_letRead : yX7_letRead.cls ≠ "java/lang/invoke/MethodHandle" ∧ yX7_letRead.cls ≠ "java/lang/invoke/VarHandle" ∧ (parseMethodDescriptor yX7_letRead.desc).map (fun d => d.parameters.length) = some 5 := ⟨by decide +kernel, by decide +kernel, by decide +kernel⟩
theorem nd_X7_ownedBy : yX7_ownedBy.cls ≠ "java/lang/invoke/MethodHandle" ∧ yX7_ownedBy.cls ≠ "java/lang/invoke/VarHandle" ∧ (parseMethodDescriptor yX7_ownedBy.desc).map (fun d => d.parameters.length) = some 1 := ⟨by decide +kernel, by decide +kernel, by decide +kernel⟩
theorem nd_X8_feeOwner : yX8_feeOwner.cls ≠ "java/lang/invoke/MethodHandle" ∧ yX8_feeOwner.cls ≠ "java/lang/invoke/VarHandle" ∧ (parseMethodDescriptor yX8_feeOwner.desc).map (fun d => d.parameters.length) = some 0 := ⟨by decide +kernel, by decide +kernel, by decide +kernel⟩
theorem nd_X8_freeze : yX8_freeze.cls ≠ "java/lang/invoke/MethodHandle" ∧ yX8_freeze.cls ≠ "java/lang/invoke/VarHandle" ∧ (parseMethodDescriptor yX8_freeze.desc).map (fun d => d.parameters.length) = some 3 := ⟨by decide +kernel, by decide +kernel, by decide +kernel⟩
theorem nd_X8_init : yX8_init.cls ≠ "java/lang/invoke/MethodHandle" ∧ yX8_init.cls ≠ "java/lang/invoke/VarHandle" ∧ (parseMethodDescriptor yX8_init.desc).map (fun d => d.parameters.length) = some 1 := ⟨by decide +kernel, by decide +kernel, by decide +kernel⟩
theorem nd_X8_isCleared : yX8_isCleared.cls ≠ "java/lang/invoke/MethodHandle" ∧ yX8_isCleared.cls ≠ "java/lang/invoke/VarHandle" ∧ (parseMethodDescriptor yX8_isCleared.desc).map (fun d => d.parameters.length) = some 0 := ⟨by decide +kernel, by decide +kernel, by decide +kernel⟩
theorem nd_X8_wasFrozen : yX8_wasFrozen.cls ≠ "java/lang/invoke/MethodHandle" ∧ yX8_wasFrozen.cls ≠ "java/lang/invoke/VarHandle" ∧ (parseMethodDescriptor yX8_wasFrozen.desc).map (fun d => d.parameters.length) = some 0 := ⟨by decide +kernel, by decide +kernel, by decide +kernel⟩
theorem nd_X9_countOf : yX9_countOf.cls ≠ "java/lang/invoke/MethodHandle" ∧ yX9_countOf.cls ≠ "java/lang/invoke/VarHandle" ∧ (parseMethodDescriptor yX9_countOf.desc).map (fun d => d.parameters.length) = some 1 := ⟨by decide +kernel, by decide +kernel, by decide +kernel⟩
theorem nd_X9_counting : yX9_counting.cls ≠ "java/lang/invoke/MethodHandle" ∧ yX9_counting.cls ≠ "java/lang/invoke/VarHandle" ∧ (parseMethodDescriptor yX9_counting.desc).map (fun d => d.parameters.length) = some 2 := ⟨by decide +kernel, by decide +kernel, by decide +kernel⟩
theorem nd_X9_init : yX9_init.cls ≠ "java/lang/invoke/MethodHandle" ∧ yX9_init.cls ≠ "java/lang/invoke/VarHandle" ∧ (parseMethodDescriptor yX9_init.desc).map (fun d => d.parameters.length) = some 0 := ⟨by decide +kernel, by decide +kernel, by decide +kernel⟩
theorem nd_X9_placed : yX9_placed.cls ≠ "java/lang/invoke/MethodHandle" ∧ yX9_placed.cls ≠ "java/lang/invoke/VarHandle" ∧ (parseMethodDescriptor yX9_placed.desc).map (fun d => d.parameters.length) = some 2 := ⟨by decide +kernel, by decide +kernel, by decide +kernel⟩
theorem nd_X9_tell : yX9_tell.cls ≠ "java/lang/invoke/MethodHandle" ∧ yX9_tell.cls ≠ "java/lang/invoke/VarHandle" ∧ (parseMethodDescriptor yX9_tell.desc).map (fun d => d.parameters.length) = some 4 := ⟨by decide +kernel, by decide +kernel, by decide +kernel⟩
theorem kx_fit_IllegalArgumentException : Bundle.fit "java/lang/IllegalArgumentException" = true := by decide +kernel
theorem kx_fit_IllegalStateException : Bundle.fit "java/lang/IllegalStateException" = true := by decide +kernel
theorem kx_fit_IndexOutOfBoundsException : Bundle.fit "java/lang/IndexOutOfBoundsException" = true := by decide +kernel
theorem kx_names : ∀ n ∈ (["java/lang/RuntimeException", "java/lang/Exception"] : List String), Bundle.fit n = true := by decide +kernel
theorem kx_at_IllegalArgumentException_84 : ∀ w ∈ vx_atS RX10 84 "java/lang/IllegalArgumentException" ["java/lang/RuntimeException", "java/lang/Exception"], w ∈ hs_ws := by decide +kernel
theorem kx_ok_IllegalArgumentException_84 : ∀ w ∈ Cond.classLink RX10 80 "java/lang/IllegalArgumentException" :: Cond.initialized "java/lang/IllegalArgumentException" :: vx_atS RX10 84 "java/lang/IllegalArgumentException" ["java/lang/RuntimeException", "java/lang/Exception"], vx_ot w = true := by decide +kernel
theorem kx_at_IllegalStateException_120 : ∀ w ∈ vx_atS RX10 120 "java/lang/IllegalStateException" ["java/lang/RuntimeException", "java/lang/Exception"], w ∈ hs_ws := by decide +kernel
theorem kx_ok_IllegalStateException_120 : ∀ w ∈ Cond.classLink RX10 116 "java/lang/IllegalStateException" :: Cond.initialized "java/lang/IllegalStateException" :: vx_atS RX10 120 "java/lang/IllegalStateException" ["java/lang/RuntimeException", "java/lang/Exception"], vx_ot w = true := by decide +kernel
theorem kx_at_IndexOutOfBoundsException_181 : ∀ w ∈ vx_atS RX10 181 "java/lang/IndexOutOfBoundsException" ["java/lang/RuntimeException", "java/lang/Exception"], w ∈ hs_ws := by decide +kernel
theorem kx_ok_IndexOutOfBoundsException_181 : ∀ w ∈ Cond.classLink RX10 177 "java/lang/IndexOutOfBoundsException" :: Cond.initialized "java/lang/IndexOutOfBoundsException" :: vx_atS RX10 181 "java/lang/IndexOutOfBoundsException" ["java/lang/RuntimeException", "java/lang/Exception"], vx_ot w = true := by decide +kernel
theorem hs_swo0_5 {x : Int32} (c0 : ¬ x = 0) (c1 : ¬ x = 1) (c2 : ¬ x = 2) (c3 : ¬ x = 3) (c4 : ¬ x = 4) (c5 : ¬ x = 5) : x.toInt < 0 ∨ 5 < x.toInt := by
  have h0 : x.toInt ≠ 0 := hs_ne_toInt c0
  have h1 : x.toInt ≠ 1 := hs_ne_toInt c1
  have h2 : x.toInt ≠ 2 := hs_ne_toInt c2
  have h3 : x.toInt ≠ 3 := hs_ne_toInt c3
  have h4 : x.toInt ≠ 4 := hs_ne_toInt c4
  have h5 : x.toInt ≠ 5 := hs_ne_toInt c5
  omega
theorem hs_swo0_6 {x : Int32} (c0 : ¬ x = 0) (c1 : ¬ x = 1) (c2 : ¬ x = 2) (c3 : ¬ x = 3) (c4 : ¬ x = 4) (c5 : ¬ x = 5) (c6 : ¬ x = 6) : x.toInt < 0 ∨ 6 < x.toInt := by
  have h0 : x.toInt ≠ 0 := hs_ne_toInt c0
  have h1 : x.toInt ≠ 1 := hs_ne_toInt c1
  have h2 : x.toInt ≠ 2 := hs_ne_toInt c2
  have h3 : x.toInt ≠ 3 := hs_ne_toInt c3
  have h4 : x.toInt ≠ 4 := hs_ne_toInt c4
  have h5 : x.toInt ≠ 5 := hs_ne_toInt c5
  have h6 : x.toInt ≠ 6 := hs_ne_toInt c6
  omega
theorem hs_swo0_14 {x : Int32} (c0 : ¬ x = 0) (c1 : ¬ x = 1) (c2 : ¬ x = 2) (c3 : ¬ x = 3) (c4 : ¬ x = 4) (c5 : ¬ x = 5) (c6 : ¬ x = 6) (c7 : ¬ x = 7) (c8 : ¬ x = 8) (c9 : ¬ x = 9) (c10 : ¬ x = 10) (c11 : ¬ x = 11) (c12 : ¬ x = 12) (c13 : ¬ x = 13) (c14 : ¬ x = 14) : x.toInt < 0 ∨ 14 < x.toInt := by
  have h0 : x.toInt ≠ 0 := hs_ne_toInt c0
  have h1 : x.toInt ≠ 1 := hs_ne_toInt c1
  have h2 : x.toInt ≠ 2 := hs_ne_toInt c2
  have h3 : x.toInt ≠ 3 := hs_ne_toInt c3
  have h4 : x.toInt ≠ 4 := hs_ne_toInt c4
  have h5 : x.toInt ≠ 5 := hs_ne_toInt c5
  have h6 : x.toInt ≠ 6 := hs_ne_toInt c6
  have h7 : x.toInt ≠ 7 := hs_ne_toInt c7
  have h8 : x.toInt ≠ 8 := hs_ne_toInt c8
  have h9 : x.toInt ≠ 9 := hs_ne_toInt c9
  have h10 : x.toInt ≠ 10 := hs_ne_toInt c10
  have h11 : x.toInt ≠ 11 := hs_ne_toInt c11
  have h12 : x.toInt ≠ 12 := hs_ne_toInt c12
  have h13 : x.toInt ≠ 13 := hs_ne_toInt c13
  have h14 : x.toInt ≠ 14 := hs_ne_toInt c14
  omega
theorem hs_swo0_25 {x : Int32} (c0 : ¬ x = 0) (c1 : ¬ x = 1) (c2 : ¬ x = 2) (c3 : ¬ x = 3) (c4 : ¬ x = 4) (c5 : ¬ x = 5) (c6 : ¬ x = 6) (c7 : ¬ x = 7) (c8 : ¬ x = 8) (c9 : ¬ x = 9) (c10 : ¬ x = 10) (c11 : ¬ x = 11) (c12 : ¬ x = 12) (c13 : ¬ x = 13) (c14 : ¬ x = 14) (c15 : ¬ x = 15) (c16 : ¬ x = 16) (c17 : ¬ x = 17) (c18 : ¬ x = 18) (c19 : ¬ x = 19) (c20 : ¬ x = 20) (c21 : ¬ x = 21) (c22 : ¬ x = 22) (c23 : ¬ x = 23) (c24 : ¬ x = 24) (c25 : ¬ x = 25) : x.toInt < 0 ∨ 25 < x.toInt := by
  have h0 : x.toInt ≠ 0 := hs_ne_toInt c0
  have h1 : x.toInt ≠ 1 := hs_ne_toInt c1
  have h2 : x.toInt ≠ 2 := hs_ne_toInt c2
  have h3 : x.toInt ≠ 3 := hs_ne_toInt c3
  have h4 : x.toInt ≠ 4 := hs_ne_toInt c4
  have h5 : x.toInt ≠ 5 := hs_ne_toInt c5
  have h6 : x.toInt ≠ 6 := hs_ne_toInt c6
  have h7 : x.toInt ≠ 7 := hs_ne_toInt c7
  have h8 : x.toInt ≠ 8 := hs_ne_toInt c8
  have h9 : x.toInt ≠ 9 := hs_ne_toInt c9
  have h10 : x.toInt ≠ 10 := hs_ne_toInt c10
  have h11 : x.toInt ≠ 11 := hs_ne_toInt c11
  have h12 : x.toInt ≠ 12 := hs_ne_toInt c12
  have h13 : x.toInt ≠ 13 := hs_ne_toInt c13
  have h14 : x.toInt ≠ 14 := hs_ne_toInt c14
  have h15 : x.toInt ≠ 15 := hs_ne_toInt c15
  have h16 : x.toInt ≠ 16 := hs_ne_toInt c16
  have h17 : x.toInt ≠ 17 := hs_ne_toInt c17
  have h18 : x.toInt ≠ 18 := hs_ne_toInt c18
  have h19 : x.toInt ≠ 19 := hs_ne_toInt c19
  have h20 : x.toInt ≠ 20 := hs_ne_toInt c20
  have h21 : x.toInt ≠ 21 := hs_ne_toInt c21
  have h22 : x.toInt ≠ 22 := hs_ne_toInt c22
  have h23 : x.toInt ≠ 23 := hs_ne_toInt c23
  have h24 : x.toInt ≠ 24 := hs_ne_toInt c24
  have h25 : x.toInt ≠ 25 := hs_ne_toInt c25
  omega
