theorem kw_1 : Cond.selects "Cellmarket" yX10_needOwnCell yX10_needOwnCell ∈ hs_ws := hs_w 1 (by decide +kernel) rfl
theorem kw_2 : Cond.selects "Cellmarket" yX10_needEditable yX10_needEditable ∈ hs_ws := hs_w 2 (by decide +kernel) rfl
theorem kw_6 : Cond.selects "Cellmarket" yX10_needReader yX10_needReader ∈ hs_ws := hs_w 6 (by decide +kernel) rfl
theorem kw_7 : Cond.selects "Cellmarket$Finder" yX4_forgetFacts yX4_forgetFacts ∈ hs_ws := hs_w 7 (by decide +kernel) rfl
theorem kw_8 : Cond.selects "Cellmarket$Finder" yX4_addBid yX4_addBid ∈ hs_ws := hs_w 8 (by decide +kernel) rfl
theorem kw_9 : Cond.selects "Cellmarket$Finder" yX4_find yX4_find ∈ hs_ws := hs_w 9 (by decide +kernel) rfl
theorem kw_10 : Cond.selects "Cellmarket$Finder" yX4_goThrough yX4_goThrough ∈ hs_ws := hs_w 10 (by decide +kernel) rfl
theorem kw_11 : Cond.selects "Cellmarket$Finder" yX4_reckonWord yX4_reckonWord ∈ hs_ws := hs_w 11 (by decide +kernel) rfl
theorem kw_12 : Cond.selects "Cellmarket" yX10_bidNumbered yX10_bidNumbered ∈ hs_ws := hs_w 12 (by decide +kernel) rfl
theorem kw_13 : Cond.selects "Cellmarket$Clearing" yX2_findPrice yX2_findPrice ∈ hs_ws := hs_w 13 (by decide +kernel) rfl
theorem kw_14 : Cond.selects "Cellmarket$Clearing" yX2_shareOut yX2_shareOut ∈ hs_ws := hs_w 14 (by decide +kernel) rfl
theorem kw_15 : Cond.selects "Cellmarket$Clearing" yX2_totalOf yX2_totalOf ∈ hs_ws := hs_w 15 (by decide +kernel) rfl
theorem kw_16 : Cond.selects "Cellmarket$Clearing" yX2_partByShares yX2_partByShares ∈ hs_ws := hs_w 16 (by decide +kernel) rfl
theorem kw_17 : Cond.selects "Cellmarket$Clearing" yX2_partByOrder yX2_partByOrder ∈ hs_ws := hs_w 17 (by decide +kernel) rfl
theorem kw_18 : Cond.selects "Cellmarket" yX10_roundNumbered yX10_roundNumbered ∈ hs_ws := hs_w 18 (by decide +kernel) rfl
theorem kw_19 : Cond.selects "Cellmarket$Ledger" yX6_cutAhead yX6_cutAhead ∈ hs_ws := hs_w 19 (by decide +kernel) rfl
theorem kw_20 : Cond.selects "CellmarketModel" yX11_asks yX11_asks ∈ hs_ws := hs_w 20 (by decide +kernel) rfl
theorem kw_21 : Cond.selects "CellmarketModel" yX11_ownerAt yX11_ownerAt ∈ hs_ws := hs_w 21 (by decide +kernel) rfl
theorem kw_22 : Cond.selects "CellmarketModel" yX11_fails yX11_fails ∈ hs_ws := hs_w 22 (by decide +kernel) rfl
theorem kw_23 : Cond.selects "CellmarketModel" yX11_act yX11_act ∈ hs_ws := hs_w 23 (by decide +kernel) rfl
theorem kw_24 : Cond.selects "CellmarketModel" yX11_readsAt yX11_readsAt ∈ hs_ws := hs_w 24 (by decide +kernel) rfl
theorem kw_25 : Cond.selects "CellmarketModel" yX11_pileOfDraft yX11_pileOfDraft ∈ hs_ws := hs_w 25 (by decide +kernel) rfl
theorem kw_26 : Cond.selects "CellmarketModel" yX11_tellsEdit yX11_tellsEdit ∈ hs_ws := hs_w 26 (by decide +kernel) rfl
theorem kw_27 : Cond.selects "CellmarketModel" yX11_asked yX11_asked ∈ hs_ws := hs_w 27 (by decide +kernel) rfl
theorem kw_28 : Cond.selects "CellmarketModel" yX11_valueAt yX11_valueAt ∈ hs_ws := hs_w 28 (by decide +kernel) rfl
theorem kw_29 : Cond.selects "CellmarketModel" yX11_starts yX11_starts ∈ hs_ws := hs_w 29 (by decide +kernel) rfl
theorem kw_30 : Cond.selects "CellmarketModel" yX11_isEmptyAt yX11_isEmptyAt ∈ hs_ws := hs_w 30 (by decide +kernel) rfl
theorem kw_31 : Cond.selects "CellmarketModel" yX11_editAt yX11_editAt ∈ hs_ws := hs_w 31 (by decide +kernel) rfl
theorem kw_32 : Cond.selects "CellmarketModel" yX11_goes yX11_goes ∈ hs_ws := hs_w 32 (by decide +kernel) rfl
theorem kw_33 : Cond.selects "CellmarketModel" yX11_isFinding yX11_isFinding ∈ hs_ws := hs_w 33 (by decide +kernel) rfl
theorem kw_34 : Cond.selects "CellmarketModel" yX11_puts yX11_puts ∈ hs_ws := hs_w 34 (by decide +kernel) rfl
theorem kw_35 : Cond.selects "CellmarketModel" yX11_lastAt yX11_lastAt ∈ hs_ws := hs_w 35 (by decide +kernel) rfl
theorem kw_36 : Cond.selects "CellmarketModel" yX11_bidsAt yX11_bidsAt ∈ hs_ws := hs_w 36 (by decide +kernel) rfl
theorem kw_37 : Cond.selects "CellmarketModel" yX11_isThere yX11_isThere ∈ hs_ws := hs_w 37 (by decide +kernel) rfl
theorem kw_38 : Cond.selects "CellmarketModel" yX11_reckons yX11_reckons ∈ hs_ws := hs_w 38 (by decide +kernel) rfl
theorem kw_39 : Cond.selects "CellmarketModel" yX11_editsOf yX11_editsOf ∈ hs_ws := hs_w 39 (by decide +kernel) rfl
theorem kw_40 : Cond.selects "CellmarketModel" yX11_exposureOf yX11_exposureOf ∈ hs_ws := hs_w 40 (by decide +kernel) rfl
theorem kw_41 : Cond.selects "CellmarketModel" yX11_dueOf yX11_dueOf ∈ hs_ws := hs_w 41 (by decide +kernel) rfl
theorem kw_42 : Cond.selects "CellmarketModel" yX11_feesOf yX11_feesOf ∈ hs_ws := hs_w 42 (by decide +kernel) rfl
theorem kw_43 : Cond.selects "CellmarketModel" yX11_feeOf yX11_feeOf ∈ hs_ws := hs_w 43 (by decide +kernel) rfl
theorem kw_44 : Cond.selects "CellmarketModel" yX11_costOf yX11_costOf ∈ hs_ws := hs_w 44 (by decide +kernel) rfl
theorem kw_45 : Cond.selects "CellmarketModel" yX11_isBid yX11_isBid ∈ hs_ws := hs_w 45 (by decide +kernel) rfl
theorem kw_46 : Cond.selects "CellmarketModel" yX11_clears yX11_clears ∈ hs_ws := hs_w 46 (by decide +kernel) rfl
theorem kw_47 : Cond.selects "CellmarketModel" yX11_sumOf yX11_sumOf ∈ hs_ws := hs_w 47 (by decide +kernel) rfl
theorem kw_48 : Cond.selects "CellmarketModel" yX11_takesPart yX11_takesPart ∈ hs_ws := hs_w 48 (by decide +kernel) rfl
theorem kw_49 : Cond.selects "CellmarketModel" yX11_shares yX11_shares ∈ hs_ws := hs_w 49 (by decide +kernel) rfl
theorem kw_50 : Cond.selects "CellmarketModel" yX11_isAhead yX11_isAhead ∈ hs_ws := hs_w 50 (by decide +kernel) rfl
theorem kw_51 : Cond.selects "CellmarketModel" yX11_restOf yX11_restOf ∈ hs_ws := hs_w 51 (by decide +kernel) rfl
theorem kw_52 : Cond.selects "CellmarketModel" yX11_clearsAll yX11_clearsAll ∈ hs_ws := hs_w 52 (by decide +kernel) rfl
theorem kw_53 : Cond.initialized "CellmarketLaw" ∈ hs_ws := hs_w 53 (by decide +kernel) rfl
theorem kw_54 : Cond.initialized "Cellmarket" ∈ hs_ws := hs_w 54 (by decide +kernel) rfl
theorem kw_55 : Cond.initialized "Cellmarket$Sheet" ∈ hs_ws := hs_w 55 (by decide +kernel) rfl
theorem kw_56 : Cond.initialized "Cellmarket$Rights" ∈ hs_ws := hs_w 56 (by decide +kernel) rfl
theorem kw_60 : Cond.initialized "Cellmarket$Formula" ∈ hs_ws := hs_w 60 (by decide +kernel) rfl
theorem kw_61 : Cond.initialized "Cellmarket$Book" ∈ hs_ws := hs_w 61 (by decide +kernel) rfl
theorem kw_62 : Cond.initialized "Cellmarket$Round" ∈ hs_ws := hs_w 62 (by decide +kernel) rfl
theorem kw_63 : Cond.initialized "Cellmarket$Finder" ∈ hs_ws := hs_w 63 (by decide +kernel) rfl
theorem kw_64 : Cond.initialized "Cellmarket$Clearing" ∈ hs_ws := hs_w 64 (by decide +kernel) rfl
theorem kw_65 : Cond.initialized "Cellmarket$Ledger" ∈ hs_ws := hs_w 65 (by decide +kernel) rfl
theorem kw_66 : Cond.initialized "CellmarketModel" ∈ hs_ws := hs_w 66 (by decide +kernel) rfl
theorem kw_70 : Cond.initialized "java/lang/IndexOutOfBoundsException" ∈ hs_ws := hs_w 70 (by decide +kernel) rfl
theorem kw_71 : Cond.initialized "java/lang/IllegalStateException" ∈ hs_ws := hs_w 71 (by decide +kernel) rfl
theorem kw_72 : Cond.initialized "java/lang/IllegalArgumentException" ∈ hs_ws := hs_w 72 (by decide +kernel) rfl
theorem kw_73 : Cond.initialized "java/lang/Math" ∈ hs_ws := hs_w 73 (by decide +kernel) rfl
theorem kw_74 : Cond.initialized "Cellmarket$Edit" ∈ hs_ws := hs_w 74 (by decide +kernel) rfl
theorem kw_77 : Cond.initialized "java/lang/System" ∈ hs_ws := hs_w 77 (by decide +kernel) rfl
theorem kw_80 : Cond.initialized "Cellmarket$Bid" ∈ hs_ws := hs_w 80 (by decide +kernel) rfl
theorem kw_81 : Cond.classLink "CellmarketLaw" 8 "Cellmarket" ∈ hs_ws := hs_w 81 (by decide +kernel) rfl
theorem kw_83 : Cond.methodLink "CellmarketLaw" 105 yX10_init ∈ hs_ws := hs_w 83 (by decide +kernel) rfl
theorem kw_86 : Cond.methodLink "Cellmarket" 1 Lib.objectInit ∈ hs_ws := hs_w 86 (by decide +kernel) rfl
theorem kw_87 : Cond.instanceMethod Lib.objectInit ∈ hs_ws := hs_w 87 (by decide +kernel) rfl
theorem kw_88 : Cond.code Lib.objectInit ⟨#[0xb1]⟩ 1 none ∈ hs_ws := hs_w 88 (by decide +kernel) rfl
theorem kw_89 : Cond.classLink "Cellmarket" 7 "Cellmarket$Sheet" ∈ hs_ws := hs_w 89 (by decide +kernel) rfl
theorem kw_90 : Cond.instantiable "Cellmarket$Sheet" 5 ∈ hs_ws := hs_w 90 (by decide +kernel) rfl
theorem kw_91 : Cond.methodLinkNest "Cellmarket" 9 yX9_init "Cellmarket" ∈ hs_ws := hs_w 91 (by decide +kernel) rfl
theorem kw_92 : Cond.instanceMethod yX9_init ∈ hs_ws := hs_w 92 (by decide +kernel) rfl
theorem kw_93 : Cond.code yX9_init cX9_init 1 none ∈ hs_ws := hs_w 93 (by decide +kernel) rfl
theorem kw_94 : Cond.methodLink "Cellmarket$Sheet" 3 Lib.objectInit ∈ hs_ws := hs_w 94 (by decide +kernel) rfl
theorem kw_95 : Cond.classLink "Cellmarket$Sheet" 9 "Cellmarket$Rights" ∈ hs_ws := hs_w 95 (by decide +kernel) rfl
theorem kw_96 : Cond.instantiable "Cellmarket$Rights" 2 ∈ hs_ws := hs_w 96 (by decide +kernel) rfl
theorem kw_97 : Cond.methodLink "Cellmarket$Sheet" 11 yX7_init ∈ hs_ws := hs_w 97 (by decide +kernel) rfl
theorem kw_98 : Cond.instanceMethod yX7_init ∈ hs_ws := hs_w 98 (by decide +kernel) rfl
theorem kw_99 : Cond.code yX7_init cX7_init 2 none ∈ hs_ws := hs_w 99 (by decide +kernel) rfl
theorem kw_100 : Cond.methodLink "Cellmarket$Rights" 3 Lib.objectInit ∈ hs_ws := hs_w 100 (by decide +kernel) rfl
theorem kw_101 : Cond.fieldLink "Cellmarket$Rights" 9 "Cellmarket$Rights" "owner" "[I" ∈ hs_ws := hs_w 101 (by decide +kernel) rfl
theorem kw_102 : Cond.fieldLink "Cellmarket" 70 "Cellmarket$Rights" "owner" "[I" ∈ hs_ws := hs_w 102 (by decide +kernel) rfl
theorem kw_103 : Cond.fieldLink "Cellmarket$Round" 45 "Cellmarket$Rights" "owner" "[I" ∈ hs_ws := hs_w 103 (by decide +kernel) rfl
theorem kw_104 : Cond.fieldLink "Cellmarket$Finder" 162 "Cellmarket$Rights" "owner" "[I" ∈ hs_ws := hs_w 104 (by decide +kernel) rfl
theorem kw_105 : Cond.fieldLink "Cellmarket$Rights" 15 "Cellmarket$Rights" "readers" "[I" ∈ hs_ws := hs_w 105 (by decide +kernel) rfl
theorem kw_106 : Cond.laysFinal "Cellmarket$Rights" "Cellmarket$Rights" "owner" "[I" ∈ hs_ws := hs_w 106 (by decide +kernel) rfl
theorem kw_108 : Cond.laysFinal "Cellmarket$Rights" "Cellmarket$Rights" "readers" "[I" ∈ hs_ws := hs_w 108 (by decide +kernel) rfl
theorem kw_111 : Cond.arrayClass .int ∈ hs_ws := hs_w 111 (by decide +kernel) rfl
theorem kw_112 : Cond.classLink "Cellmarket$Sheet" 18 "java/util/ArrayList" ∈ hs_ws := hs_w 112 (by decide +kernel) rfl
theorem kw_114 : Cond.methodLink "Cellmarket$Sheet" 20 yJx4a65c_init_da8c8 ∈ hs_ws := hs_w 114 (by decide +kernel) rfl
theorem kw_138 : Cond.classLink "Cellmarket$Sheet" 29 "Cellmarket$Formula" ∈ hs_ws := hs_w 138 (by decide +kernel) rfl
theorem kw_139 : Cond.instantiable "Cellmarket$Formula" 5 ∈ hs_ws := hs_w 139 (by decide +kernel) rfl
theorem kw_140 : Cond.methodLinkNest "Cellmarket$Sheet" 31 yX5_init "Cellmarket" ∈ hs_ws := hs_w 140 (by decide +kernel) rfl
theorem kw_141 : Cond.instanceMethod yX5_init ∈ hs_ws := hs_w 141 (by decide +kernel) rfl
theorem kw_142 : Cond.code yX5_init cX5_init 1 none ∈ hs_ws := hs_w 142 (by decide +kernel) rfl
theorem kw_143 : Cond.methodLink "Cellmarket$Formula" 3 Lib.objectInit ∈ hs_ws := hs_w 143 (by decide +kernel) rfl
theorem kw_144 : Cond.fieldLink "Cellmarket$Formula" 9 "Cellmarket$Formula" "what" "[I" ∈ hs_ws := hs_w 144 (by decide +kernel) rfl
theorem kw_145 : Cond.fieldLink "Cellmarket$Finder" 145 "Cellmarket$Formula" "what" "[I" ∈ hs_ws := hs_w 145 (by decide +kernel) rfl
theorem kw_146 : Cond.fieldLink "Cellmarket$Formula" 15 "Cellmarket$Formula" "one" "[I" ∈ hs_ws := hs_w 146 (by decide +kernel) rfl
theorem kw_147 : Cond.fieldLink "Cellmarket$Finder" 152 "Cellmarket$Formula" "one" "[I" ∈ hs_ws := hs_w 147 (by decide +kernel) rfl
theorem kw_148 : Cond.fieldLink "Cellmarket$Formula" 18 "Cellmarket$Formula" "two" "[I" ∈ hs_ws := hs_w 148 (by decide +kernel) rfl
theorem kw_149 : Cond.fieldLink "Cellmarket$Finder" 159 "Cellmarket$Formula" "two" "[I" ∈ hs_ws := hs_w 149 (by decide +kernel) rfl
theorem kw_150 : Cond.fieldLink "Cellmarket$Formula" 21 "Cellmarket$Formula" "many" "I" ∈ hs_ws := hs_w 150 (by decide +kernel) rfl
theorem kw_151 : Cond.fieldLink "Cellmarket$Finder" 114 "Cellmarket$Formula" "many" "I" ∈ hs_ws := hs_w 151 (by decide +kernel) rfl
theorem kw_152 : Cond.fieldLink "Cellmarket" 111 "Cellmarket$Formula" "many" "I" ∈ hs_ws := hs_w 152 (by decide +kernel) rfl
theorem kw_153 : Cond.fieldLink "Cellmarket$Formula" 25 "Cellmarket$Formula" "height" "I" ∈ hs_ws := hs_w 153 (by decide +kernel) rfl
theorem kw_154 : Cond.fieldLink "Cellmarket" 121 "Cellmarket$Formula" "height" "I" ∈ hs_ws := hs_w 154 (by decide +kernel) rfl
theorem kw_155 : Cond.laysFinal "Cellmarket$Formula" "Cellmarket$Formula" "what" "[I" ∈ hs_ws := hs_w 155 (by decide +kernel) rfl
theorem kw_157 : Cond.laysFinal "Cellmarket$Formula" "Cellmarket$Formula" "one" "[I" ∈ hs_ws := hs_w 157 (by decide +kernel) rfl
theorem kw_159 : Cond.laysFinal "Cellmarket$Formula" "Cellmarket$Formula" "two" "[I" ∈ hs_ws := hs_w 159 (by decide +kernel) rfl
theorem kw_161 : Cond.lays "Cellmarket$Formula" "Cellmarket$Formula" "many" "I" ∈ hs_ws := hs_w 161 (by decide +kernel) rfl
theorem kw_163 : Cond.lays "Cellmarket$Formula" "Cellmarket$Formula" "height" "I" ∈ hs_ws := hs_w 163 (by decide +kernel) rfl
theorem kw_166 : Cond.fieldLink "Cellmarket$Sheet" 12 "Cellmarket$Sheet" "rights" "LCellmarket$Rights;" ∈ hs_ws := hs_w 166 (by decide +kernel) rfl
theorem kw_167 : Cond.fieldLink "Cellmarket$Finder" 47 "Cellmarket$Sheet" "rights" "LCellmarket$Rights;" ∈ hs_ws := hs_w 167 (by decide +kernel) rfl
theorem kw_168 : Cond.fieldLink "Cellmarket" 66 "Cellmarket$Sheet" "rights" "LCellmarket$Rights;" ∈ hs_ws := hs_w 168 (by decide +kernel) rfl
theorem kw_169 : Cond.fieldLink "Cellmarket$Sheet" 21 "Cellmarket$Sheet" "edits" "Ljava/util/List;" ∈ hs_ws := hs_w 169 (by decide +kernel) rfl
theorem kw_170 : Cond.fieldLink "Cellmarket$Finder" 58 "Cellmarket$Sheet" "edits" "Ljava/util/List;" ∈ hs_ws := hs_w 170 (by decide +kernel) rfl
theorem kw_171 : Cond.fieldLink "Cellmarket" 348 "Cellmarket$Sheet" "edits" "Ljava/util/List;" ∈ hs_ws := hs_w 171 (by decide +kernel) rfl
theorem kw_172 : Cond.fieldLink "Cellmarket$Sheet" 25 "Cellmarket$Sheet" "notices" "[I" ∈ hs_ws := hs_w 172 (by decide +kernel) rfl
theorem kw_173 : Cond.fieldLink "Cellmarket" 154 "Cellmarket$Sheet" "notices" "[I" ∈ hs_ws := hs_w 173 (by decide +kernel) rfl
theorem kw_174 : Cond.fieldLink "Cellmarket$Sheet" 32 "Cellmarket$Sheet" "blank" "LCellmarket$Formula;" ∈ hs_ws := hs_w 174 (by decide +kernel) rfl
theorem kw_175 : Cond.fieldLink "Cellmarket$Finder" 54 "Cellmarket$Sheet" "blank" "LCellmarket$Formula;" ∈ hs_ws := hs_w 175 (by decide +kernel) rfl
theorem kw_176 : Cond.fieldLink "Cellmarket" 146 "Cellmarket$Sheet" "blank" "LCellmarket$Formula;" ∈ hs_ws := hs_w 176 (by decide +kernel) rfl
theorem kw_177 : Cond.fieldLink "Cellmarket$Sheet" 36 "Cellmarket$Sheet" "draft" "LCellmarket$Formula;" ∈ hs_ws := hs_w 177 (by decide +kernel) rfl
theorem kw_178 : Cond.fieldLink "Cellmarket" 107 "Cellmarket$Sheet" "draft" "LCellmarket$Formula;" ∈ hs_ws := hs_w 178 (by decide +kernel) rfl
theorem kw_179 : Cond.laysFinal "Cellmarket$Sheet" "Cellmarket$Sheet" "rights" "LCellmarket$Rights;" ∈ hs_ws := hs_w 179 (by decide +kernel) rfl
theorem kw_181 : Cond.laysFinal "Cellmarket$Sheet" "Cellmarket$Sheet" "edits" "Ljava/util/List;" ∈ hs_ws := hs_w 181 (by decide +kernel) rfl
theorem kw_183 : Cond.laysFinal "Cellmarket$Sheet" "Cellmarket$Sheet" "notices" "[I" ∈ hs_ws := hs_w 183 (by decide +kernel) rfl
theorem kw_185 : Cond.laysFinal "Cellmarket$Sheet" "Cellmarket$Sheet" "blank" "LCellmarket$Formula;" ∈ hs_ws := hs_w 185 (by decide +kernel) rfl
theorem kw_187 : Cond.lays "Cellmarket$Sheet" "Cellmarket$Sheet" "draft" "LCellmarket$Formula;" ∈ hs_ws := hs_w 187 (by decide +kernel) rfl
theorem kw_190 : Cond.classLink "Cellmarket" 16 "Cellmarket$Book" ∈ hs_ws := hs_w 190 (by decide +kernel) rfl
theorem kw_191 : Cond.instantiable "Cellmarket$Book" 4 ∈ hs_ws := hs_w 191 (by decide +kernel) rfl
theorem kw_192 : Cond.methodLink "Cellmarket" 18 yX1_init ∈ hs_ws := hs_w 192 (by decide +kernel) rfl
theorem kw_193 : Cond.instanceMethod yX1_init ∈ hs_ws := hs_w 193 (by decide +kernel) rfl
theorem kw_194 : Cond.code yX1_init cX1_init 2 none ∈ hs_ws := hs_w 194 (by decide +kernel) rfl
theorem kw_195 : Cond.methodLink "Cellmarket$Book" 3 Lib.objectInit ∈ hs_ws := hs_w 195 (by decide +kernel) rfl
theorem kw_196 : Cond.classLink "Cellmarket$Book" 9 "java/util/ArrayList" ∈ hs_ws := hs_w 196 (by decide +kernel) rfl
theorem kw_197 : Cond.methodLink "Cellmarket$Book" 11 yJx4a65c_init_da8c8 ∈ hs_ws := hs_w 197 (by decide +kernel) rfl
theorem kw_198 : Cond.classLink "Cellmarket$Book" 18 "Cellmarket$Round" ∈ hs_ws := hs_w 198 (by decide +kernel) rfl
theorem kw_200 : Cond.instantiable "Cellmarket$Round" 9 ∈ hs_ws := hs_w 200 (by decide +kernel) rfl
theorem kw_201 : Cond.methodLink "Cellmarket$Book" 31 yX8_init ∈ hs_ws := hs_w 201 (by decide +kernel) rfl
theorem kw_202 : Cond.instanceMethod yX8_init ∈ hs_ws := hs_w 202 (by decide +kernel) rfl
theorem kw_203 : Cond.code yX8_init cX8_init 2 none ∈ hs_ws := hs_w 203 (by decide +kernel) rfl
theorem kw_204 : Cond.methodLink "Cellmarket$Round" 3 Lib.objectInit ∈ hs_ws := hs_w 204 (by decide +kernel) rfl
theorem kw_205 : Cond.constant "Cellmarket$Round" 9 2147483647 ∈ hs_ws := hs_w 205 (by decide +kernel) rfl
theorem kw_206 : Cond.classLink "Cellmarket$Round" 23 "Cellmarket$Rights" ∈ hs_ws := hs_w 206 (by decide +kernel) rfl
theorem kw_207 : Cond.methodLink "Cellmarket$Round" 25 yX7_init ∈ hs_ws := hs_w 207 (by decide +kernel) rfl
theorem kw_208 : Cond.fieldLink "Cellmarket$Round" 42 "Cellmarket$Round" "column" "I" ∈ hs_ws := hs_w 208 (by decide +kernel) rfl
theorem kw_209 : Cond.fieldLink "Cellmarket$Book" 47 "Cellmarket$Round" "column" "I" ∈ hs_ws := hs_w 209 (by decide +kernel) rfl
theorem kw_210 : Cond.fieldLink "Cellmarket$Finder" 111 "Cellmarket$Round" "column" "I" ∈ hs_ws := hs_w 210 (by decide +kernel) rfl
theorem kw_211 : Cond.fieldLink "Cellmarket$Clearing" 71 "Cellmarket$Round" "column" "I" ∈ hs_ws := hs_w 211 (by decide +kernel) rfl
theorem kw_212 : Cond.fieldLink "Cellmarket" 271 "Cellmarket$Round" "column" "I" ∈ hs_ws := hs_w 212 (by decide +kernel) rfl
theorem kw_213 : Cond.fieldLink "Cellmarket$Round" 10 "Cellmarket$Round" "frozen" "I" ∈ hs_ws := hs_w 213 (by decide +kernel) rfl
theorem kw_214 : Cond.fieldLink "Cellmarket$Clearing" 51 "Cellmarket$Round" "frozen" "I" ∈ hs_ws := hs_w 214 (by decide +kernel) rfl
theorem kw_215 : Cond.fieldLink "Cellmarket$Round" 16 "Cellmarket$Round" "cleared" "I" ∈ hs_ws := hs_w 215 (by decide +kernel) rfl
theorem kw_216 : Cond.fieldLink "Cellmarket$Book" 40 "Cellmarket$Round" "cleared" "I" ∈ hs_ws := hs_w 216 (by decide +kernel) rfl
theorem kw_217 : Cond.fieldLink "Cellmarket$Bid" 45 "Cellmarket$Round" "cleared" "I" ∈ hs_ws := hs_w 217 (by decide +kernel) rfl
theorem kw_218 : Cond.fieldLink "Cellmarket$Finder" 106 "Cellmarket$Round" "cleared" "I" ∈ hs_ws := hs_w 218 (by decide +kernel) rfl
theorem kw_219 : Cond.fieldLink "Cellmarket$Round" 19 "Cellmarket$Round" "byShares" "Z" ∈ hs_ws := hs_w 219 (by decide +kernel) rfl
theorem kw_220 : Cond.fieldLink "Cellmarket$Clearing" 114 "Cellmarket$Round" "byShares" "Z" ∈ hs_ws := hs_w 220 (by decide +kernel) rfl
theorem kw_221 : Cond.fieldLink "Cellmarket$Round" 26 "Cellmarket$Round" "rights" "LCellmarket$Rights;" ∈ hs_ws := hs_w 221 (by decide +kernel) rfl
theorem kw_222 : Cond.fieldLink "Cellmarket$Clearing" 54 "Cellmarket$Round" "rights" "LCellmarket$Rights;" ∈ hs_ws := hs_w 222 (by decide +kernel) rfl
theorem kw_223 : Cond.fieldLink "Cellmarket$Round" 30 "Cellmarket$Round" "price" "I" ∈ hs_ws := hs_w 223 (by decide +kernel) rfl
theorem kw_224 : Cond.fieldLink "Cellmarket$Finder" 108 "Cellmarket$Round" "price" "I" ∈ hs_ws := hs_w 224 (by decide +kernel) rfl
theorem kw_225 : Cond.fieldLink "Cellmarket$Clearing" 41 "Cellmarket$Round" "price" "I" ∈ hs_ws := hs_w 225 (by decide +kernel) rfl
theorem kw_226 : Cond.fieldLink "Cellmarket$Bid" 50 "Cellmarket$Round" "price" "I" ∈ hs_ws := hs_w 226 (by decide +kernel) rfl
theorem kw_227 : Cond.fieldLink "Cellmarket" 307 "Cellmarket$Round" "price" "I" ∈ hs_ws := hs_w 227 (by decide +kernel) rfl
theorem kw_228 : Cond.fieldLink "Cellmarket$Round" 33 "Cellmarket$Round" "volume" "I" ∈ hs_ws := hs_w 228 (by decide +kernel) rfl
theorem kw_229 : Cond.fieldLink "Cellmarket$Clearing" 45 "Cellmarket$Round" "volume" "I" ∈ hs_ws := hs_w 229 (by decide +kernel) rfl
theorem kw_230 : Cond.fieldLink "Cellmarket" 310 "Cellmarket$Round" "volume" "I" ∈ hs_ws := hs_w 230 (by decide +kernel) rfl
theorem kw_231 : Cond.fieldLink "Cellmarket$Round" 36 "Cellmarket$Round" "fee" "I" ∈ hs_ws := hs_w 231 (by decide +kernel) rfl
theorem kw_232 : Cond.fieldLink "Cellmarket$Clearing" 48 "Cellmarket$Round" "fee" "I" ∈ hs_ws := hs_w 232 (by decide +kernel) rfl
theorem kw_233 : Cond.fieldLink "Cellmarket$Bid" 57 "Cellmarket$Round" "fee" "I" ∈ hs_ws := hs_w 233 (by decide +kernel) rfl
theorem kw_234 : Cond.fieldLink "Cellmarket" 313 "Cellmarket$Round" "fee" "I" ∈ hs_ws := hs_w 234 (by decide +kernel) rfl
theorem kw_235 : Cond.fieldLink "Cellmarket$Round" 39 "Cellmarket$Round" "why" "I" ∈ hs_ws := hs_w 235 (by decide +kernel) rfl
theorem kw_236 : Cond.fieldLink "Cellmarket$Clearing" 85 "Cellmarket$Round" "why" "I" ∈ hs_ws := hs_w 236 (by decide +kernel) rfl
theorem kw_237 : Cond.fieldLink "Cellmarket" 316 "Cellmarket$Round" "why" "I" ∈ hs_ws := hs_w 237 (by decide +kernel) rfl
theorem kw_238 : Cond.laysFinal "Cellmarket$Round" "Cellmarket$Round" "column" "I" ∈ hs_ws := hs_w 238 (by decide +kernel) rfl
theorem kw_240 : Cond.lays "Cellmarket$Round" "Cellmarket$Round" "frozen" "I" ∈ hs_ws := hs_w 240 (by decide +kernel) rfl
theorem kw_242 : Cond.lays "Cellmarket$Round" "Cellmarket$Round" "cleared" "I" ∈ hs_ws := hs_w 242 (by decide +kernel) rfl
theorem kw_244 : Cond.lays "Cellmarket$Round" "Cellmarket$Round" "byShares" "Z" ∈ hs_ws := hs_w 244 (by decide +kernel) rfl
theorem kw_246 : Cond.laysFinal "Cellmarket$Round" "Cellmarket$Round" "rights" "LCellmarket$Rights;" ∈ hs_ws := hs_w 246 (by decide +kernel) rfl
theorem kw_248 : Cond.lays "Cellmarket$Round" "Cellmarket$Round" "price" "I" ∈ hs_ws := hs_w 248 (by decide +kernel) rfl
theorem kw_250 : Cond.lays "Cellmarket$Round" "Cellmarket$Round" "volume" "I" ∈ hs_ws := hs_w 250 (by decide +kernel) rfl
theorem kw_252 : Cond.lays "Cellmarket$Round" "Cellmarket$Round" "fee" "I" ∈ hs_ws := hs_w 252 (by decide +kernel) rfl
theorem kw_254 : Cond.lays "Cellmarket$Round" "Cellmarket$Round" "why" "I" ∈ hs_ws := hs_w 254 (by decide +kernel) rfl
theorem kw_257 : Cond.arrayClass .boolean ∈ hs_ws := hs_w 257 (by decide +kernel) rfl
theorem kw_258 : Cond.fieldLink "Cellmarket$Book" 12 "Cellmarket$Book" "bids" "Ljava/util/List;" ∈ hs_ws := hs_w 258 (by decide +kernel) rfl
theorem kw_259 : Cond.fieldLink "Cellmarket$Finder" 87 "Cellmarket$Book" "bids" "Ljava/util/List;" ∈ hs_ws := hs_w 259 (by decide +kernel) rfl
theorem kw_260 : Cond.fieldLink "Cellmarket$Clearing" 101 "Cellmarket$Book" "bids" "Ljava/util/List;" ∈ hs_ws := hs_w 260 (by decide +kernel) rfl
theorem kw_261 : Cond.fieldLink "Cellmarket" 224 "Cellmarket$Book" "bids" "Ljava/util/List;" ∈ hs_ws := hs_w 261 (by decide +kernel) rfl
theorem kw_262 : Cond.fieldLink "Cellmarket$Book" 20 "Cellmarket$Book" "current" "[LCellmarket$Round;" ∈ hs_ws := hs_w 262 (by decide +kernel) rfl
theorem kw_263 : Cond.fieldLink "Cellmarket" 212 "Cellmarket$Book" "current" "[LCellmarket$Round;" ∈ hs_ws := hs_w 263 (by decide +kernel) rfl
theorem kw_264 : Cond.fieldLink "Cellmarket$Book" 24 "Cellmarket$Book" "cleared" "Ljava/util/List;" ∈ hs_ws := hs_w 264 (by decide +kernel) rfl
theorem kw_265 : Cond.fieldLink "Cellmarket$Clearing" 19 "Cellmarket$Book" "cleared" "Ljava/util/List;" ∈ hs_ws := hs_w 265 (by decide +kernel) rfl
theorem kw_266 : Cond.fieldLink "Cellmarket$Finder" 101 "Cellmarket$Book" "cleared" "Ljava/util/List;" ∈ hs_ws := hs_w 266 (by decide +kernel) rfl
theorem kw_267 : Cond.fieldLink "Cellmarket" 290 "Cellmarket$Book" "cleared" "Ljava/util/List;" ∈ hs_ws := hs_w 267 (by decide +kernel) rfl
theorem kw_268 : Cond.fieldLink "Cellmarket$Book" 27 "Cellmarket$Book" "byShares" "[Z" ∈ hs_ws := hs_w 268 (by decide +kernel) rfl
theorem kw_269 : Cond.fieldLink "Cellmarket" 282 "Cellmarket$Book" "byShares" "[Z" ∈ hs_ws := hs_w 269 (by decide +kernel) rfl
theorem kw_270 : Cond.laysFinal "Cellmarket$Book" "Cellmarket$Book" "bids" "Ljava/util/List;" ∈ hs_ws := hs_w 270 (by decide +kernel) rfl
theorem kw_272 : Cond.laysFinal "Cellmarket$Book" "Cellmarket$Book" "current" "[LCellmarket$Round;" ∈ hs_ws := hs_w 272 (by decide +kernel) rfl
theorem kw_274 : Cond.laysFinal "Cellmarket$Book" "Cellmarket$Book" "cleared" "Ljava/util/List;" ∈ hs_ws := hs_w 274 (by decide +kernel) rfl
theorem kw_276 : Cond.laysFinal "Cellmarket$Book" "Cellmarket$Book" "byShares" "[Z" ∈ hs_ws := hs_w 276 (by decide +kernel) rfl
theorem kw_279 : Cond.classLink "Cellmarket" 23 "Cellmarket$Finder" ∈ hs_ws := hs_w 279 (by decide +kernel) rfl
theorem kw_280 : Cond.instantiable "Cellmarket$Finder" 10 ∈ hs_ws := hs_w 280 (by decide +kernel) rfl
theorem kw_281 : Cond.methodLink "Cellmarket" 25 yX4_init ∈ hs_ws := hs_w 281 (by decide +kernel) rfl
theorem kw_282 : Cond.instanceMethod yX4_init ∈ hs_ws := hs_w 282 (by decide +kernel) rfl
theorem kw_283 : Cond.code yX4_init cX4_init 4 none ∈ hs_ws := hs_w 283 (by decide +kernel) rfl
theorem kw_284 : Cond.methodLink "Cellmarket$Finder" 3 Lib.objectInit ∈ hs_ws := hs_w 284 (by decide +kernel) rfl
theorem kw_285 : Cond.classLink "Cellmarket$Finder" 9 "Cellmarket$Formula" ∈ hs_ws := hs_w 285 (by decide +kernel) rfl
theorem kw_287 : Cond.classLink "Cellmarket$Finder" 27 "[[I" ∈ hs_ws := hs_w 287 (by decide +kernel) rfl
theorem kw_289 : Cond.fieldLink "Cellmarket$Finder" 39 "Cellmarket$Finder" "sheet" "LCellmarket$Sheet;" ∈ hs_ws := hs_w 289 (by decide +kernel) rfl
theorem kw_290 : Cond.fieldLink "Cellmarket$Finder" 43 "Cellmarket$Finder" "book" "LCellmarket$Book;" ∈ hs_ws := hs_w 290 (by decide +kernel) rfl
theorem kw_291 : Cond.fieldLink "Cellmarket$Finder" 53 "Cellmarket$Finder" "rights" "LCellmarket$Rights;" ∈ hs_ws := hs_w 291 (by decide +kernel) rfl
theorem kw_292 : Cond.fieldLink "Cellmarket$Finder" 11 "Cellmarket$Finder" "formulas" "[LCellmarket$Formula;" ∈ hs_ws := hs_w 292 (by decide +kernel) rfl
theorem kw_293 : Cond.fieldLink "Cellmarket$Finder" 17 "Cellmarket$Finder" "states" "[I" ∈ hs_ws := hs_w 293 (by decide +kernel) rfl
theorem kw_294 : Cond.fieldLink "Cellmarket$Finder" 21 "Cellmarket$Finder" "numbers" "[I" ∈ hs_ws := hs_w 294 (by decide +kernel) rfl
theorem kw_295 : Cond.fieldLink "Cellmarket$Finder" 24 "Cellmarket$Finder" "faults" "[I" ∈ hs_ws := hs_w 295 (by decide +kernel) rfl
theorem kw_296 : Cond.fieldLink "Cellmarket$Finder" 29 "Cellmarket$Finder" "facts" "[[I" ∈ hs_ws := hs_w 296 (by decide +kernel) rfl
theorem kw_297 : Cond.fieldLink "Cellmarket$Finder" 32 "Cellmarket$Finder" "pile" "[I" ∈ hs_ws := hs_w 297 (by decide +kernel) rfl
theorem kw_298 : Cond.fieldLink "Cellmarket$Finder" 35 "Cellmarket$Finder" "made" "I" ∈ hs_ws := hs_w 298 (by decide +kernel) rfl
theorem kw_299 : Cond.laysFinal "Cellmarket$Finder" "Cellmarket$Finder" "sheet" "LCellmarket$Sheet;" ∈ hs_ws := hs_w 299 (by decide +kernel) rfl
theorem kw_301 : Cond.laysFinal "Cellmarket$Finder" "Cellmarket$Finder" "book" "LCellmarket$Book;" ∈ hs_ws := hs_w 301 (by decide +kernel) rfl
theorem kw_303 : Cond.lays "Cellmarket$Finder" "Cellmarket$Finder" "rights" "LCellmarket$Rights;" ∈ hs_ws := hs_w 303 (by decide +kernel) rfl
theorem kw_305 : Cond.laysFinal "Cellmarket$Finder" "Cellmarket$Finder" "formulas" "[LCellmarket$Formula;" ∈ hs_ws := hs_w 305 (by decide +kernel) rfl
theorem kw_307 : Cond.laysFinal "Cellmarket$Finder" "Cellmarket$Finder" "states" "[I" ∈ hs_ws := hs_w 307 (by decide +kernel) rfl
theorem kw_309 : Cond.laysFinal "Cellmarket$Finder" "Cellmarket$Finder" "numbers" "[I" ∈ hs_ws := hs_w 309 (by decide +kernel) rfl
theorem kw_311 : Cond.laysFinal "Cellmarket$Finder" "Cellmarket$Finder" "faults" "[I" ∈ hs_ws := hs_w 311 (by decide +kernel) rfl
theorem kw_313 : Cond.laysFinal "Cellmarket$Finder" "Cellmarket$Finder" "facts" "[[I" ∈ hs_ws := hs_w 313 (by decide +kernel) rfl
theorem kw_315 : Cond.laysFinal "Cellmarket$Finder" "Cellmarket$Finder" "pile" "[I" ∈ hs_ws := hs_w 315 (by decide +kernel) rfl
theorem kw_317 : Cond.lays "Cellmarket$Finder" "Cellmarket$Finder" "made" "I" ∈ hs_ws := hs_w 317 (by decide +kernel) rfl
theorem kw_320 : Cond.classLink "Cellmarket" 32 "Cellmarket$Clearing" ∈ hs_ws := hs_w 320 (by decide +kernel) rfl
theorem kw_321 : Cond.instantiable "Cellmarket$Clearing" 2 ∈ hs_ws := hs_w 321 (by decide +kernel) rfl
theorem kw_322 : Cond.methodLink "Cellmarket" 34 yX2_init ∈ hs_ws := hs_w 322 (by decide +kernel) rfl
theorem kw_323 : Cond.instanceMethod yX2_init ∈ hs_ws := hs_w 323 (by decide +kernel) rfl
theorem kw_324 : Cond.code yX2_init cX2_init 3 none ∈ hs_ws := hs_w 324 (by decide +kernel) rfl
theorem kw_325 : Cond.methodLink "Cellmarket$Clearing" 3 Lib.objectInit ∈ hs_ws := hs_w 325 (by decide +kernel) rfl
theorem kw_326 : Cond.fieldLink "Cellmarket$Clearing" 9 "Cellmarket$Clearing" "book" "LCellmarket$Book;" ∈ hs_ws := hs_w 326 (by decide +kernel) rfl
theorem kw_327 : Cond.fieldLink "Cellmarket$Clearing" 15 "Cellmarket$Clearing" "finder" "LCellmarket$Finder;" ∈ hs_ws := hs_w 327 (by decide +kernel) rfl
theorem kw_328 : Cond.laysFinal "Cellmarket$Clearing" "Cellmarket$Clearing" "book" "LCellmarket$Book;" ∈ hs_ws := hs_w 328 (by decide +kernel) rfl
theorem kw_330 : Cond.laysFinal "Cellmarket$Clearing" "Cellmarket$Clearing" "finder" "LCellmarket$Finder;" ∈ hs_ws := hs_w 330 (by decide +kernel) rfl
theorem kw_333 : Cond.classLink "Cellmarket" 41 "Cellmarket$Ledger" ∈ hs_ws := hs_w 333 (by decide +kernel) rfl
theorem kw_334 : Cond.instantiable "Cellmarket$Ledger" 6 ∈ hs_ws := hs_w 334 (by decide +kernel) rfl
theorem kw_335 : Cond.methodLink "Cellmarket" 43 yX6_init ∈ hs_ws := hs_w 335 (by decide +kernel) rfl
theorem kw_336 : Cond.instanceMethod yX6_init ∈ hs_ws := hs_w 336 (by decide +kernel) rfl
theorem kw_337 : Cond.code yX6_init cX6_init 3 none ∈ hs_ws := hs_w 337 (by decide +kernel) rfl
theorem kw_338 : Cond.methodLink "Cellmarket$Ledger" 3 Lib.objectInit ∈ hs_ws := hs_w 338 (by decide +kernel) rfl
theorem kw_339 : Cond.constant "Cellmarket$Ledger" 31 100000 ∈ hs_ws := hs_w 339 (by decide +kernel) rfl
theorem kw_340 : Cond.fieldLink "Cellmarket$Ledger" 27 "Cellmarket$Ledger" "book" "LCellmarket$Book;" ∈ hs_ws := hs_w 340 (by decide +kernel) rfl
theorem kw_341 : Cond.fieldLink "Cellmarket$Ledger" 9 "Cellmarket$Ledger" "settled" "[I" ∈ hs_ws := hs_w 341 (by decide +kernel) rfl
theorem kw_342 : Cond.fieldLink "Cellmarket$Ledger" 15 "Cellmarket$Ledger" "cash" "[I" ∈ hs_ws := hs_w 342 (by decide +kernel) rfl
theorem kw_343 : Cond.fieldLink "Cellmarket" 336 "Cellmarket$Ledger" "cash" "[I" ∈ hs_ws := hs_w 343 (by decide +kernel) rfl
theorem kw_344 : Cond.fieldLink "Cellmarket$Ledger" 18 "Cellmarket$Ledger" "limits" "[I" ∈ hs_ws := hs_w 344 (by decide +kernel) rfl
theorem kw_345 : Cond.fieldLink "Cellmarket" 239 "Cellmarket$Ledger" "limits" "[I" ∈ hs_ws := hs_w 345 (by decide +kernel) rfl
theorem kw_346 : Cond.fieldLink "Cellmarket$Ledger" 21 "Cellmarket$Ledger" "paid" "[I" ∈ hs_ws := hs_w 346 (by decide +kernel) rfl
theorem kw_347 : Cond.fieldLink "Cellmarket$Ledger" 24 "Cellmarket$Ledger" "cut" "[I" ∈ hs_ws := hs_w 347 (by decide +kernel) rfl
theorem kw_348 : Cond.laysFinal "Cellmarket$Ledger" "Cellmarket$Ledger" "book" "LCellmarket$Book;" ∈ hs_ws := hs_w 348 (by decide +kernel) rfl
theorem kw_350 : Cond.laysFinal "Cellmarket$Ledger" "Cellmarket$Ledger" "settled" "[I" ∈ hs_ws := hs_w 350 (by decide +kernel) rfl
theorem kw_352 : Cond.laysFinal "Cellmarket$Ledger" "Cellmarket$Ledger" "cash" "[I" ∈ hs_ws := hs_w 352 (by decide +kernel) rfl
theorem kw_354 : Cond.laysFinal "Cellmarket$Ledger" "Cellmarket$Ledger" "limits" "[I" ∈ hs_ws := hs_w 354 (by decide +kernel) rfl
theorem kw_356 : Cond.laysFinal "Cellmarket$Ledger" "Cellmarket$Ledger" "paid" "[I" ∈ hs_ws := hs_w 356 (by decide +kernel) rfl
theorem kw_358 : Cond.laysFinal "Cellmarket$Ledger" "Cellmarket$Ledger" "cut" "[I" ∈ hs_ws := hs_w 358 (by decide +kernel) rfl
theorem kw_361 : Cond.fieldLink "Cellmarket" 10 "Cellmarket" "sheet" "LCellmarket$Sheet;" ∈ hs_ws := hs_w 361 (by decide +kernel) rfl
theorem kw_362 : Cond.fieldLink "Cellmarket" 19 "Cellmarket" "book" "LCellmarket$Book;" ∈ hs_ws := hs_w 362 (by decide +kernel) rfl
theorem kw_363 : Cond.fieldLink "Cellmarket" 28 "Cellmarket" "finder" "LCellmarket$Finder;" ∈ hs_ws := hs_w 363 (by decide +kernel) rfl
theorem kw_364 : Cond.fieldLink "Cellmarket" 37 "Cellmarket" "clearing" "LCellmarket$Clearing;" ∈ hs_ws := hs_w 364 (by decide +kernel) rfl
theorem kw_365 : Cond.fieldLink "Cellmarket" 46 "Cellmarket" "ledger" "LCellmarket$Ledger;" ∈ hs_ws := hs_w 365 (by decide +kernel) rfl
theorem kw_366 : Cond.fieldLink "Cellmarket" 50 "Cellmarket" "eventCount" "I" ∈ hs_ws := hs_w 366 (by decide +kernel) rfl
theorem kw_367 : Cond.laysFinal "Cellmarket" "Cellmarket" "sheet" "LCellmarket$Sheet;" ∈ hs_ws := hs_w 367 (by decide +kernel) rfl
theorem kw_369 : Cond.laysFinal "Cellmarket" "Cellmarket" "book" "LCellmarket$Book;" ∈ hs_ws := hs_w 369 (by decide +kernel) rfl
theorem kw_371 : Cond.laysFinal "Cellmarket" "Cellmarket" "finder" "LCellmarket$Finder;" ∈ hs_ws := hs_w 371 (by decide +kernel) rfl
theorem kw_373 : Cond.laysFinal "Cellmarket" "Cellmarket" "clearing" "LCellmarket$Clearing;" ∈ hs_ws := hs_w 373 (by decide +kernel) rfl
theorem kw_375 : Cond.laysFinal "Cellmarket" "Cellmarket" "ledger" "LCellmarket$Ledger;" ∈ hs_ws := hs_w 375 (by decide +kernel) rfl
theorem kw_377 : Cond.lays "Cellmarket" "Cellmarket" "eventCount" "I" ∈ hs_ws := hs_w 377 (by decide +kernel) rfl
theorem kw_380 : Cond.methodLink "CellmarketLaw" 134 yX10_wipe ∈ hs_ws := hs_w 380 (by decide +kernel) rfl
theorem kw_384 : Cond.methodLink "Cellmarket" 133 yX5_clear ∈ hs_ws := hs_w 384 (by decide +kernel) rfl
theorem kw_385 : Cond.instanceMethod yX5_clear ∈ hs_ws := hs_w 385 (by decide +kernel) rfl
theorem kw_386 : Cond.selects "Cellmarket$Formula" yX5_clear yX5_clear ∈ hs_ws := hs_w 386 (by decide +kernel) rfl
theorem kw_387 : Cond.code yX5_clear cX5_clear 1 none ∈ hs_ws := hs_w 387 (by decide +kernel) rfl
theorem kw_388 : Cond.methodLink "CellmarketLaw" 207 yX10_events ∈ hs_ws := hs_w 388 (by decide +kernel) rfl
theorem kw_392 : Cond.methodLink "CellmarketLaw" 109 yL_give ∈ hs_ws := hs_w 392 (by decide +kernel) rfl
theorem kw_393 : Cond.static yL_give ∈ hs_ws := hs_w 393 (by decide +kernel) rfl
theorem kw_394 : Cond.codeWith yL_give cL_give 7 (some FieldType.int) [(0, 14, 17, 13), (0, 14, 21, 15)] ∈ hs_ws := hs_w 394 (by decide +kernel) rfl
theorem kw_395 : Cond.classLink "CellmarketLaw" 13 "java/lang/IndexOutOfBoundsException" ∈ hs_ws := hs_w 395 (by decide +kernel) rfl
theorem kw_396 : Cond.classLink "CellmarketLaw" 15 "java/lang/IllegalStateException" ∈ hs_ws := hs_w 396 (by decide +kernel) rfl
theorem kw_397 : Cond.methodLink "CellmarketLaw" 7 yX10_give ∈ hs_ws := hs_w 397 (by decide +kernel) rfl
theorem kw_398 : Cond.instanceMethod yX10_give ∈ hs_ws := hs_w 398 (by decide +kernel) rfl
theorem kw_399 : Cond.selects "Cellmarket" yX10_give yX10_give ∈ hs_ws := hs_w 399 (by decide +kernel) rfl
theorem kw_400 : Cond.code yX10_give cX10_give 6 (some FieldType.int) ∈ hs_ws := hs_w 400 (by decide +kernel) rfl
theorem kw_401 : Cond.methodLink "Cellmarket" 54 yX10_needOwner ∈ hs_ws := hs_w 401 (by decide +kernel) rfl
theorem kw_402 : Cond.static yX10_needOwner ∈ hs_ws := hs_w 402 (by decide +kernel) rfl
theorem kw_403 : Cond.code yX10_needOwner cX10_needOwner 1 none ∈ hs_ws := hs_w 403 (by decide +kernel) rfl
theorem kw_404 : Cond.classLink "Cellmarket" 177 "java/lang/IndexOutOfBoundsException" ∈ hs_ws := hs_w 404 (by decide +kernel) rfl
theorem kw_406 : Cond.castable "java/lang/IndexOutOfBoundsException" "java/lang/IndexOutOfBoundsException" ∈ hs_ws := hs_w 406 (by decide +kernel) rfl
theorem kw_472 : Cond.methodLink "Cellmarket" 58 yX10_cellAt ∈ hs_ws := hs_w 472 (by decide +kernel) rfl
theorem kw_473 : Cond.static yX10_cellAt ∈ hs_ws := hs_w 473 (by decide +kernel) rfl
theorem kw_474 : Cond.code yX10_cellAt cX10_cellAt 2 (some FieldType.int) ∈ hs_ws := hs_w 474 (by decide +kernel) rfl
theorem kw_475 : Cond.methodLink "Cellmarket" 149 yX10_needColumn ∈ hs_ws := hs_w 475 (by decide +kernel) rfl
theorem kw_476 : Cond.static yX10_needColumn ∈ hs_ws := hs_w 476 (by decide +kernel) rfl
theorem kw_477 : Cond.code yX10_needColumn cX10_needColumn 1 none ∈ hs_ws := hs_w 477 (by decide +kernel) rfl
theorem kw_480 : Cond.methodLink "Cellmarket" 62 yX10_needOwnCell ∈ hs_ws := hs_w 480 (by decide +kernel) rfl
theorem kw_482 : Cond.instanceMethod yX10_needOwnCell ∈ hs_ws := hs_w 482 (by decide +kernel) rfl
theorem kw_483 : Cond.code yX10_needOwnCell cX10_needOwnCell 3 none ∈ hs_ws := hs_w 483 (by decide +kernel) rfl
theorem kw_484 : Cond.classLink "Cellmarket" 116 "java/lang/IllegalStateException" ∈ hs_ws := hs_w 484 (by decide +kernel) rfl
theorem kw_486 : Cond.castable "java/lang/IllegalStateException" "java/lang/IllegalStateException" ∈ hs_ws := hs_w 486 (by decide +kernel) rfl
theorem kw_500 : Cond.methodLink "Cellmarket" 76 yX7_ownedBy ∈ hs_ws := hs_w 500 (by decide +kernel) rfl
theorem kw_501 : Cond.instanceMethod yX7_ownedBy ∈ hs_ws := hs_w 501 (by decide +kernel) rfl
theorem kw_502 : Cond.selects "Cellmarket$Rights" yX7_ownedBy yX7_ownedBy ∈ hs_ws := hs_w 502 (by decide +kernel) rfl
theorem kw_503 : Cond.code yX7_ownedBy cX7_ownedBy 4 (some FieldType.int) ∈ hs_ws := hs_w 503 (by decide +kernel) rfl
theorem kw_504 : Cond.methodLink "CellmarketLaw" 119 yL_let ∈ hs_ws := hs_w 504 (by decide +kernel) rfl
theorem kw_505 : Cond.static yL_let ∈ hs_ws := hs_w 505 (by decide +kernel) rfl
theorem kw_506 : Cond.codeWith yL_let cL_let 9 (some FieldType.int) [(0, 18, 21, 13), (0, 18, 25, 21)] ∈ hs_ws := hs_w 506 (by decide +kernel) rfl
theorem kw_507 : Cond.classLink "CellmarketLaw" 21 "java/lang/IllegalArgumentException" ∈ hs_ws := hs_w 507 (by decide +kernel) rfl
theorem kw_508 : Cond.methodLink "CellmarketLaw" 17 yX10_let ∈ hs_ws := hs_w 508 (by decide +kernel) rfl
theorem kw_509 : Cond.instanceMethod yX10_let ∈ hs_ws := hs_w 509 (by decide +kernel) rfl
theorem kw_510 : Cond.selects "Cellmarket" yX10_let yX10_let ∈ hs_ws := hs_w 510 (by decide +kernel) rfl
theorem kw_511 : Cond.code yX10_let cX10_let 9 (some FieldType.int) ∈ hs_ws := hs_w 511 (by decide +kernel) rfl
theorem kw_512 : Cond.classLink "Cellmarket" 80 "java/lang/IllegalArgumentException" ∈ hs_ws := hs_w 512 (by decide +kernel) rfl
theorem kw_514 : Cond.castable "java/lang/IllegalArgumentException" "java/lang/IllegalArgumentException" ∈ hs_ws := hs_w 514 (by decide +kernel) rfl
theorem kw_529 : Cond.methodLink "Cellmarket" 89 yX7_letRead ∈ hs_ws := hs_w 529 (by decide +kernel) rfl
theorem kw_530 : Cond.instanceMethod yX7_letRead ∈ hs_ws := hs_w 530 (by decide +kernel) rfl
theorem kw_531 : Cond.selects "Cellmarket$Rights" yX7_letRead yX7_letRead ∈ hs_ws := hs_w 531 (by decide +kernel) rfl
theorem kw_532 : Cond.code yX7_letRead cX7_letRead 8 (some FieldType.int) ∈ hs_ws := hs_w 532 (by decide +kernel) rfl
theorem kw_533 : Cond.methodLink "CellmarketLaw" 123 yL_ownerOf ∈ hs_ws := hs_w 533 (by decide +kernel) rfl
theorem kw_534 : Cond.static yL_ownerOf ∈ hs_ws := hs_w 534 (by decide +kernel) rfl
theorem kw_535 : Cond.codeWith yL_ownerOf cL_ownerOf 5 (some FieldType.int) [(0, 10, 13, 13)] ∈ hs_ws := hs_w 535 (by decide +kernel) rfl
theorem kw_536 : Cond.methodLink "CellmarketLaw" 23 yX10_ownerOf ∈ hs_ws := hs_w 536 (by decide +kernel) rfl
theorem kw_537 : Cond.instanceMethod yX10_ownerOf ∈ hs_ws := hs_w 537 (by decide +kernel) rfl
theorem kw_538 : Cond.selects "Cellmarket" yX10_ownerOf yX10_ownerOf ∈ hs_ws := hs_w 538 (by decide +kernel) rfl
theorem kw_539 : Cond.code yX10_ownerOf cX10_ownerOf 3 (some FieldType.int) ∈ hs_ws := hs_w 539 (by decide +kernel) rfl
theorem kw_540 : Cond.methodLink "CellmarketLaw" 127 yL_reads ∈ hs_ws := hs_w 540 (by decide +kernel) rfl
theorem kw_541 : Cond.static yL_reads ∈ hs_ws := hs_w 541 (by decide +kernel) rfl
theorem kw_542 : Cond.codeWith yL_reads cL_reads 6 (some FieldType.int) [(0, 19, 22, 13)] ∈ hs_ws := hs_w 542 (by decide +kernel) rfl
theorem kw_543 : Cond.methodLink "CellmarketLaw" 27 yX10_reads ∈ hs_ws := hs_w 543 (by decide +kernel) rfl
theorem kw_544 : Cond.instanceMethod yX10_reads ∈ hs_ws := hs_w 544 (by decide +kernel) rfl
theorem kw_545 : Cond.selects "Cellmarket" yX10_reads yX10_reads ∈ hs_ws := hs_w 545 (by decide +kernel) rfl
theorem kw_546 : Cond.code yX10_reads cX10_reads 4 (some FieldType.boolean) ∈ hs_ws := hs_w 546 (by decide +kernel) rfl
theorem kw_547 : Cond.methodLink "Cellmarket" 93 yX7_canRead ∈ hs_ws := hs_w 547 (by decide +kernel) rfl
theorem kw_548 : Cond.instanceMethod yX7_canRead ∈ hs_ws := hs_w 548 (by decide +kernel) rfl
theorem kw_549 : Cond.selects "Cellmarket$Rights" yX7_canRead yX7_canRead ∈ hs_ws := hs_w 549 (by decide +kernel) rfl
theorem kw_550 : Cond.code yX7_canRead cX7_canRead 3 (some FieldType.boolean) ∈ hs_ws := hs_w 550 (by decide +kernel) rfl
theorem kw_551 : Cond.methodLink "CellmarketLaw" 131 yL_word ∈ hs_ws := hs_w 551 (by decide +kernel) rfl
theorem kw_552 : Cond.static yL_word ∈ hs_ws := hs_w 552 (by decide +kernel) rfl
theorem kw_553 : Cond.codeWith yL_word cL_word 6 (some FieldType.int) [(0, 12, 15, 21), (0, 12, 19, 15)] ∈ hs_ws := hs_w 553 (by decide +kernel) rfl
theorem kw_554 : Cond.methodLink "CellmarketLaw" 31 yX10_word ∈ hs_ws := hs_w 554 (by decide +kernel) rfl
theorem kw_555 : Cond.instanceMethod yX10_word ∈ hs_ws := hs_w 555 (by decide +kernel) rfl
theorem kw_556 : Cond.selects "Cellmarket" yX10_word yX10_word ∈ hs_ws := hs_w 556 (by decide +kernel) rfl
theorem kw_557 : Cond.code yX10_word cX10_word 4 (some FieldType.int) ∈ hs_ws := hs_w 557 (by decide +kernel) rfl
theorem kw_559 : Cond.constant "Cellmarket" 99 (-1000000) ∈ hs_ws := hs_w 559 (by decide +kernel) rfl
theorem kw_560 : Cond.constant "Cellmarket" 100 1000000 ∈ hs_ws := hs_w 560 (by decide +kernel) rfl
theorem kw_563 : Cond.methodLink "Cellmarket" 124 yX10_taken ∈ hs_ws := hs_w 563 (by decide +kernel) rfl
theorem kw_564 : Cond.static yX10_taken ∈ hs_ws := hs_w 564 (by decide +kernel) rfl
theorem kw_565 : Cond.code yX10_taken cX10_taken 1 (some FieldType.int) ∈ hs_ws := hs_w 565 (by decide +kernel) rfl
theorem kw_567 : Cond.methodLink "Cellmarket" 129 yX5_append ∈ hs_ws := hs_w 567 (by decide +kernel) rfl
theorem kw_568 : Cond.instanceMethod yX5_append ∈ hs_ws := hs_w 568 (by decide +kernel) rfl
theorem kw_569 : Cond.selects "Cellmarket$Formula" yX5_append yX5_append ∈ hs_ws := hs_w 569 (by decide +kernel) rfl
theorem kw_570 : Cond.code yX5_append cX5_append 4 none ∈ hs_ws := hs_w 570 (by decide +kernel) rfl
theorem kw_571 : Cond.methodLinkNest "Cellmarket$Formula" 28 yX10_taken "Cellmarket" ∈ hs_ws := hs_w 571 (by decide +kernel) rfl
theorem kw_572 : Cond.methodLink "CellmarketLaw" 138 yL_enter ∈ hs_ws := hs_w 572 (by decide +kernel) rfl
theorem kw_573 : Cond.static yL_enter ∈ hs_ws := hs_w 573 (by decide +kernel) rfl
theorem kw_574 : Cond.codeWith yL_enter cL_enter 6 (some FieldType.int) [(0, 12, 15, 13), (0, 12, 19, 15)] ∈ hs_ws := hs_w 574 (by decide +kernel) rfl
theorem kw_575 : Cond.methodLink "CellmarketLaw" 35 yX10_enter ∈ hs_ws := hs_w 575 (by decide +kernel) rfl
theorem kw_576 : Cond.instanceMethod yX10_enter ∈ hs_ws := hs_w 576 (by decide +kernel) rfl
theorem kw_577 : Cond.selects "Cellmarket" yX10_enter yX10_enter ∈ hs_ws := hs_w 577 (by decide +kernel) rfl
theorem kw_578 : Cond.code yX10_enter cX10_enter 6 (some FieldType.int) ∈ hs_ws := hs_w 578 (by decide +kernel) rfl
theorem kw_579 : Cond.methodLink "Cellmarket" 136 yX10_needEditable ∈ hs_ws := hs_w 579 (by decide +kernel) rfl
theorem kw_581 : Cond.instanceMethod yX10_needEditable ∈ hs_ws := hs_w 581 (by decide +kernel) rfl
theorem kw_582 : Cond.code yX10_needEditable cX10_needEditable 3 none ∈ hs_ws := hs_w 582 (by decide +kernel) rfl
theorem kw_583 : Cond.methodLink "Cellmarket" 216 yX8_wasFrozen ∈ hs_ws := hs_w 583 (by decide +kernel) rfl
theorem kw_584 : Cond.instanceMethod yX8_wasFrozen ∈ hs_ws := hs_w 584 (by decide +kernel) rfl
theorem kw_585 : Cond.selects "Cellmarket$Round" yX8_wasFrozen yX8_wasFrozen ∈ hs_ws := hs_w 585 (by decide +kernel) rfl
theorem kw_586 : Cond.code yX8_wasFrozen cX8_wasFrozen 1 (some FieldType.boolean) ∈ hs_ws := hs_w 586 (by decide +kernel) rfl
theorem kw_589 : Cond.methodLink "Cellmarket" 228 ⟨"java/util/List", "size", "()I"⟩ ∈ hs_ws := hs_w 589 (by decide +kernel) rfl
theorem kw_600 : Cond.methodLink "Cellmarket" 141 yX9_tell ∈ hs_ws := hs_w 600 (by decide +kernel) rfl
theorem kw_601 : Cond.instanceMethod yX9_tell ∈ hs_ws := hs_w 601 (by decide +kernel) rfl
theorem kw_602 : Cond.selects "Cellmarket$Sheet" yX9_tell yX9_tell ∈ hs_ws := hs_w 602 (by decide +kernel) rfl
theorem kw_603 : Cond.code yX9_tell cX9_tell 7 (some FieldType.int) ∈ hs_ws := hs_w 603 (by decide +kernel) rfl
theorem kw_605 : Cond.methodLink "Cellmarket$Sheet" 39 ⟨"java/util/List", "size", "()I"⟩ ∈ hs_ws := hs_w 605 (by decide +kernel) rfl
theorem kw_606 : Cond.methodLink "Cellmarket$Sheet" 45 yJ9_max_7cf53 ∈ hs_ws := hs_w 606 (by decide +kernel) rfl
theorem kw_607 : Cond.static yJ9_max_7cf53 ∈ hs_ws := hs_w 607 (by decide +kernel) rfl
theorem kw_608 : Cond.code yJ9_max_7cf53 cJ9_max_7cf53 2 (some FieldType.int) ∈ hs_ws := hs_w 608 (by decide +kernel) rfl
theorem kw_609 : Cond.classLink "Cellmarket$Sheet" 51 "Cellmarket$Edit" ∈ hs_ws := hs_w 609 (by decide +kernel) rfl
theorem kw_610 : Cond.instantiable "Cellmarket$Edit" 7 ∈ hs_ws := hs_w 610 (by decide +kernel) rfl
theorem kw_611 : Cond.methodLink "Cellmarket$Sheet" 53 yX3_init ∈ hs_ws := hs_w 611 (by decide +kernel) rfl
theorem kw_612 : Cond.instanceMethod yX3_init ∈ hs_ws := hs_w 612 (by decide +kernel) rfl
theorem kw_613 : Cond.code yX3_init cX3_init 7 none ∈ hs_ws := hs_w 613 (by decide +kernel) rfl
theorem kw_614 : Cond.methodLink "Cellmarket$Edit" 1 Lib.objectInit ∈ hs_ws := hs_w 614 (by decide +kernel) rfl
theorem kw_615 : Cond.fieldLink "Cellmarket$Edit" 13 "Cellmarket$Edit" "number" "I" ∈ hs_ws := hs_w 615 (by decide +kernel) rfl
theorem kw_616 : Cond.fieldLink "Cellmarket" 182 "Cellmarket$Edit" "number" "I" ∈ hs_ws := hs_w 616 (by decide +kernel) rfl
theorem kw_617 : Cond.fieldLink "Cellmarket$Edit" 17 "Cellmarket$Edit" "cell" "I" ∈ hs_ws := hs_w 617 (by decide +kernel) rfl
theorem kw_618 : Cond.fieldLink "Cellmarket$Finder" 78 "Cellmarket$Edit" "cell" "I" ∈ hs_ws := hs_w 618 (by decide +kernel) rfl
theorem kw_619 : Cond.fieldLink "Cellmarket$Sheet" 64 "Cellmarket$Edit" "cell" "I" ∈ hs_ws := hs_w 619 (by decide +kernel) rfl
theorem kw_620 : Cond.fieldLink "Cellmarket$Edit" 20 "Cellmarket$Edit" "teller" "I" ∈ hs_ws := hs_w 620 (by decide +kernel) rfl
theorem kw_621 : Cond.fieldLink "Cellmarket" 193 "Cellmarket$Edit" "teller" "I" ∈ hs_ws := hs_w 621 (by decide +kernel) rfl
theorem kw_622 : Cond.fieldLink "Cellmarket$Edit" 23 "Cellmarket$Edit" "told" "I" ∈ hs_ws := hs_w 622 (by decide +kernel) rfl
theorem kw_623 : Cond.fieldLink "Cellmarket" 187 "Cellmarket$Edit" "told" "I" ∈ hs_ws := hs_w 623 (by decide +kernel) rfl
theorem kw_624 : Cond.fieldLink "Cellmarket$Edit" 26 "Cellmarket$Edit" "from" "I" ∈ hs_ws := hs_w 624 (by decide +kernel) rfl
theorem kw_625 : Cond.fieldLink "Cellmarket" 190 "Cellmarket$Edit" "from" "I" ∈ hs_ws := hs_w 625 (by decide +kernel) rfl
theorem kw_626 : Cond.fieldLink "Cellmarket$Edit" 29 "Cellmarket$Edit" "formula" "LCellmarket$Formula;" ∈ hs_ws := hs_w 626 (by decide +kernel) rfl
theorem kw_627 : Cond.fieldLink "Cellmarket$Finder" 81 "Cellmarket$Edit" "formula" "LCellmarket$Formula;" ∈ hs_ws := hs_w 627 (by decide +kernel) rfl
theorem kw_628 : Cond.fieldLink "Cellmarket" 196 "Cellmarket$Edit" "formula" "LCellmarket$Formula;" ∈ hs_ws := hs_w 628 (by decide +kernel) rfl
theorem kw_629 : Cond.fieldLink "Cellmarket$Edit" 7 "Cellmarket$Edit" "isStruck" "Z" ∈ hs_ws := hs_w 629 (by decide +kernel) rfl
theorem kw_630 : Cond.fieldLink "Cellmarket" 199 "Cellmarket$Edit" "isStruck" "Z" ∈ hs_ws := hs_w 630 (by decide +kernel) rfl
theorem kw_631 : Cond.laysFinal "Cellmarket$Edit" "Cellmarket$Edit" "number" "I" ∈ hs_ws := hs_w 631 (by decide +kernel) rfl
theorem kw_633 : Cond.laysFinal "Cellmarket$Edit" "Cellmarket$Edit" "cell" "I" ∈ hs_ws := hs_w 633 (by decide +kernel) rfl
theorem kw_635 : Cond.laysFinal "Cellmarket$Edit" "Cellmarket$Edit" "teller" "I" ∈ hs_ws := hs_w 635 (by decide +kernel) rfl
theorem kw_637 : Cond.laysFinal "Cellmarket$Edit" "Cellmarket$Edit" "told" "I" ∈ hs_ws := hs_w 637 (by decide +kernel) rfl
theorem kw_639 : Cond.laysFinal "Cellmarket$Edit" "Cellmarket$Edit" "from" "I" ∈ hs_ws := hs_w 639 (by decide +kernel) rfl
theorem kw_641 : Cond.laysFinal "Cellmarket$Edit" "Cellmarket$Edit" "formula" "LCellmarket$Formula;" ∈ hs_ws := hs_w 641 (by decide +kernel) rfl
theorem kw_643 : Cond.lays "Cellmarket$Edit" "Cellmarket$Edit" "isStruck" "Z" ∈ hs_ws := hs_w 643 (by decide +kernel) rfl
theorem kw_647 : Cond.methodLink "Cellmarket$Sheet" 56 ⟨"java/util/List", "add", "(Ljava/lang/Object;)Z"⟩ ∈ hs_ws := hs_w 647 (by decide +kernel) rfl
theorem kw_705 : Cond.static yJ9_min_7cf53 ∈ hs_ws := hs_w 705 (by decide +kernel) rfl
theorem kw_706 : Cond.code yJ9_min_7cf53 cJ9_min_7cf53 2 (some FieldType.int) ∈ hs_ws := hs_w 706 (by decide +kernel) rfl
theorem kw_708 : Cond.static arraycopyName ∈ hs_ws := hs_w 708 (by decide +kernel) rfl
theorem kw_709 : Cond.native arraycopyName ∈ hs_ws := hs_w 709 (by decide +kernel) rfl
theorem kw_712 : Cond.classLink "Cellmarket" 112 "Cellmarket$Formula" ∈ hs_ws := hs_w 712 (by decide +kernel) rfl
theorem kw_713 : Cond.methodLinkNest "Cellmarket" 145 yX5_init "Cellmarket" ∈ hs_ws := hs_w 713 (by decide +kernel) rfl
theorem kw_714 : Cond.methodLink "CellmarketLaw" 141 yL_empty ∈ hs_ws := hs_w 714 (by decide +kernel) rfl
theorem kw_715 : Cond.static yL_empty ∈ hs_ws := hs_w 715 (by decide +kernel) rfl
theorem kw_716 : Cond.codeWith yL_empty cL_empty 6 (some FieldType.int) [(0, 12, 15, 13), (0, 12, 19, 15)] ∈ hs_ws := hs_w 716 (by decide +kernel) rfl
theorem kw_717 : Cond.methodLink "CellmarketLaw" 38 yX10_empty ∈ hs_ws := hs_w 717 (by decide +kernel) rfl
theorem kw_718 : Cond.instanceMethod yX10_empty ∈ hs_ws := hs_w 718 (by decide +kernel) rfl
theorem kw_719 : Cond.selects "Cellmarket" yX10_empty yX10_empty ∈ hs_ws := hs_w 719 (by decide +kernel) rfl
theorem kw_720 : Cond.code yX10_empty cX10_empty 6 (some FieldType.int) ∈ hs_ws := hs_w 720 (by decide +kernel) rfl
theorem kw_721 : Cond.methodLink "CellmarketLaw" 144 yL_notice ∈ hs_ws := hs_w 721 (by decide +kernel) rfl
theorem kw_722 : Cond.static yL_notice ∈ hs_ws := hs_w 722 (by decide +kernel) rfl
theorem kw_723 : Cond.codeWith yL_notice cL_notice 5 (some FieldType.int) [(0, 10, 13, 13), (0, 10, 17, 21)] ∈ hs_ws := hs_w 723 (by decide +kernel) rfl
theorem kw_724 : Cond.methodLink "CellmarketLaw" 41 yX10_notice ∈ hs_ws := hs_w 724 (by decide +kernel) rfl
theorem kw_725 : Cond.instanceMethod yX10_notice ∈ hs_ws := hs_w 725 (by decide +kernel) rfl
theorem kw_726 : Cond.selects "Cellmarket" yX10_notice yX10_notice ∈ hs_ws := hs_w 726 (by decide +kernel) rfl
theorem kw_727 : Cond.code yX10_notice cX10_notice 4 (some FieldType.int) ∈ hs_ws := hs_w 727 (by decide +kernel) rfl
theorem kw_729 : Cond.methodLink "CellmarketLaw" 147 yL_value ∈ hs_ws := hs_w 729 (by decide +kernel) rfl
theorem kw_730 : Cond.static yL_value ∈ hs_ws := hs_w 730 (by decide +kernel) rfl
theorem kw_731 : Cond.codeWith yL_value cL_value 6 (some FieldType.int) [(0, 12, 15, 13), (0, 12, 19, 15)] ∈ hs_ws := hs_w 731 (by decide +kernel) rfl
theorem kw_732 : Cond.methodLink "CellmarketLaw" 44 yX10_value ∈ hs_ws := hs_w 732 (by decide +kernel) rfl
theorem kw_733 : Cond.instanceMethod yX10_value ∈ hs_ws := hs_w 733 (by decide +kernel) rfl
theorem kw_734 : Cond.selects "Cellmarket" yX10_value yX10_value ∈ hs_ws := hs_w 734 (by decide +kernel) rfl
theorem kw_735 : Cond.code yX10_value cX10_value 5 (some FieldType.int) ∈ hs_ws := hs_w 735 (by decide +kernel) rfl
theorem kw_736 : Cond.methodLink "Cellmarket" 157 yX10_needReader ∈ hs_ws := hs_w 736 (by decide +kernel) rfl
theorem kw_738 : Cond.instanceMethod yX10_needReader ∈ hs_ws := hs_w 738 (by decide +kernel) rfl
theorem kw_739 : Cond.code yX10_needReader cX10_needReader 3 none ∈ hs_ws := hs_w 739 (by decide +kernel) rfl
theorem kw_741 : Cond.methodLink "Cellmarket" 160 yX4_goTo ∈ hs_ws := hs_w 741 (by decide +kernel) rfl
theorem kw_742 : Cond.instanceMethod yX4_goTo ∈ hs_ws := hs_w 742 (by decide +kernel) rfl
theorem kw_743 : Cond.selects "Cellmarket$Finder" yX4_goTo yX4_goTo ∈ hs_ws := hs_w 743 (by decide +kernel) rfl
theorem kw_744 : Cond.code yX4_goTo cX4_goTo 5 none ∈ hs_ws := hs_w 744 (by decide +kernel) rfl
theorem kw_746 : Cond.methodLink "Cellmarket$Finder" 62 ⟨"java/util/List", "size", "()I"⟩ ∈ hs_ws := hs_w 746 (by decide +kernel) rfl
theorem kw_748 : Cond.methodLink "Cellmarket$Finder" 68 ⟨"java/util/List", "get", "(I)Ljava/lang/Object;"⟩ ∈ hs_ws := hs_w 748 (by decide +kernel) rfl
theorem kw_766 : Cond.classLink "Cellmarket$Finder" 72 "Cellmarket$Edit" ∈ hs_ws := hs_w 766 (by decide +kernel) rfl
theorem kw_767 : Cond.methodLink "Cellmarket$Finder" 74 yX3_countsAt ∈ hs_ws := hs_w 767 (by decide +kernel) rfl
theorem kw_768 : Cond.instanceMethod yX3_countsAt ∈ hs_ws := hs_w 768 (by decide +kernel) rfl
theorem kw_769 : Cond.selects "Cellmarket$Edit" yX3_countsAt yX3_countsAt ∈ hs_ws := hs_w 769 (by decide +kernel) rfl
theorem kw_770 : Cond.code yX3_countsAt cX3_countsAt 2 (some FieldType.boolean) ∈ hs_ws := hs_w 770 (by decide +kernel) rfl
theorem kw_771 : Cond.methodLink "Cellmarket$Finder" 84 yX4_forgetFacts ∈ hs_ws := hs_w 771 (by decide +kernel) rfl
theorem kw_773 : Cond.instanceMethod yX4_forgetFacts ∈ hs_ws := hs_w 773 (by decide +kernel) rfl
theorem kw_774 : Cond.code yX4_forgetFacts cX4_forgetFacts 3 none ∈ hs_ws := hs_w 774 (by decide +kernel) rfl
theorem kw_775 : Cond.classLink "Cellmarket$Finder" 92 "Cellmarket$Bid" ∈ hs_ws := hs_w 775 (by decide +kernel) rfl
theorem kw_776 : Cond.methodLink "Cellmarket$Finder" 94 yX0_standsAt ∈ hs_ws := hs_w 776 (by decide +kernel) rfl
theorem kw_777 : Cond.instanceMethod yX0_standsAt ∈ hs_ws := hs_w 777 (by decide +kernel) rfl
theorem kw_778 : Cond.selects "Cellmarket$Bid" yX0_standsAt yX0_standsAt ∈ hs_ws := hs_w 778 (by decide +kernel) rfl
theorem kw_779 : Cond.code yX0_standsAt cX0_standsAt 2 (some FieldType.boolean) ∈ hs_ws := hs_w 779 (by decide +kernel) rfl
theorem kw_780 : Cond.methodLink "Cellmarket$Finder" 97 yX4_addBid ∈ hs_ws := hs_w 780 (by decide +kernel) rfl
theorem kw_782 : Cond.instanceMethod yX4_addBid ∈ hs_ws := hs_w 782 (by decide +kernel) rfl
theorem kw_783 : Cond.code yX4_addBid cX4_addBid 4 none ∈ hs_ws := hs_w 783 (by decide +kernel) rfl
theorem kw_784 : Cond.methodLink "Cellmarket$Finder" 132 yJ9_max_7cf53 ∈ hs_ws := hs_w 784 (by decide +kernel) rfl
theorem kw_785 : Cond.methodLink "Cellmarket$Finder" 138 yJ9_min_7cf53 ∈ hs_ws := hs_w 785 (by decide +kernel) rfl
theorem kw_786 : Cond.classLink "Cellmarket$Finder" 104 "Cellmarket$Round" ∈ hs_ws := hs_w 786 (by decide +kernel) rfl
theorem kw_787 : Cond.methodLink "Cellmarket" 164 yX4_numberOf ∈ hs_ws := hs_w 787 (by decide +kernel) rfl
theorem kw_788 : Cond.instanceMethod yX4_numberOf ∈ hs_ws := hs_w 788 (by decide +kernel) rfl
theorem kw_789 : Cond.selects "Cellmarket$Finder" yX4_numberOf yX4_numberOf ∈ hs_ws := hs_w 789 (by decide +kernel) rfl
theorem kw_790 : Cond.code yX4_numberOf cX4_numberOf 2 (some FieldType.int) ∈ hs_ws := hs_w 790 (by decide +kernel) rfl
theorem kw_791 : Cond.methodLink "Cellmarket$Finder" 117 yX4_find ∈ hs_ws := hs_w 791 (by decide +kernel) rfl
theorem kw_793 : Cond.instanceMethod yX4_find ∈ hs_ws := hs_w 793 (by decide +kernel) rfl
theorem kw_794 : Cond.code yX4_find cX4_find 3 (some FieldType.int) ∈ hs_ws := hs_w 794 (by decide +kernel) rfl
theorem kw_795 : Cond.methodLink "Cellmarket$Finder" 141 yX4_goThrough ∈ hs_ws := hs_w 795 (by decide +kernel) rfl
theorem kw_797 : Cond.instanceMethod yX4_goThrough ∈ hs_ws := hs_w 797 (by decide +kernel) rfl
theorem kw_798 : Cond.code yX4_goThrough cX4_goThrough 9 (some FieldType.int) ∈ hs_ws := hs_w 798 (by decide +kernel) rfl
theorem kw_799 : Cond.methodLinkNest "Cellmarket$Finder" 148 yX10_taken "Cellmarket" ∈ hs_ws := hs_w 799 (by decide +kernel) rfl
theorem kw_800 : Cond.methodLink "Cellmarket$Finder" 155 yX4_reckonWord ∈ hs_ws := hs_w 800 (by decide +kernel) rfl
theorem kw_802 : Cond.instanceMethod yX4_reckonWord ∈ hs_ws := hs_w 802 (by decide +kernel) rfl
theorem kw_803 : Cond.code yX4_reckonWord cX4_reckonWord 12 (some FieldType.int) ∈ hs_ws := hs_w 803 (by decide +kernel) rfl
theorem kw_804 : Cond.constantLong "Cellmarket$Finder" 171 (-1000000000) ∈ hs_ws := hs_w 804 (by decide +kernel) rfl
theorem kw_805 : Cond.constantLong "Cellmarket$Finder" 173 1000000000 ∈ hs_ws := hs_w 805 (by decide +kernel) rfl
theorem kw_806 : Cond.methodLink "Cellmarket$Finder" 167 yX7_canRead ∈ hs_ws := hs_w 806 (by decide +kernel) rfl
theorem kw_807 : Cond.methodLink "CellmarketLaw" 150 yL_fault ∈ hs_ws := hs_w 807 (by decide +kernel) rfl
theorem kw_808 : Cond.static yL_fault ∈ hs_ws := hs_w 808 (by decide +kernel) rfl
theorem kw_809 : Cond.codeWith yL_fault cL_fault 6 (some FieldType.int) [(0, 12, 15, 13), (0, 12, 19, 15)] ∈ hs_ws := hs_w 809 (by decide +kernel) rfl
theorem kw_810 : Cond.methodLink "CellmarketLaw" 47 yX10_fault ∈ hs_ws := hs_w 810 (by decide +kernel) rfl
theorem kw_811 : Cond.instanceMethod yX10_fault ∈ hs_ws := hs_w 811 (by decide +kernel) rfl
theorem kw_812 : Cond.selects "Cellmarket" yX10_fault yX10_fault ∈ hs_ws := hs_w 812 (by decide +kernel) rfl
theorem kw_813 : Cond.code yX10_fault cX10_fault 5 (some FieldType.int) ∈ hs_ws := hs_w 813 (by decide +kernel) rfl
theorem kw_814 : Cond.methodLink "Cellmarket" 167 yX4_faultOf ∈ hs_ws := hs_w 814 (by decide +kernel) rfl
theorem kw_815 : Cond.instanceMethod yX4_faultOf ∈ hs_ws := hs_w 815 (by decide +kernel) rfl
theorem kw_816 : Cond.selects "Cellmarket$Finder" yX4_faultOf yX4_faultOf ∈ hs_ws := hs_w 816 (by decide +kernel) rfl
theorem kw_817 : Cond.code yX4_faultOf cX4_faultOf 2 (some FieldType.int) ∈ hs_ws := hs_w 817 (by decide +kernel) rfl
theorem kw_818 : Cond.methodLink "CellmarketLaw" 153 yL_edits ∈ hs_ws := hs_w 818 (by decide +kernel) rfl
theorem kw_819 : Cond.static yL_edits ∈ hs_ws := hs_w 819 (by decide +kernel) rfl
theorem kw_820 : Cond.codeWith yL_edits cL_edits 5 (some FieldType.int) [(0, 10, 13, 13)] ∈ hs_ws := hs_w 820 (by decide +kernel) rfl
theorem kw_821 : Cond.methodLink "CellmarketLaw" 50 yX10_edits ∈ hs_ws := hs_w 821 (by decide +kernel) rfl
theorem kw_822 : Cond.instanceMethod yX10_edits ∈ hs_ws := hs_w 822 (by decide +kernel) rfl
theorem kw_823 : Cond.selects "Cellmarket" yX10_edits yX10_edits ∈ hs_ws := hs_w 823 (by decide +kernel) rfl
theorem kw_824 : Cond.code yX10_edits cX10_edits 3 (some FieldType.int) ∈ hs_ws := hs_w 824 (by decide +kernel) rfl
theorem kw_825 : Cond.methodLink "Cellmarket" 170 yX9_countOf ∈ hs_ws := hs_w 825 (by decide +kernel) rfl
theorem kw_826 : Cond.instanceMethod yX9_countOf ∈ hs_ws := hs_w 826 (by decide +kernel) rfl
theorem kw_827 : Cond.selects "Cellmarket$Sheet" yX9_countOf yX9_countOf ∈ hs_ws := hs_w 827 (by decide +kernel) rfl
theorem kw_828 : Cond.code yX9_countOf cX9_countOf 4 (some FieldType.int) ∈ hs_ws := hs_w 828 (by decide +kernel) rfl
theorem kw_830 : Cond.methodLink "Cellmarket$Sheet" 60 ⟨"java/util/List", "get", "(I)Ljava/lang/Object;"⟩ ∈ hs_ws := hs_w 830 (by decide +kernel) rfl
theorem kw_831 : Cond.methodLink "CellmarketLaw" 156 yL_edit ∈ hs_ws := hs_w 831 (by decide +kernel) rfl
theorem kw_832 : Cond.static yL_edit ∈ hs_ws := hs_w 832 (by decide +kernel) rfl
theorem kw_833 : Cond.codeWith yL_edit cL_edit 7 (some FieldType.int) [(0, 14, 17, 13), (0, 14, 21, 21)] ∈ hs_ws := hs_w 833 (by decide +kernel) rfl
theorem kw_834 : Cond.methodLink "CellmarketLaw" 53 yX10_edit ∈ hs_ws := hs_w 834 (by decide +kernel) rfl
theorem kw_835 : Cond.instanceMethod yX10_edit ∈ hs_ws := hs_w 835 (by decide +kernel) rfl
theorem kw_836 : Cond.selects "Cellmarket" yX10_edit yX10_edit ∈ hs_ws := hs_w 836 (by decide +kernel) rfl
theorem kw_837 : Cond.code yX10_edit cX10_edit 7 (some FieldType.int) ∈ hs_ws := hs_w 837 (by decide +kernel) rfl
theorem kw_838 : Cond.methodLink "Cellmarket" 173 yX9_placed ∈ hs_ws := hs_w 838 (by decide +kernel) rfl
theorem kw_839 : Cond.instanceMethod yX9_placed ∈ hs_ws := hs_w 839 (by decide +kernel) rfl
theorem kw_840 : Cond.selects "Cellmarket$Sheet" yX9_placed yX9_placed ∈ hs_ws := hs_w 840 (by decide +kernel) rfl
theorem kw_841 : Cond.code yX9_placed cX9_placed 6 (some (FieldType.object "Cellmarket$Edit")) ∈ hs_ws := hs_w 841 (by decide +kernel) rfl
theorem kw_843 : Cond.methodLink "Cellmarket" 203 yX9_counting ∈ hs_ws := hs_w 843 (by decide +kernel) rfl
theorem kw_844 : Cond.instanceMethod yX9_counting ∈ hs_ws := hs_w 844 (by decide +kernel) rfl
theorem kw_845 : Cond.selects "Cellmarket$Sheet" yX9_counting yX9_counting ∈ hs_ws := hs_w 845 (by decide +kernel) rfl
theorem kw_846 : Cond.code yX9_counting cX9_counting 5 (some (FieldType.object "Cellmarket$Edit")) ∈ hs_ws := hs_w 846 (by decide +kernel) rfl
theorem kw_847 : Cond.methodLink "Cellmarket$Sheet" 68 yX3_countsAt ∈ hs_ws := hs_w 847 (by decide +kernel) rfl
theorem kw_849 : Cond.methodLink "CellmarketLaw" 159 yL_bid ∈ hs_ws := hs_w 849 (by decide +kernel) rfl
theorem kw_850 : Cond.static yL_bid ∈ hs_ws := hs_w 850 (by decide +kernel) rfl
theorem kw_851 : Cond.codeWith yL_bid cL_bid 8 (some FieldType.int) [(0, 16, 19, 13), (0, 16, 23, 21), (0, 16, 27, 15)] ∈ hs_ws := hs_w 851 (by decide +kernel) rfl
theorem kw_852 : Cond.methodLink "CellmarketLaw" 56 yX10_bid ∈ hs_ws := hs_w 852 (by decide +kernel) rfl
theorem kw_853 : Cond.instanceMethod yX10_bid ∈ hs_ws := hs_w 853 (by decide +kernel) rfl
theorem kw_854 : Cond.selects "Cellmarket" yX10_bid yX10_bid ∈ hs_ws := hs_w 854 (by decide +kernel) rfl
theorem kw_855 : Cond.code yX10_bid cX10_bid 8 (some FieldType.int) ∈ hs_ws := hs_w 855 (by decide +kernel) rfl
theorem kw_859 : Cond.methodLink "Cellmarket" 236 yX6_exposureOf ∈ hs_ws := hs_w 859 (by decide +kernel) rfl
theorem kw_860 : Cond.instanceMethod yX6_exposureOf ∈ hs_ws := hs_w 860 (by decide +kernel) rfl
theorem kw_861 : Cond.selects "Cellmarket$Ledger" yX6_exposureOf yX6_exposureOf ∈ hs_ws := hs_w 861 (by decide +kernel) rfl
theorem kw_862 : Cond.code yX6_exposureOf cX6_exposureOf 4 (some FieldType.int) ∈ hs_ws := hs_w 862 (by decide +kernel) rfl
theorem kw_863 : Cond.methodLink "Cellmarket$Ledger" 38 yX1_offeredBy ∈ hs_ws := hs_w 863 (by decide +kernel) rfl
theorem kw_864 : Cond.instanceMethod yX1_offeredBy ∈ hs_ws := hs_w 864 (by decide +kernel) rfl
theorem kw_865 : Cond.selects "Cellmarket$Book" yX1_offeredBy yX1_offeredBy ∈ hs_ws := hs_w 865 (by decide +kernel) rfl
theorem kw_866 : Cond.code yX1_offeredBy cX1_offeredBy 5 (some FieldType.int) ∈ hs_ws := hs_w 866 (by decide +kernel) rfl
theorem kw_868 : Cond.methodLink "Cellmarket$Book" 34 ⟨"java/util/List", "size", "()I"⟩ ∈ hs_ws := hs_w 868 (by decide +kernel) rfl
theorem kw_870 : Cond.methodLink "Cellmarket$Book" 50 ⟨"java/util/List", "get", "(I)Ljava/lang/Object;"⟩ ∈ hs_ws := hs_w 870 (by decide +kernel) rfl
theorem kw_871 : Cond.classLink "Cellmarket$Book" 54 "Cellmarket$Bid" ∈ hs_ws := hs_w 871 (by decide +kernel) rfl
theorem kw_872 : Cond.constant "Cellmarket$Book" 79 2147483647 ∈ hs_ws := hs_w 872 (by decide +kernel) rfl
theorem kw_873 : Cond.methodLink "Cellmarket$Book" 80 yX8_isCleared ∈ hs_ws := hs_w 873 (by decide +kernel) rfl
theorem kw_874 : Cond.instanceMethod yX8_isCleared ∈ hs_ws := hs_w 874 (by decide +kernel) rfl
theorem kw_875 : Cond.selects "Cellmarket$Round" yX8_isCleared yX8_isCleared ∈ hs_ws := hs_w 875 (by decide +kernel) rfl
theorem kw_876 : Cond.code yX8_isCleared cX8_isCleared 1 (some FieldType.boolean) ∈ hs_ws := hs_w 876 (by decide +kernel) rfl
theorem kw_877 : Cond.methodLink "Cellmarket$Ledger" 42 yX6_dueOf ∈ hs_ws := hs_w 877 (by decide +kernel) rfl
theorem kw_878 : Cond.instanceMethod yX6_dueOf ∈ hs_ws := hs_w 878 (by decide +kernel) rfl
theorem kw_879 : Cond.selects "Cellmarket$Ledger" yX6_dueOf yX6_dueOf ∈ hs_ws := hs_w 879 (by decide +kernel) rfl
theorem kw_880 : Cond.code yX6_dueOf cX6_dueOf 3 (some FieldType.int) ∈ hs_ws := hs_w 880 (by decide +kernel) rfl
theorem kw_881 : Cond.methodLink "Cellmarket$Ledger" 32 yX1_owedBy ∈ hs_ws := hs_w 881 (by decide +kernel) rfl
theorem kw_882 : Cond.instanceMethod yX1_owedBy ∈ hs_ws := hs_w 882 (by decide +kernel) rfl
theorem kw_883 : Cond.selects "Cellmarket$Book" yX1_owedBy yX1_owedBy ∈ hs_ws := hs_w 883 (by decide +kernel) rfl
theorem kw_884 : Cond.code yX1_owedBy cX1_owedBy 6 (some FieldType.int) ∈ hs_ws := hs_w 884 (by decide +kernel) rfl
theorem kw_885 : Cond.methodLink "Cellmarket$Book" 66 yX0_owed ∈ hs_ws := hs_w 885 (by decide +kernel) rfl
theorem kw_886 : Cond.instanceMethod yX0_owed ∈ hs_ws := hs_w 886 (by decide +kernel) rfl
theorem kw_887 : Cond.selects "Cellmarket$Bid" yX0_owed yX0_owed ∈ hs_ws := hs_w 887 (by decide +kernel) rfl
theorem kw_888 : Cond.code yX0_owed cX0_owed 1 (some FieldType.int) ∈ hs_ws := hs_w 888 (by decide +kernel) rfl
theorem kw_889 : Cond.methodLink "Cellmarket$Bid" 53 yX0_worth ∈ hs_ws := hs_w 889 (by decide +kernel) rfl
theorem kw_890 : Cond.instanceMethod yX0_worth ∈ hs_ws := hs_w 890 (by decide +kernel) rfl
theorem kw_891 : Cond.selects "Cellmarket$Bid" yX0_worth yX0_worth ∈ hs_ws := hs_w 891 (by decide +kernel) rfl
theorem kw_892 : Cond.code yX0_worth cX0_worth 1 (some FieldType.int) ∈ hs_ws := hs_w 892 (by decide +kernel) rfl
theorem kw_893 : Cond.methodLink "Cellmarket$Bid" 60 yX0_feePaid ∈ hs_ws := hs_w 893 (by decide +kernel) rfl
theorem kw_894 : Cond.instanceMethod yX0_feePaid ∈ hs_ws := hs_w 894 (by decide +kernel) rfl
theorem kw_895 : Cond.selects "Cellmarket$Bid" yX0_feePaid yX0_feePaid ∈ hs_ws := hs_w 895 (by decide +kernel) rfl
theorem kw_896 : Cond.code yX0_feePaid cX0_feePaid 1 (some FieldType.int) ∈ hs_ws := hs_w 896 (by decide +kernel) rfl
theorem kw_897 : Cond.methodLink "Cellmarket$Book" 69 yX8_feeOwner ∈ hs_ws := hs_w 897 (by decide +kernel) rfl
theorem kw_898 : Cond.instanceMethod yX8_feeOwner ∈ hs_ws := hs_w 898 (by decide +kernel) rfl
theorem kw_899 : Cond.selects "Cellmarket$Round" yX8_feeOwner yX8_feeOwner ∈ hs_ws := hs_w 899 (by decide +kernel) rfl
theorem kw_900 : Cond.code yX8_feeOwner cX8_feeOwner 1 (some FieldType.int) ∈ hs_ws := hs_w 900 (by decide +kernel) rfl
theorem kw_901 : Cond.methodLink "Cellmarket$Book" 60 yX0_feePaid ∈ hs_ws := hs_w 901 (by decide +kernel) rfl
theorem kw_902 : Cond.methodLink "Cellmarket$Ledger" 45 yJ9_max_7cf53 ∈ hs_ws := hs_w 902 (by decide +kernel) rfl
theorem kw_904 : Cond.classLink "Cellmarket" 244 "Cellmarket$Bid" ∈ hs_ws := hs_w 904 (by decide +kernel) rfl
theorem kw_905 : Cond.instantiable "Cellmarket$Bid" 10 ∈ hs_ws := hs_w 905 (by decide +kernel) rfl
theorem kw_906 : Cond.methodLink "Cellmarket" 246 yX0_init ∈ hs_ws := hs_w 906 (by decide +kernel) rfl
theorem kw_907 : Cond.instanceMethod yX0_init ∈ hs_ws := hs_w 907 (by decide +kernel) rfl
theorem kw_908 : Cond.code yX0_init cX0_init 8 none ∈ hs_ws := hs_w 908 (by decide +kernel) rfl
theorem kw_909 : Cond.methodLink "Cellmarket$Bid" 3 Lib.objectInit ∈ hs_ws := hs_w 909 (by decide +kernel) rfl
theorem kw_910 : Cond.constant "Cellmarket$Bid" 9 2147483647 ∈ hs_ws := hs_w 910 (by decide +kernel) rfl
theorem kw_911 : Cond.fieldLink "Cellmarket$Bid" 23 "Cellmarket$Bid" "number" "I" ∈ hs_ws := hs_w 911 (by decide +kernel) rfl
theorem kw_912 : Cond.fieldLink "Cellmarket$Clearing" 143 "Cellmarket$Bid" "number" "I" ∈ hs_ws := hs_w 912 (by decide +kernel) rfl
theorem kw_913 : Cond.fieldLink "Cellmarket$Bid" 26 "Cellmarket$Bid" "owner" "I" ∈ hs_ws := hs_w 913 (by decide +kernel) rfl
theorem kw_914 : Cond.fieldLink "Cellmarket$Book" 63 "Cellmarket$Bid" "owner" "I" ∈ hs_ws := hs_w 914 (by decide +kernel) rfl
theorem kw_915 : Cond.fieldLink "Cellmarket" 257 "Cellmarket$Bid" "owner" "I" ∈ hs_ws := hs_w 915 (by decide +kernel) rfl
theorem kw_916 : Cond.fieldLink "Cellmarket$Bid" 29 "Cellmarket$Bid" "round" "LCellmarket$Round;" ∈ hs_ws := hs_w 916 (by decide +kernel) rfl
theorem kw_917 : Cond.fieldLink "Cellmarket$Book" 56 "Cellmarket$Bid" "round" "LCellmarket$Round;" ∈ hs_ws := hs_w 917 (by decide +kernel) rfl
theorem kw_918 : Cond.fieldLink "Cellmarket$Clearing" 106 "Cellmarket$Bid" "round" "LCellmarket$Round;" ∈ hs_ws := hs_w 918 (by decide +kernel) rfl
theorem kw_919 : Cond.fieldLink "Cellmarket$Finder" 121 "Cellmarket$Bid" "round" "LCellmarket$Round;" ∈ hs_ws := hs_w 919 (by decide +kernel) rfl
theorem kw_920 : Cond.fieldLink "Cellmarket" 267 "Cellmarket$Bid" "round" "LCellmarket$Round;" ∈ hs_ws := hs_w 920 (by decide +kernel) rfl
theorem kw_921 : Cond.fieldLink "Cellmarket$Bid" 33 "Cellmarket$Bid" "isBuy" "Z" ∈ hs_ws := hs_w 921 (by decide +kernel) rfl
theorem kw_922 : Cond.fieldLink "Cellmarket$Book" 72 "Cellmarket$Bid" "isBuy" "Z" ∈ hs_ws := hs_w 922 (by decide +kernel) rfl
theorem kw_923 : Cond.fieldLink "Cellmarket$Clearing" 118 "Cellmarket$Bid" "isBuy" "Z" ∈ hs_ws := hs_w 923 (by decide +kernel) rfl
theorem kw_924 : Cond.fieldLink "Cellmarket$Finder" 125 "Cellmarket$Bid" "isBuy" "Z" ∈ hs_ws := hs_w 924 (by decide +kernel) rfl
theorem kw_925 : Cond.fieldLink "Cellmarket$Bid" 36 "Cellmarket$Bid" "many" "I" ∈ hs_ws := hs_w 925 (by decide +kernel) rfl
theorem kw_926 : Cond.fieldLink "Cellmarket$Book" 84 "Cellmarket$Bid" "many" "I" ∈ hs_ws := hs_w 926 (by decide +kernel) rfl
theorem kw_927 : Cond.fieldLink "Cellmarket$Clearing" 136 "Cellmarket$Bid" "many" "I" ∈ hs_ws := hs_w 927 (by decide +kernel) rfl
theorem kw_928 : Cond.fieldLink "Cellmarket$Finder" 137 "Cellmarket$Bid" "many" "I" ∈ hs_ws := hs_w 928 (by decide +kernel) rfl
theorem kw_929 : Cond.fieldLink "Cellmarket" 281 "Cellmarket$Bid" "many" "I" ∈ hs_ws := hs_w 929 (by decide +kernel) rfl
theorem kw_930 : Cond.fieldLink "Cellmarket$Bid" 39 "Cellmarket$Bid" "limit" "I" ∈ hs_ws := hs_w 930 (by decide +kernel) rfl
theorem kw_931 : Cond.fieldLink "Cellmarket$Book" 87 "Cellmarket$Bid" "limit" "I" ∈ hs_ws := hs_w 931 (by decide +kernel) rfl
theorem kw_932 : Cond.fieldLink "Cellmarket$Finder" 129 "Cellmarket$Bid" "limit" "I" ∈ hs_ws := hs_w 932 (by decide +kernel) rfl
theorem kw_933 : Cond.fieldLink "Cellmarket$Bid" 42 "Cellmarket$Bid" "made" "I" ∈ hs_ws := hs_w 933 (by decide +kernel) rfl
theorem kw_934 : Cond.fieldLink "Cellmarket$Bid" 10 "Cellmarket$Bid" "withdrawn" "I" ∈ hs_ws := hs_w 934 (by decide +kernel) rfl
theorem kw_935 : Cond.fieldLink "Cellmarket$Book" 76 "Cellmarket$Bid" "withdrawn" "I" ∈ hs_ws := hs_w 935 (by decide +kernel) rfl
theorem kw_936 : Cond.fieldLink "Cellmarket" 261 "Cellmarket$Bid" "withdrawn" "I" ∈ hs_ws := hs_w 936 (by decide +kernel) rfl
theorem kw_937 : Cond.fieldLink "Cellmarket$Bid" 16 "Cellmarket$Bid" "isStruck" "Z" ∈ hs_ws := hs_w 937 (by decide +kernel) rfl
theorem kw_938 : Cond.fieldLink "Cellmarket" 342 "Cellmarket$Bid" "isStruck" "Z" ∈ hs_ws := hs_w 938 (by decide +kernel) rfl
theorem kw_939 : Cond.fieldLink "Cellmarket$Bid" 20 "Cellmarket$Bid" "got" "I" ∈ hs_ws := hs_w 939 (by decide +kernel) rfl
theorem kw_940 : Cond.fieldLink "Cellmarket$Clearing" 129 "Cellmarket$Bid" "got" "I" ∈ hs_ws := hs_w 940 (by decide +kernel) rfl
theorem kw_941 : Cond.fieldLink "Cellmarket" 327 "Cellmarket$Bid" "got" "I" ∈ hs_ws := hs_w 941 (by decide +kernel) rfl
theorem kw_942 : Cond.laysFinal "Cellmarket$Bid" "Cellmarket$Bid" "number" "I" ∈ hs_ws := hs_w 942 (by decide +kernel) rfl
theorem kw_944 : Cond.laysFinal "Cellmarket$Bid" "Cellmarket$Bid" "owner" "I" ∈ hs_ws := hs_w 944 (by decide +kernel) rfl
theorem kw_946 : Cond.laysFinal "Cellmarket$Bid" "Cellmarket$Bid" "round" "LCellmarket$Round;" ∈ hs_ws := hs_w 946 (by decide +kernel) rfl
theorem kw_948 : Cond.laysFinal "Cellmarket$Bid" "Cellmarket$Bid" "isBuy" "Z" ∈ hs_ws := hs_w 948 (by decide +kernel) rfl
theorem kw_950 : Cond.laysFinal "Cellmarket$Bid" "Cellmarket$Bid" "many" "I" ∈ hs_ws := hs_w 950 (by decide +kernel) rfl
theorem kw_952 : Cond.laysFinal "Cellmarket$Bid" "Cellmarket$Bid" "limit" "I" ∈ hs_ws := hs_w 952 (by decide +kernel) rfl
theorem kw_954 : Cond.laysFinal "Cellmarket$Bid" "Cellmarket$Bid" "made" "I" ∈ hs_ws := hs_w 954 (by decide +kernel) rfl
theorem kw_956 : Cond.lays "Cellmarket$Bid" "Cellmarket$Bid" "withdrawn" "I" ∈ hs_ws := hs_w 956 (by decide +kernel) rfl
theorem kw_958 : Cond.lays "Cellmarket$Bid" "Cellmarket$Bid" "isStruck" "Z" ∈ hs_ws := hs_w 958 (by decide +kernel) rfl
theorem kw_960 : Cond.lays "Cellmarket$Bid" "Cellmarket$Bid" "got" "I" ∈ hs_ws := hs_w 960 (by decide +kernel) rfl
theorem kw_964 : Cond.methodLink "Cellmarket" 249 ⟨"java/util/List", "add", "(Ljava/lang/Object;)Z"⟩ ∈ hs_ws := hs_w 964 (by decide +kernel) rfl
theorem kw_965 : Cond.methodLink "CellmarketLaw" 163 yL_withdraw ∈ hs_ws := hs_w 965 (by decide +kernel) rfl
theorem kw_966 : Cond.static yL_withdraw ∈ hs_ws := hs_w 966 (by decide +kernel) rfl
theorem kw_967 : Cond.codeWith yL_withdraw cL_withdraw 5 (some FieldType.int) [(0, 10, 13, 13), (0, 10, 17, 15)] ∈ hs_ws := hs_w 967 (by decide +kernel) rfl
theorem kw_968 : Cond.methodLink "CellmarketLaw" 60 yX10_withdraw ∈ hs_ws := hs_w 968 (by decide +kernel) rfl
theorem kw_969 : Cond.instanceMethod yX10_withdraw ∈ hs_ws := hs_w 969 (by decide +kernel) rfl
theorem kw_970 : Cond.selects "Cellmarket" yX10_withdraw yX10_withdraw ∈ hs_ws := hs_w 970 (by decide +kernel) rfl
theorem kw_971 : Cond.code yX10_withdraw cX10_withdraw 4 (some FieldType.int) ∈ hs_ws := hs_w 971 (by decide +kernel) rfl
theorem kw_972 : Cond.methodLink "Cellmarket" 253 yX10_bidNumbered ∈ hs_ws := hs_w 972 (by decide +kernel) rfl
theorem kw_974 : Cond.instanceMethod yX10_bidNumbered ∈ hs_ws := hs_w 974 (by decide +kernel) rfl
theorem kw_975 : Cond.code yX10_bidNumbered cX10_bidNumbered 2 (some (FieldType.object "Cellmarket$Bid")) ∈ hs_ws := hs_w 975 (by decide +kernel) rfl
theorem kw_978 : Cond.methodLink "Cellmarket" 323 ⟨"java/util/List", "get", "(I)Ljava/lang/Object;"⟩ ∈ hs_ws := hs_w 978 (by decide +kernel) rfl
theorem kw_980 : Cond.constant "Cellmarket" 264 2147483647 ∈ hs_ws := hs_w 980 (by decide +kernel) rfl
theorem kw_983 : Cond.methodLink "Cellmarket" 276 yX8_isCleared ∈ hs_ws := hs_w 983 (by decide +kernel) rfl
theorem kw_985 : Cond.methodLink "CellmarketLaw" 166 yL_share ∈ hs_ws := hs_w 985 (by decide +kernel) rfl
theorem kw_986 : Cond.static yL_share ∈ hs_ws := hs_w 986 (by decide +kernel) rfl
theorem kw_987 : Cond.codeWith yL_share cL_share 5 (some FieldType.int) [(0, 17, 20, 13)] ∈ hs_ws := hs_w 987 (by decide +kernel) rfl
theorem kw_988 : Cond.methodLink "CellmarketLaw" 63 yX10_share ∈ hs_ws := hs_w 988 (by decide +kernel) rfl
theorem kw_989 : Cond.instanceMethod yX10_share ∈ hs_ws := hs_w 989 (by decide +kernel) rfl
theorem kw_990 : Cond.selects "Cellmarket" yX10_share yX10_share ∈ hs_ws := hs_w 990 (by decide +kernel) rfl
theorem kw_991 : Cond.code yX10_share cX10_share 4 (some FieldType.boolean) ∈ hs_ws := hs_w 991 (by decide +kernel) rfl
theorem kw_992 : Cond.methodLink "CellmarketLaw" 170 yL_bell ∈ hs_ws := hs_w 992 (by decide +kernel) rfl
theorem kw_993 : Cond.static yL_bell ∈ hs_ws := hs_w 993 (by decide +kernel) rfl
theorem kw_994 : Cond.codeWith yL_bell cL_bell 4 (some FieldType.int) [(0, 9, 12, 13), (0, 9, 15, 15)] ∈ hs_ws := hs_w 994 (by decide +kernel) rfl
theorem kw_995 : Cond.methodLink "CellmarketLaw" 67 yX10_bell ∈ hs_ws := hs_w 995 (by decide +kernel) rfl
theorem kw_996 : Cond.instanceMethod yX10_bell ∈ hs_ws := hs_w 996 (by decide +kernel) rfl
theorem kw_997 : Cond.selects "Cellmarket" yX10_bell yX10_bell ∈ hs_ws := hs_w 997 (by decide +kernel) rfl
theorem kw_998 : Cond.code yX10_bell cX10_bell 4 (some FieldType.int) ∈ hs_ws := hs_w 998 (by decide +kernel) rfl
theorem kw_999 : Cond.methodLink "Cellmarket" 286 yX8_freeze ∈ hs_ws := hs_w 999 (by decide +kernel) rfl
theorem kw_1000 : Cond.instanceMethod yX8_freeze ∈ hs_ws := hs_w 1000 (by decide +kernel) rfl
theorem kw_1001 : Cond.selects "Cellmarket$Round" yX8_freeze yX8_freeze ∈ hs_ws := hs_w 1001 (by decide +kernel) rfl
theorem kw_1002 : Cond.code yX8_freeze cX8_freeze 4 none ∈ hs_ws := hs_w 1002 (by decide +kernel) rfl
theorem kw_1003 : Cond.methodLink "Cellmarket$Round" 49 yX7_copy ∈ hs_ws := hs_w 1003 (by decide +kernel) rfl
theorem kw_1004 : Cond.instanceMethod yX7_copy ∈ hs_ws := hs_w 1004 (by decide +kernel) rfl
theorem kw_1005 : Cond.selects "Cellmarket$Rights" yX7_copy yX7_copy ∈ hs_ws := hs_w 1005 (by decide +kernel) rfl
theorem kw_1006 : Cond.code yX7_copy cX7_copy 2 none ∈ hs_ws := hs_w 1006 (by decide +kernel) rfl
theorem kw_1007 : Cond.methodLink "Cellmarket$Rights" 18 arraycopyName ∈ hs_ws := hs_w 1007 (by decide +kernel) rfl
theorem kw_1009 : Cond.methodLink "Cellmarket" 295 yX1_close ∈ hs_ws := hs_w 1009 (by decide +kernel) rfl
theorem kw_1010 : Cond.instanceMethod yX1_close ∈ hs_ws := hs_w 1010 (by decide +kernel) rfl
theorem kw_1011 : Cond.selects "Cellmarket$Book" yX1_close yX1_close ∈ hs_ws := hs_w 1011 (by decide +kernel) rfl
theorem kw_1012 : Cond.code yX1_close cX1_close 4 (some FieldType.int) ∈ hs_ws := hs_w 1012 (by decide +kernel) rfl
theorem kw_1014 : Cond.methodLink "Cellmarket$Book" 43 ⟨"java/util/List", "add", "(Ljava/lang/Object;)Z"⟩ ∈ hs_ws := hs_w 1014 (by decide +kernel) rfl
theorem kw_1015 : Cond.methodLink "Cellmarket" 299 yX2_reckon ∈ hs_ws := hs_w 1015 (by decide +kernel) rfl
theorem kw_1016 : Cond.instanceMethod yX2_reckon ∈ hs_ws := hs_w 1016 (by decide +kernel) rfl
theorem kw_1017 : Cond.selects "Cellmarket$Clearing" yX2_reckon yX2_reckon ∈ hs_ws := hs_w 1017 (by decide +kernel) rfl
theorem kw_1018 : Cond.code yX2_reckon cX2_reckon 6 (some FieldType.boolean) ∈ hs_ws := hs_w 1018 (by decide +kernel) rfl
theorem kw_1019 : Cond.methodLink "Cellmarket$Clearing" 58 yX4_goTo ∈ hs_ws := hs_w 1019 (by decide +kernel) rfl
theorem kw_1020 : Cond.methodLink "Cellmarket$Clearing" 64 yX2_findPrice ∈ hs_ws := hs_w 1020 (by decide +kernel) rfl
theorem kw_1022 : Cond.instanceMethod yX2_findPrice ∈ hs_ws := hs_w 1022 (by decide +kernel) rfl
theorem kw_1023 : Cond.code yX2_findPrice cX2_findPrice 4 none ∈ hs_ws := hs_w 1023 (by decide +kernel) rfl
theorem kw_1024 : Cond.methodLink "Cellmarket$Clearing" 74 yX4_faultOf ∈ hs_ws := hs_w 1024 (by decide +kernel) rfl
theorem kw_1025 : Cond.methodLink "Cellmarket$Clearing" 78 yX4_isEmpty ∈ hs_ws := hs_w 1025 (by decide +kernel) rfl
theorem kw_1026 : Cond.instanceMethod yX4_isEmpty ∈ hs_ws := hs_w 1026 (by decide +kernel) rfl
theorem kw_1027 : Cond.selects "Cellmarket$Finder" yX4_isEmpty yX4_isEmpty ∈ hs_ws := hs_w 1027 (by decide +kernel) rfl
theorem kw_1028 : Cond.code yX4_isEmpty cX4_isEmpty 2 (some FieldType.boolean) ∈ hs_ws := hs_w 1028 (by decide +kernel) rfl
theorem kw_1029 : Cond.methodLink "Cellmarket$Clearing" 82 yX4_numberOf ∈ hs_ws := hs_w 1029 (by decide +kernel) rfl
theorem kw_1030 : Cond.methodLink "Cellmarket$Clearing" 88 yJ9_min_7cf53 ∈ hs_ws := hs_w 1030 (by decide +kernel) rfl
theorem kw_1031 : Cond.methodLink "Cellmarket$Clearing" 94 yJ9_max_7cf53 ∈ hs_ws := hs_w 1031 (by decide +kernel) rfl
theorem kw_1032 : Cond.methodLink "Cellmarket$Clearing" 68 yX2_shareOut ∈ hs_ws := hs_w 1032 (by decide +kernel) rfl
theorem kw_1034 : Cond.instanceMethod yX2_shareOut ∈ hs_ws := hs_w 1034 (by decide +kernel) rfl
theorem kw_1035 : Cond.code yX2_shareOut cX2_shareOut 8 (some FieldType.boolean) ∈ hs_ws := hs_w 1035 (by decide +kernel) rfl
theorem kw_1036 : Cond.methodLink "Cellmarket$Clearing" 97 yX2_totalOf ∈ hs_ws := hs_w 1036 (by decide +kernel) rfl
theorem kw_1038 : Cond.instanceMethod yX2_totalOf ∈ hs_ws := hs_w 1038 (by decide +kernel) rfl
theorem kw_1039 : Cond.code yX2_totalOf cX2_totalOf 6 (some FieldType.int) ∈ hs_ws := hs_w 1039 (by decide +kernel) rfl
theorem kw_1041 : Cond.methodLink "Cellmarket$Clearing" 25 ⟨"java/util/List", "size", "()I"⟩ ∈ hs_ws := hs_w 1041 (by decide +kernel) rfl
theorem kw_1043 : Cond.methodLink "Cellmarket$Clearing" 31 ⟨"java/util/List", "get", "(I)Ljava/lang/Object;"⟩ ∈ hs_ws := hs_w 1043 (by decide +kernel) rfl
theorem kw_1044 : Cond.classLink "Cellmarket$Clearing" 104 "Cellmarket$Bid" ∈ hs_ws := hs_w 1044 (by decide +kernel) rfl
theorem kw_1045 : Cond.methodLink "Cellmarket$Clearing" 132 yX2_isOnSide ∈ hs_ws := hs_w 1045 (by decide +kernel) rfl
theorem kw_1046 : Cond.static yX2_isOnSide ∈ hs_ws := hs_w 1046 (by decide +kernel) rfl
theorem kw_1047 : Cond.code yX2_isOnSide cX2_isOnSide 3 (some FieldType.boolean) ∈ hs_ws := hs_w 1047 (by decide +kernel) rfl
theorem kw_1048 : Cond.methodLink "Cellmarket$Clearing" 110 yX0_takesPart ∈ hs_ws := hs_w 1048 (by decide +kernel) rfl
theorem kw_1049 : Cond.instanceMethod yX0_takesPart ∈ hs_ws := hs_w 1049 (by decide +kernel) rfl
theorem kw_1050 : Cond.selects "Cellmarket$Bid" yX0_takesPart yX0_takesPart ∈ hs_ws := hs_w 1050 (by decide +kernel) rfl
theorem kw_1051 : Cond.code yX0_takesPart cX0_takesPart 1 (some FieldType.boolean) ∈ hs_ws := hs_w 1051 (by decide +kernel) rfl
theorem kw_1052 : Cond.methodLink "Cellmarket$Clearing" 121 yX2_partByShares ∈ hs_ws := hs_w 1052 (by decide +kernel) rfl
theorem kw_1054 : Cond.instanceMethod yX2_partByShares ∈ hs_ws := hs_w 1054 (by decide +kernel) rfl
theorem kw_1055 : Cond.code yX2_partByShares cX2_partByShares 10 (some FieldType.int) ∈ hs_ws := hs_w 1055 (by decide +kernel) rfl
theorem kw_1056 : Cond.methodLink "Cellmarket$Clearing" 125 yX2_partByOrder ∈ hs_ws := hs_w 1056 (by decide +kernel) rfl
theorem kw_1058 : Cond.instanceMethod yX2_partByOrder ∈ hs_ws := hs_w 1058 (by decide +kernel) rfl
theorem kw_1059 : Cond.code yX2_partByOrder cX2_partByOrder 5 (some FieldType.int) ∈ hs_ws := hs_w 1059 (by decide +kernel) rfl
theorem kw_1060 : Cond.methodLink "Cellmarket$Clearing" 139 yX0_goesAhead ∈ hs_ws := hs_w 1060 (by decide +kernel) rfl
theorem kw_1061 : Cond.instanceMethod yX0_goesAhead ∈ hs_ws := hs_w 1061 (by decide +kernel) rfl
theorem kw_1062 : Cond.selects "Cellmarket$Bid" yX0_goesAhead yX0_goesAhead ∈ hs_ws := hs_w 1062 (by decide +kernel) rfl
theorem kw_1063 : Cond.code yX0_goesAhead cX0_goesAhead 2 (some FieldType.boolean) ∈ hs_ws := hs_w 1063 (by decide +kernel) rfl
theorem kw_1064 : Cond.methodLink "CellmarketLaw" 174 yL_isFrozen ∈ hs_ws := hs_w 1064 (by decide +kernel) rfl
theorem kw_1065 : Cond.static yL_isFrozen ∈ hs_ws := hs_w 1065 (by decide +kernel) rfl
theorem kw_1066 : Cond.codeWith yL_isFrozen cL_isFrozen 4 (some FieldType.int) [(0, 16, 19, 13)] ∈ hs_ws := hs_w 1066 (by decide +kernel) rfl
theorem kw_1067 : Cond.methodLink "CellmarketLaw" 71 yX10_isFrozen ∈ hs_ws := hs_w 1067 (by decide +kernel) rfl
theorem kw_1068 : Cond.instanceMethod yX10_isFrozen ∈ hs_ws := hs_w 1068 (by decide +kernel) rfl
theorem kw_1069 : Cond.selects "Cellmarket" yX10_isFrozen yX10_isFrozen ∈ hs_ws := hs_w 1069 (by decide +kernel) rfl
theorem kw_1070 : Cond.code yX10_isFrozen cX10_isFrozen 2 (some FieldType.boolean) ∈ hs_ws := hs_w 1070 (by decide +kernel) rfl
theorem kw_1071 : Cond.methodLink "CellmarketLaw" 177 yL_round ∈ hs_ws := hs_w 1071 (by decide +kernel) rfl
theorem kw_1072 : Cond.static yL_round ∈ hs_ws := hs_w 1072 (by decide +kernel) rfl
theorem kw_1073 : Cond.codeWith yL_round cL_round 5 (some FieldType.int) [(0, 10, 13, 13), (0, 10, 17, 21)] ∈ hs_ws := hs_w 1073 (by decide +kernel) rfl
theorem kw_1074 : Cond.methodLink "CellmarketLaw" 75 yX10_round ∈ hs_ws := hs_w 1074 (by decide +kernel) rfl
theorem kw_1075 : Cond.instanceMethod yX10_round ∈ hs_ws := hs_w 1075 (by decide +kernel) rfl
theorem kw_1076 : Cond.selects "Cellmarket" yX10_round yX10_round ∈ hs_ws := hs_w 1076 (by decide +kernel) rfl
theorem kw_1077 : Cond.code yX10_round cX10_round 4 (some FieldType.int) ∈ hs_ws := hs_w 1077 (by decide +kernel) rfl
theorem kw_1078 : Cond.methodLink "Cellmarket" 303 yX10_roundNumbered ∈ hs_ws := hs_w 1078 (by decide +kernel) rfl
theorem kw_1080 : Cond.instanceMethod yX10_roundNumbered ∈ hs_ws := hs_w 1080 (by decide +kernel) rfl
theorem kw_1081 : Cond.code yX10_roundNumbered cX10_roundNumbered 2 (some (FieldType.object "Cellmarket$Round")) ∈ hs_ws := hs_w 1081 (by decide +kernel) rfl
theorem kw_1083 : Cond.classLink "Cellmarket" 217 "Cellmarket$Round" ∈ hs_ws := hs_w 1083 (by decide +kernel) rfl
theorem kw_1084 : Cond.methodLink "Cellmarket" 319 yX1_feesOf ∈ hs_ws := hs_w 1084 (by decide +kernel) rfl
theorem kw_1085 : Cond.instanceMethod yX1_feesOf ∈ hs_ws := hs_w 1085 (by decide +kernel) rfl
theorem kw_1086 : Cond.selects "Cellmarket$Book" yX1_feesOf yX1_feesOf ∈ hs_ws := hs_w 1086 (by decide +kernel) rfl
theorem kw_1087 : Cond.code yX1_feesOf cX1_feesOf 5 (some FieldType.int) ∈ hs_ws := hs_w 1087 (by decide +kernel) rfl
theorem kw_1088 : Cond.methodLink "CellmarketLaw" 180 yL_priceAnew ∈ hs_ws := hs_w 1088 (by decide +kernel) rfl
theorem kw_1089 : Cond.static yL_priceAnew ∈ hs_ws := hs_w 1089 (by decide +kernel) rfl
theorem kw_1090 : Cond.codeWith yL_priceAnew cL_priceAnew 4 (some FieldType.int) [(0, 9, 12, 13)] ∈ hs_ws := hs_w 1090 (by decide +kernel) rfl
theorem kw_1091 : Cond.methodLink "CellmarketLaw" 78 yX10_priceAnew ∈ hs_ws := hs_w 1091 (by decide +kernel) rfl
theorem kw_1092 : Cond.instanceMethod yX10_priceAnew ∈ hs_ws := hs_w 1092 (by decide +kernel) rfl
theorem kw_1093 : Cond.selects "Cellmarket" yX10_priceAnew yX10_priceAnew ∈ hs_ws := hs_w 1093 (by decide +kernel) rfl
theorem kw_1094 : Cond.code yX10_priceAnew cX10_priceAnew 4 (some FieldType.int) ∈ hs_ws := hs_w 1094 (by decide +kernel) rfl
theorem kw_1095 : Cond.methodLink "CellmarketLaw" 183 yL_got ∈ hs_ws := hs_w 1095 (by decide +kernel) rfl
theorem kw_1096 : Cond.static yL_got ∈ hs_ws := hs_w 1096 (by decide +kernel) rfl
theorem kw_1097 : Cond.codeWith yL_got cL_got 4 (some FieldType.int) [(0, 9, 12, 13)] ∈ hs_ws := hs_w 1097 (by decide +kernel) rfl
theorem kw_1098 : Cond.methodLink "CellmarketLaw" 81 yX10_got ∈ hs_ws := hs_w 1098 (by decide +kernel) rfl
theorem kw_1099 : Cond.instanceMethod yX10_got ∈ hs_ws := hs_w 1099 (by decide +kernel) rfl
theorem kw_1100 : Cond.selects "Cellmarket" yX10_got yX10_got ∈ hs_ws := hs_w 1100 (by decide +kernel) rfl
theorem kw_1101 : Cond.code yX10_got cX10_got 2 (some FieldType.int) ∈ hs_ws := hs_w 1101 (by decide +kernel) rfl
theorem kw_1102 : Cond.methodLink "CellmarketLaw" 186 yL_due ∈ hs_ws := hs_w 1102 (by decide +kernel) rfl
theorem kw_1103 : Cond.static yL_due ∈ hs_ws := hs_w 1103 (by decide +kernel) rfl
theorem kw_1104 : Cond.codeWith yL_due cL_due 5 (some FieldType.int) [(0, 10, 13, 13)] ∈ hs_ws := hs_w 1104 (by decide +kernel) rfl
theorem kw_1105 : Cond.methodLink "CellmarketLaw" 84 yX10_due ∈ hs_ws := hs_w 1105 (by decide +kernel) rfl
theorem kw_1106 : Cond.instanceMethod yX10_due ∈ hs_ws := hs_w 1106 (by decide +kernel) rfl
theorem kw_1107 : Cond.selects "Cellmarket" yX10_due yX10_due ∈ hs_ws := hs_w 1107 (by decide +kernel) rfl
theorem kw_1108 : Cond.code yX10_due cX10_due 3 (some FieldType.int) ∈ hs_ws := hs_w 1108 (by decide +kernel) rfl
theorem kw_1109 : Cond.methodLink "Cellmarket" 330 yX6_dueOf ∈ hs_ws := hs_w 1109 (by decide +kernel) rfl
theorem kw_1110 : Cond.methodLink "CellmarketLaw" 189 yL_settle ∈ hs_ws := hs_w 1110 (by decide +kernel) rfl
theorem kw_1111 : Cond.static yL_settle ∈ hs_ws := hs_w 1111 (by decide +kernel) rfl
theorem kw_1112 : Cond.codeWith yL_settle cL_settle 4 (some FieldType.int) [(0, 9, 12, 13)] ∈ hs_ws := hs_w 1112 (by decide +kernel) rfl
theorem kw_1113 : Cond.methodLink "CellmarketLaw" 87 yX10_settle ∈ hs_ws := hs_w 1113 (by decide +kernel) rfl
theorem kw_1114 : Cond.instanceMethod yX10_settle ∈ hs_ws := hs_w 1114 (by decide +kernel) rfl
theorem kw_1115 : Cond.selects "Cellmarket" yX10_settle yX10_settle ∈ hs_ws := hs_w 1115 (by decide +kernel) rfl
theorem kw_1116 : Cond.code yX10_settle cX10_settle 2 (some FieldType.int) ∈ hs_ws := hs_w 1116 (by decide +kernel) rfl
theorem kw_1117 : Cond.methodLink "Cellmarket" 333 yX6_payDues ∈ hs_ws := hs_w 1117 (by decide +kernel) rfl
theorem kw_1118 : Cond.instanceMethod yX6_payDues ∈ hs_ws := hs_w 1118 (by decide +kernel) rfl
theorem kw_1119 : Cond.selects "Cellmarket$Ledger" yX6_payDues yX6_payDues ∈ hs_ws := hs_w 1119 (by decide +kernel) rfl
theorem kw_1120 : Cond.code yX6_payDues cX6_payDues 6 (some FieldType.int) ∈ hs_ws := hs_w 1120 (by decide +kernel) rfl
theorem kw_1121 : Cond.methodLink "Cellmarket$Ledger" 50 yJ9_floorDiv_7cf53 ∈ hs_ws := hs_w 1121 (by decide +kernel) rfl
theorem kw_1122 : Cond.static yJ9_floorDiv_7cf53 ∈ hs_ws := hs_w 1122 (by decide +kernel) rfl
theorem kw_1123 : Cond.code yJ9_floorDiv_7cf53 cJ9_floorDiv_7cf53 3 (some FieldType.int) ∈ hs_ws := hs_w 1123 (by decide +kernel) rfl
theorem kw_1124 : Cond.methodLink "Cellmarket$Ledger" 53 yJ9_floorMod_7cf53 ∈ hs_ws := hs_w 1124 (by decide +kernel) rfl
theorem kw_1125 : Cond.static yJ9_floorMod_7cf53 ∈ hs_ws := hs_w 1125 (by decide +kernel) rfl
theorem kw_1126 : Cond.code yJ9_floorMod_7cf53 cJ9_floorMod_7cf53 3 (some FieldType.int) ∈ hs_ws := hs_w 1126 (by decide +kernel) rfl
theorem kw_1127 : Cond.methodLink "Cellmarket$Ledger" 56 yX6_cutAhead ∈ hs_ws := hs_w 1127 (by decide +kernel) rfl
theorem kw_1129 : Cond.instanceMethod yX6_cutAhead ∈ hs_ws := hs_w 1129 (by decide +kernel) rfl
theorem kw_1130 : Cond.code yX6_cutAhead cX6_cutAhead 4 (some FieldType.int) ∈ hs_ws := hs_w 1130 (by decide +kernel) rfl
theorem kw_1131 : Cond.methodLink "CellmarketLaw" 192 yL_cash ∈ hs_ws := hs_w 1131 (by decide +kernel) rfl
theorem kw_1132 : Cond.static yL_cash ∈ hs_ws := hs_w 1132 (by decide +kernel) rfl
theorem kw_1133 : Cond.codeWith yL_cash cL_cash 4 (some FieldType.int) [(0, 9, 12, 13)] ∈ hs_ws := hs_w 1133 (by decide +kernel) rfl
theorem kw_1134 : Cond.methodLink "CellmarketLaw" 90 yX10_cash ∈ hs_ws := hs_w 1134 (by decide +kernel) rfl
theorem kw_1135 : Cond.instanceMethod yX10_cash ∈ hs_ws := hs_w 1135 (by decide +kernel) rfl
theorem kw_1136 : Cond.selects "Cellmarket" yX10_cash yX10_cash ∈ hs_ws := hs_w 1136 (by decide +kernel) rfl
theorem kw_1137 : Cond.code yX10_cash cX10_cash 2 (some FieldType.int) ∈ hs_ws := hs_w 1137 (by decide +kernel) rfl
theorem kw_1138 : Cond.methodLink "CellmarketLaw" 195 yL_limit ∈ hs_ws := hs_w 1138 (by decide +kernel) rfl
theorem kw_1139 : Cond.static yL_limit ∈ hs_ws := hs_w 1139 (by decide +kernel) rfl
theorem kw_1140 : Cond.codeWith yL_limit cL_limit 5 (some FieldType.int) [(0, 10, 13, 13), (0, 10, 17, 21)] ∈ hs_ws := hs_w 1140 (by decide +kernel) rfl
theorem kw_1141 : Cond.methodLink "CellmarketLaw" 93 yX10_limit ∈ hs_ws := hs_w 1141 (by decide +kernel) rfl
theorem kw_1142 : Cond.instanceMethod yX10_limit ∈ hs_ws := hs_w 1142 (by decide +kernel) rfl
theorem kw_1143 : Cond.selects "Cellmarket" yX10_limit yX10_limit ∈ hs_ws := hs_w 1143 (by decide +kernel) rfl
theorem kw_1144 : Cond.code yX10_limit cX10_limit 4 (some FieldType.int) ∈ hs_ws := hs_w 1144 (by decide +kernel) rfl
theorem kw_1145 : Cond.constant "Cellmarket" 339 1000000000 ∈ hs_ws := hs_w 1145 (by decide +kernel) rfl
theorem kw_1146 : Cond.methodLink "CellmarketLaw" 198 yL_exposure ∈ hs_ws := hs_w 1146 (by decide +kernel) rfl
theorem kw_1147 : Cond.static yL_exposure ∈ hs_ws := hs_w 1147 (by decide +kernel) rfl
theorem kw_1148 : Cond.codeWith yL_exposure cL_exposure 4 (some FieldType.int) [(0, 9, 12, 13)] ∈ hs_ws := hs_w 1148 (by decide +kernel) rfl
theorem kw_1149 : Cond.methodLink "CellmarketLaw" 96 yX10_exposure ∈ hs_ws := hs_w 1149 (by decide +kernel) rfl
theorem kw_1150 : Cond.instanceMethod yX10_exposure ∈ hs_ws := hs_w 1150 (by decide +kernel) rfl
theorem kw_1151 : Cond.selects "Cellmarket" yX10_exposure yX10_exposure ∈ hs_ws := hs_w 1151 (by decide +kernel) rfl
theorem kw_1152 : Cond.code yX10_exposure cX10_exposure 2 (some FieldType.int) ∈ hs_ws := hs_w 1152 (by decide +kernel) rfl
theorem kw_1153 : Cond.methodLink "CellmarketLaw" 201 yL_strikeBid ∈ hs_ws := hs_w 1153 (by decide +kernel) rfl
theorem kw_1154 : Cond.static yL_strikeBid ∈ hs_ws := hs_w 1154 (by decide +kernel) rfl
theorem kw_1155 : Cond.codeWith yL_strikeBid cL_strikeBid 4 (some FieldType.int) [(0, 9, 12, 13), (0, 9, 15, 15)] ∈ hs_ws := hs_w 1155 (by decide +kernel) rfl
theorem kw_1156 : Cond.methodLink "CellmarketLaw" 99 yX10_strikeBid ∈ hs_ws := hs_w 1156 (by decide +kernel) rfl
theorem kw_1157 : Cond.instanceMethod yX10_strikeBid ∈ hs_ws := hs_w 1157 (by decide +kernel) rfl
theorem kw_1158 : Cond.selects "Cellmarket" yX10_strikeBid yX10_strikeBid ∈ hs_ws := hs_w 1158 (by decide +kernel) rfl
theorem kw_1159 : Cond.code yX10_strikeBid cX10_strikeBid 3 (some FieldType.int) ∈ hs_ws := hs_w 1159 (by decide +kernel) rfl
theorem kw_1162 : Cond.methodLink "Cellmarket" 345 yX2_reckonAll ∈ hs_ws := hs_w 1162 (by decide +kernel) rfl
theorem kw_1163 : Cond.instanceMethod yX2_reckonAll ∈ hs_ws := hs_w 1163 (by decide +kernel) rfl
theorem kw_1164 : Cond.selects "Cellmarket$Clearing" yX2_reckonAll yX2_reckonAll ∈ hs_ws := hs_w 1164 (by decide +kernel) rfl
theorem kw_1165 : Cond.code yX2_reckonAll cX2_reckonAll 3 (some FieldType.int) ∈ hs_ws := hs_w 1165 (by decide +kernel) rfl
theorem kw_1166 : Cond.classLink "Cellmarket$Clearing" 35 "Cellmarket$Round" ∈ hs_ws := hs_w 1166 (by decide +kernel) rfl
theorem kw_1167 : Cond.methodLink "Cellmarket$Clearing" 37 yX2_reckon ∈ hs_ws := hs_w 1167 (by decide +kernel) rfl
theorem kw_1168 : Cond.methodLink "CellmarketLaw" 204 yL_strikeEdit ∈ hs_ws := hs_w 1168 (by decide +kernel) rfl
theorem kw_1169 : Cond.static yL_strikeEdit ∈ hs_ws := hs_w 1169 (by decide +kernel) rfl
theorem kw_1170 : Cond.codeWith yL_strikeEdit cL_strikeEdit 4 (some FieldType.int) [(0, 9, 12, 13), (0, 9, 15, 15)] ∈ hs_ws := hs_w 1170 (by decide +kernel) rfl
theorem kw_1171 : Cond.methodLink "CellmarketLaw" 102 yX10_strikeEdit ∈ hs_ws := hs_w 1171 (by decide +kernel) rfl
theorem kw_1172 : Cond.instanceMethod yX10_strikeEdit ∈ hs_ws := hs_w 1172 (by decide +kernel) rfl
theorem kw_1173 : Cond.selects "Cellmarket" yX10_strikeEdit yX10_strikeEdit ∈ hs_ws := hs_w 1173 (by decide +kernel) rfl
theorem kw_1174 : Cond.code yX10_strikeEdit cX10_strikeEdit 3 (some FieldType.int) ∈ hs_ws := hs_w 1174 (by decide +kernel) rfl
theorem kw_1176 : Cond.classLink "Cellmarket" 183 "Cellmarket$Edit" ∈ hs_ws := hs_w 1176 (by decide +kernel) rfl
theorem kw_1177 : Cond.classLink "CellmarketLaw" 106 "CellmarketModel" ∈ hs_ws := hs_w 1177 (by decide +kernel) rfl
theorem kw_1179 : Cond.methodLink "CellmarketLaw" 108 yX11_init ∈ hs_ws := hs_w 1179 (by decide +kernel) rfl
theorem kw_1182 : Cond.methodLink "CellmarketModel" 1 Lib.objectInit ∈ hs_ws := hs_w 1182 (by decide +kernel) rfl
theorem kw_1183 : Cond.constant "CellmarketModel" 159 100000 ∈ hs_ws := hs_w 1183 (by decide +kernel) rfl
theorem kw_1184 : Cond.fieldLink "CellmarketModel" 164 "CellmarketModel" "events" "I" ∈ hs_ws := hs_w 1184 (by decide +kernel) rfl
theorem kw_1185 : Cond.fieldLink "CellmarketModel" 167 "CellmarketModel" "gives" "I" ∈ hs_ws := hs_w 1185 (by decide +kernel) rfl
theorem kw_1186 : Cond.fieldLink "CellmarketModel" 7 "CellmarketModel" "giveEvent" "[I" ∈ hs_ws := hs_w 1186 (by decide +kernel) rfl
theorem kw_1187 : Cond.fieldLink "CellmarketModel" 13 "CellmarketModel" "giveCell" "[I" ∈ hs_ws := hs_w 1187 (by decide +kernel) rfl
theorem kw_1188 : Cond.fieldLink "CellmarketModel" 16 "CellmarketModel" "giveOther" "[I" ∈ hs_ws := hs_w 1188 (by decide +kernel) rfl
theorem kw_1189 : Cond.fieldLink "CellmarketModel" 174 "CellmarketModel" "lets" "I" ∈ hs_ws := hs_w 1189 (by decide +kernel) rfl
theorem kw_1190 : Cond.fieldLink "CellmarketModel" 19 "CellmarketModel" "letEvent" "[I" ∈ hs_ws := hs_w 1190 (by decide +kernel) rfl
theorem kw_1191 : Cond.fieldLink "CellmarketModel" 22 "CellmarketModel" "letOwner" "[I" ∈ hs_ws := hs_w 1191 (by decide +kernel) rfl
theorem kw_1192 : Cond.fieldLink "CellmarketModel" 25 "CellmarketModel" "letOther" "[I" ∈ hs_ws := hs_w 1192 (by decide +kernel) rfl
theorem kw_1193 : Cond.fieldLink "CellmarketModel" 28 "CellmarketModel" "letRows" "[I" ∈ hs_ws := hs_w 1193 (by decide +kernel) rfl
theorem kw_1194 : Cond.fieldLink "CellmarketModel" 200 "CellmarketModel" "draft" "I" ∈ hs_ws := hs_w 1194 (by decide +kernel) rfl
theorem kw_1195 : Cond.fieldLink "CellmarketModel" 31 "CellmarketModel" "draftWords" "[I" ∈ hs_ws := hs_w 1195 (by decide +kernel) rfl
theorem kw_1196 : Cond.fieldLink "CellmarketModel" 215 "CellmarketModel" "edits" "I" ∈ hs_ws := hs_w 1196 (by decide +kernel) rfl
theorem kw_1197 : Cond.fieldLink "CellmarketModel" 34 "CellmarketModel" "editCell" "[I" ∈ hs_ws := hs_w 1197 (by decide +kernel) rfl
theorem kw_1198 : Cond.fieldLink "CellmarketModel" 37 "CellmarketModel" "editOwner" "[I" ∈ hs_ws := hs_w 1198 (by decide +kernel) rfl
theorem kw_1199 : Cond.fieldLink "CellmarketModel" 40 "CellmarketModel" "editEvent" "[I" ∈ hs_ws := hs_w 1199 (by decide +kernel) rfl
theorem kw_1200 : Cond.fieldLink "CellmarketModel" 43 "CellmarketModel" "editFrom" "[I" ∈ hs_ws := hs_w 1200 (by decide +kernel) rfl
theorem kw_1201 : Cond.fieldLink "CellmarketModel" 46 "CellmarketModel" "editSize" "[I" ∈ hs_ws := hs_w 1201 (by decide +kernel) rfl
theorem kw_1202 : Cond.fieldLink "CellmarketModel" 49 "CellmarketModel" "isEditStruck" "[Z" ∈ hs_ws := hs_w 1202 (by decide +kernel) rfl
theorem kw_1203 : Cond.fieldLink "CellmarketModel" 53 "CellmarketModel" "editWords" "[I" ∈ hs_ws := hs_w 1203 (by decide +kernel) rfl
theorem kw_1204 : Cond.fieldLink "CellmarketModel" 56 "CellmarketModel" "notice" "[I" ∈ hs_ws := hs_w 1204 (by decide +kernel) rfl
theorem kw_1205 : Cond.fieldLink "CellmarketModel" 59 "CellmarketModel" "byShares" "[Z" ∈ hs_ws := hs_w 1205 (by decide +kernel) rfl
theorem kw_1206 : Cond.fieldLink "CellmarketModel" 62 "CellmarketModel" "frozen" "[I" ∈ hs_ws := hs_w 1206 (by decide +kernel) rfl
theorem kw_1207 : Cond.fieldLink "CellmarketModel" 65 "CellmarketModel" "frozenByShares" "[Z" ∈ hs_ws := hs_w 1207 (by decide +kernel) rfl
theorem kw_1208 : Cond.fieldLink "CellmarketModel" 269 "CellmarketModel" "bids" "I" ∈ hs_ws := hs_w 1208 (by decide +kernel) rfl
theorem kw_1209 : Cond.fieldLink "CellmarketModel" 68 "CellmarketModel" "bidOwner" "[I" ∈ hs_ws := hs_w 1209 (by decide +kernel) rfl
theorem kw_1210 : Cond.fieldLink "CellmarketModel" 71 "CellmarketModel" "bidColumn" "[I" ∈ hs_ws := hs_w 1210 (by decide +kernel) rfl
theorem kw_1211 : Cond.fieldLink "CellmarketModel" 74 "CellmarketModel" "isBuy" "[Z" ∈ hs_ws := hs_w 1211 (by decide +kernel) rfl
theorem kw_1212 : Cond.fieldLink "CellmarketModel" 77 "CellmarketModel" "many" "[I" ∈ hs_ws := hs_w 1212 (by decide +kernel) rfl
theorem kw_1213 : Cond.fieldLink "CellmarketModel" 80 "CellmarketModel" "limit" "[I" ∈ hs_ws := hs_w 1213 (by decide +kernel) rfl
theorem kw_1214 : Cond.fieldLink "CellmarketModel" 83 "CellmarketModel" "bidEvent" "[I" ∈ hs_ws := hs_w 1214 (by decide +kernel) rfl
theorem kw_1215 : Cond.fieldLink "CellmarketModel" 86 "CellmarketModel" "withdrawn" "[I" ∈ hs_ws := hs_w 1215 (by decide +kernel) rfl
theorem kw_1216 : Cond.fieldLink "CellmarketModel" 89 "CellmarketModel" "bidRound" "[I" ∈ hs_ws := hs_w 1216 (by decide +kernel) rfl
theorem kw_1217 : Cond.fieldLink "CellmarketModel" 92 "CellmarketModel" "isBidStruck" "[Z" ∈ hs_ws := hs_w 1217 (by decide +kernel) rfl
theorem kw_1218 : Cond.fieldLink "CellmarketModel" 95 "CellmarketModel" "got" "[I" ∈ hs_ws := hs_w 1218 (by decide +kernel) rfl
theorem kw_1219 : Cond.fieldLink "CellmarketModel" 98 "CellmarketModel" "gotBefore" "[I" ∈ hs_ws := hs_w 1219 (by decide +kernel) rfl
theorem kw_1220 : Cond.fieldLink "CellmarketModel" 266 "CellmarketModel" "rounds" "I" ∈ hs_ws := hs_w 1220 (by decide +kernel) rfl
theorem kw_1221 : Cond.fieldLink "CellmarketModel" 101 "CellmarketModel" "roundColumn" "[I" ∈ hs_ws := hs_w 1221 (by decide +kernel) rfl
theorem kw_1222 : Cond.fieldLink "CellmarketModel" 104 "CellmarketModel" "roundFrozen" "[I" ∈ hs_ws := hs_w 1222 (by decide +kernel) rfl
theorem kw_1223 : Cond.fieldLink "CellmarketModel" 107 "CellmarketModel" "roundCleared" "[I" ∈ hs_ws := hs_w 1223 (by decide +kernel) rfl
theorem kw_1224 : Cond.fieldLink "CellmarketModel" 110 "CellmarketModel" "roundShares" "[Z" ∈ hs_ws := hs_w 1224 (by decide +kernel) rfl
theorem kw_1225 : Cond.fieldLink "CellmarketModel" 113 "CellmarketModel" "price" "[I" ∈ hs_ws := hs_w 1225 (by decide +kernel) rfl
theorem kw_1226 : Cond.fieldLink "CellmarketModel" 116 "CellmarketModel" "volume" "[I" ∈ hs_ws := hs_w 1226 (by decide +kernel) rfl
theorem kw_1227 : Cond.fieldLink "CellmarketModel" 119 "CellmarketModel" "fee" "[I" ∈ hs_ws := hs_w 1227 (by decide +kernel) rfl
theorem kw_1228 : Cond.fieldLink "CellmarketModel" 122 "CellmarketModel" "why" "[I" ∈ hs_ws := hs_w 1228 (by decide +kernel) rfl
theorem kw_1229 : Cond.fieldLink "CellmarketModel" 125 "CellmarketModel" "before" "[I" ∈ hs_ws := hs_w 1229 (by decide +kernel) rfl
theorem kw_1230 : Cond.fieldLink "CellmarketModel" 128 "CellmarketModel" "settled" "[J" ∈ hs_ws := hs_w 1230 (by decide +kernel) rfl
theorem kw_1231 : Cond.fieldLink "CellmarketModel" 132 "CellmarketModel" "cash" "[I" ∈ hs_ws := hs_w 1231 (by decide +kernel) rfl
theorem kw_1232 : Cond.fieldLink "CellmarketModel" 135 "CellmarketModel" "bound" "[I" ∈ hs_ws := hs_w 1232 (by decide +kernel) rfl
theorem kw_1233 : Cond.fieldLink "CellmarketModel" 138 "CellmarketModel" "path" "[I" ∈ hs_ws := hs_w 1233 (by decide +kernel) rfl
theorem kw_1234 : Cond.fieldLink "CellmarketModel" 141 "CellmarketModel" "pathAt" "[I" ∈ hs_ws := hs_w 1234 (by decide +kernel) rfl
theorem kw_1235 : Cond.fieldLink "CellmarketModel" 144 "CellmarketModel" "pathBase" "[I" ∈ hs_ws := hs_w 1235 (by decide +kernel) rfl
theorem kw_1236 : Cond.fieldLink "CellmarketModel" 147 "CellmarketModel" "pathEdit" "[I" ∈ hs_ws := hs_w 1236 (by decide +kernel) rfl
theorem kw_1237 : Cond.fieldLink "CellmarketModel" 225 "CellmarketModel" "depth" "I" ∈ hs_ws := hs_w 1237 (by decide +kernel) rfl
theorem kw_1238 : Cond.fieldLink "CellmarketModel" 150 "CellmarketModel" "pile" "[I" ∈ hs_ws := hs_w 1238 (by decide +kernel) rfl
theorem kw_1239 : Cond.fieldLink "CellmarketModel" 231 "CellmarketModel" "top" "I" ∈ hs_ws := hs_w 1239 (by decide +kernel) rfl
theorem kw_1240 : Cond.fieldLink "CellmarketModel" 153 "CellmarketModel" "isFound" "[Z" ∈ hs_ws := hs_w 1240 (by decide +kernel) rfl
theorem kw_1241 : Cond.fieldLink "CellmarketModel" 156 "CellmarketModel" "foundValue" "[I" ∈ hs_ws := hs_w 1241 (by decide +kernel) rfl
theorem kw_1242 : Cond.fieldLink "CellmarketModel" 234 "CellmarketModel" "fault" "I" ∈ hs_ws := hs_w 1242 (by decide +kernel) rfl
theorem kw_1243 : Cond.fieldLink "CellmarketModel" 160 "CellmarketModel" "thrown" "I" ∈ hs_ws := hs_w 1243 (by decide +kernel) rfl
theorem kw_1244 : Cond.lays "CellmarketModel" "CellmarketModel" "events" "I" ∈ hs_ws := hs_w 1244 (by decide +kernel) rfl
theorem kw_1246 : Cond.lays "CellmarketModel" "CellmarketModel" "gives" "I" ∈ hs_ws := hs_w 1246 (by decide +kernel) rfl
theorem kw_1248 : Cond.laysFinal "CellmarketModel" "CellmarketModel" "giveEvent" "[I" ∈ hs_ws := hs_w 1248 (by decide +kernel) rfl
theorem kw_1250 : Cond.laysFinal "CellmarketModel" "CellmarketModel" "giveCell" "[I" ∈ hs_ws := hs_w 1250 (by decide +kernel) rfl
theorem kw_1252 : Cond.laysFinal "CellmarketModel" "CellmarketModel" "giveOther" "[I" ∈ hs_ws := hs_w 1252 (by decide +kernel) rfl
theorem kw_1254 : Cond.lays "CellmarketModel" "CellmarketModel" "lets" "I" ∈ hs_ws := hs_w 1254 (by decide +kernel) rfl
theorem kw_1256 : Cond.laysFinal "CellmarketModel" "CellmarketModel" "letEvent" "[I" ∈ hs_ws := hs_w 1256 (by decide +kernel) rfl
theorem kw_1258 : Cond.laysFinal "CellmarketModel" "CellmarketModel" "letOwner" "[I" ∈ hs_ws := hs_w 1258 (by decide +kernel) rfl
theorem kw_1260 : Cond.laysFinal "CellmarketModel" "CellmarketModel" "letOther" "[I" ∈ hs_ws := hs_w 1260 (by decide +kernel) rfl
theorem kw_1262 : Cond.laysFinal "CellmarketModel" "CellmarketModel" "letRows" "[I" ∈ hs_ws := hs_w 1262 (by decide +kernel) rfl
theorem kw_1264 : Cond.lays "CellmarketModel" "CellmarketModel" "draft" "I" ∈ hs_ws := hs_w 1264 (by decide +kernel) rfl
theorem kw_1266 : Cond.laysFinal "CellmarketModel" "CellmarketModel" "draftWords" "[I" ∈ hs_ws := hs_w 1266 (by decide +kernel) rfl
theorem kw_1268 : Cond.lays "CellmarketModel" "CellmarketModel" "edits" "I" ∈ hs_ws := hs_w 1268 (by decide +kernel) rfl
theorem kw_1270 : Cond.laysFinal "CellmarketModel" "CellmarketModel" "editCell" "[I" ∈ hs_ws := hs_w 1270 (by decide +kernel) rfl
theorem kw_1272 : Cond.laysFinal "CellmarketModel" "CellmarketModel" "editOwner" "[I" ∈ hs_ws := hs_w 1272 (by decide +kernel) rfl
theorem kw_1274 : Cond.laysFinal "CellmarketModel" "CellmarketModel" "editEvent" "[I" ∈ hs_ws := hs_w 1274 (by decide +kernel) rfl
theorem kw_1276 : Cond.laysFinal "CellmarketModel" "CellmarketModel" "editFrom" "[I" ∈ hs_ws := hs_w 1276 (by decide +kernel) rfl
theorem kw_1278 : Cond.laysFinal "CellmarketModel" "CellmarketModel" "editSize" "[I" ∈ hs_ws := hs_w 1278 (by decide +kernel) rfl
theorem kw_1280 : Cond.laysFinal "CellmarketModel" "CellmarketModel" "isEditStruck" "[Z" ∈ hs_ws := hs_w 1280 (by decide +kernel) rfl
theorem kw_1282 : Cond.laysFinal "CellmarketModel" "CellmarketModel" "editWords" "[I" ∈ hs_ws := hs_w 1282 (by decide +kernel) rfl
theorem kw_1284 : Cond.laysFinal "CellmarketModel" "CellmarketModel" "notice" "[I" ∈ hs_ws := hs_w 1284 (by decide +kernel) rfl
theorem kw_1286 : Cond.laysFinal "CellmarketModel" "CellmarketModel" "byShares" "[Z" ∈ hs_ws := hs_w 1286 (by decide +kernel) rfl
theorem kw_1288 : Cond.laysFinal "CellmarketModel" "CellmarketModel" "frozen" "[I" ∈ hs_ws := hs_w 1288 (by decide +kernel) rfl
theorem kw_1290 : Cond.laysFinal "CellmarketModel" "CellmarketModel" "frozenByShares" "[Z" ∈ hs_ws := hs_w 1290 (by decide +kernel) rfl
theorem kw_1292 : Cond.lays "CellmarketModel" "CellmarketModel" "bids" "I" ∈ hs_ws := hs_w 1292 (by decide +kernel) rfl
theorem kw_1294 : Cond.laysFinal "CellmarketModel" "CellmarketModel" "bidOwner" "[I" ∈ hs_ws := hs_w 1294 (by decide +kernel) rfl
theorem kw_1296 : Cond.laysFinal "CellmarketModel" "CellmarketModel" "bidColumn" "[I" ∈ hs_ws := hs_w 1296 (by decide +kernel) rfl
theorem kw_1298 : Cond.laysFinal "CellmarketModel" "CellmarketModel" "isBuy" "[Z" ∈ hs_ws := hs_w 1298 (by decide +kernel) rfl
theorem kw_1300 : Cond.laysFinal "CellmarketModel" "CellmarketModel" "many" "[I" ∈ hs_ws := hs_w 1300 (by decide +kernel) rfl
theorem kw_1302 : Cond.laysFinal "CellmarketModel" "CellmarketModel" "limit" "[I" ∈ hs_ws := hs_w 1302 (by decide +kernel) rfl
theorem kw_1304 : Cond.laysFinal "CellmarketModel" "CellmarketModel" "bidEvent" "[I" ∈ hs_ws := hs_w 1304 (by decide +kernel) rfl
theorem kw_1306 : Cond.laysFinal "CellmarketModel" "CellmarketModel" "withdrawn" "[I" ∈ hs_ws := hs_w 1306 (by decide +kernel) rfl
theorem kw_1308 : Cond.laysFinal "CellmarketModel" "CellmarketModel" "bidRound" "[I" ∈ hs_ws := hs_w 1308 (by decide +kernel) rfl
theorem kw_1310 : Cond.laysFinal "CellmarketModel" "CellmarketModel" "isBidStruck" "[Z" ∈ hs_ws := hs_w 1310 (by decide +kernel) rfl
theorem kw_1312 : Cond.laysFinal "CellmarketModel" "CellmarketModel" "got" "[I" ∈ hs_ws := hs_w 1312 (by decide +kernel) rfl
theorem kw_1314 : Cond.laysFinal "CellmarketModel" "CellmarketModel" "gotBefore" "[I" ∈ hs_ws := hs_w 1314 (by decide +kernel) rfl
theorem kw_1316 : Cond.lays "CellmarketModel" "CellmarketModel" "rounds" "I" ∈ hs_ws := hs_w 1316 (by decide +kernel) rfl
theorem kw_1318 : Cond.laysFinal "CellmarketModel" "CellmarketModel" "roundColumn" "[I" ∈ hs_ws := hs_w 1318 (by decide +kernel) rfl
theorem kw_1320 : Cond.laysFinal "CellmarketModel" "CellmarketModel" "roundFrozen" "[I" ∈ hs_ws := hs_w 1320 (by decide +kernel) rfl
theorem kw_1322 : Cond.laysFinal "CellmarketModel" "CellmarketModel" "roundCleared" "[I" ∈ hs_ws := hs_w 1322 (by decide +kernel) rfl
theorem kw_1324 : Cond.laysFinal "CellmarketModel" "CellmarketModel" "roundShares" "[Z" ∈ hs_ws := hs_w 1324 (by decide +kernel) rfl
theorem kw_1326 : Cond.laysFinal "CellmarketModel" "CellmarketModel" "price" "[I" ∈ hs_ws := hs_w 1326 (by decide +kernel) rfl
theorem kw_1328 : Cond.laysFinal "CellmarketModel" "CellmarketModel" "volume" "[I" ∈ hs_ws := hs_w 1328 (by decide +kernel) rfl
theorem kw_1330 : Cond.laysFinal "CellmarketModel" "CellmarketModel" "fee" "[I" ∈ hs_ws := hs_w 1330 (by decide +kernel) rfl
theorem kw_1332 : Cond.laysFinal "CellmarketModel" "CellmarketModel" "why" "[I" ∈ hs_ws := hs_w 1332 (by decide +kernel) rfl
theorem kw_1334 : Cond.laysFinal "CellmarketModel" "CellmarketModel" "before" "[I" ∈ hs_ws := hs_w 1334 (by decide +kernel) rfl
theorem kw_1336 : Cond.laysFinal "CellmarketModel" "CellmarketModel" "settled" "[J" ∈ hs_ws := hs_w 1336 (by decide +kernel) rfl
theorem kw_1338 : Cond.laysFinal "CellmarketModel" "CellmarketModel" "cash" "[I" ∈ hs_ws := hs_w 1338 (by decide +kernel) rfl
theorem kw_1340 : Cond.laysFinal "CellmarketModel" "CellmarketModel" "bound" "[I" ∈ hs_ws := hs_w 1340 (by decide +kernel) rfl
theorem kw_1342 : Cond.laysFinal "CellmarketModel" "CellmarketModel" "path" "[I" ∈ hs_ws := hs_w 1342 (by decide +kernel) rfl
theorem kw_1344 : Cond.laysFinal "CellmarketModel" "CellmarketModel" "pathAt" "[I" ∈ hs_ws := hs_w 1344 (by decide +kernel) rfl
theorem kw_1346 : Cond.laysFinal "CellmarketModel" "CellmarketModel" "pathBase" "[I" ∈ hs_ws := hs_w 1346 (by decide +kernel) rfl
theorem kw_1348 : Cond.laysFinal "CellmarketModel" "CellmarketModel" "pathEdit" "[I" ∈ hs_ws := hs_w 1348 (by decide +kernel) rfl
theorem kw_1350 : Cond.lays "CellmarketModel" "CellmarketModel" "depth" "I" ∈ hs_ws := hs_w 1350 (by decide +kernel) rfl
theorem kw_1352 : Cond.laysFinal "CellmarketModel" "CellmarketModel" "pile" "[I" ∈ hs_ws := hs_w 1352 (by decide +kernel) rfl
theorem kw_1354 : Cond.lays "CellmarketModel" "CellmarketModel" "top" "I" ∈ hs_ws := hs_w 1354 (by decide +kernel) rfl
theorem kw_1356 : Cond.laysFinal "CellmarketModel" "CellmarketModel" "isFound" "[Z" ∈ hs_ws := hs_w 1356 (by decide +kernel) rfl
theorem kw_1358 : Cond.laysFinal "CellmarketModel" "CellmarketModel" "foundValue" "[I" ∈ hs_ws := hs_w 1358 (by decide +kernel) rfl
theorem kw_1360 : Cond.lays "CellmarketModel" "CellmarketModel" "fault" "I" ∈ hs_ws := hs_w 1360 (by decide +kernel) rfl
theorem kw_1362 : Cond.lays "CellmarketModel" "CellmarketModel" "thrown" "I" ∈ hs_ws := hs_w 1362 (by decide +kernel) rfl
theorem kw_1365 : Cond.arrayClass .long ∈ hs_ws := hs_w 1365 (by decide +kernel) rfl
theorem kw_1366 : Cond.methodLink "CellmarketLaw" 115 yX11_thrown ∈ hs_ws := hs_w 1366 (by decide +kernel) rfl
theorem kw_1370 : Cond.methodLink "CellmarketLaw" 114 yX11_give ∈ hs_ws := hs_w 1370 (by decide +kernel) rfl
theorem kw_1374 : Cond.methodLink "CellmarketModel" 177 yX11_isOwner ∈ hs_ws := hs_w 1374 (by decide +kernel) rfl
theorem kw_1375 : Cond.static yX11_isOwner ∈ hs_ws := hs_w 1375 (by decide +kernel) rfl
theorem kw_1376 : Cond.code yX11_isOwner cX11_isOwner 1 (some FieldType.boolean) ∈ hs_ws := hs_w 1376 (by decide +kernel) rfl
theorem kw_1377 : Cond.methodLink "CellmarketModel" 181 yX11_isCell ∈ hs_ws := hs_w 1377 (by decide +kernel) rfl
theorem kw_1378 : Cond.static yX11_isCell ∈ hs_ws := hs_w 1378 (by decide +kernel) rfl
theorem kw_1379 : Cond.code yX11_isCell cX11_isCell 2 (some FieldType.boolean) ∈ hs_ws := hs_w 1379 (by decide +kernel) rfl
theorem kw_1380 : Cond.methodLink "CellmarketModel" 185 yX11_asks ∈ hs_ws := hs_w 1380 (by decide +kernel) rfl
theorem kw_1382 : Cond.instanceMethod yX11_asks ∈ hs_ws := hs_w 1382 (by decide +kernel) rfl
theorem kw_1383 : Cond.code yX11_asks cX11_asks 2 (some FieldType.boolean) ∈ hs_ws := hs_w 1383 (by decide +kernel) rfl
theorem kw_1384 : Cond.methodLink "CellmarketModel" 170 yX11_ownerAt ∈ hs_ws := hs_w 1384 (by decide +kernel) rfl
theorem kw_1386 : Cond.instanceMethod yX11_ownerAt ∈ hs_ws := hs_w 1386 (by decide +kernel) rfl
theorem kw_1387 : Cond.code yX11_ownerAt cX11_ownerAt 5 (some FieldType.int) ∈ hs_ws := hs_w 1387 (by decide +kernel) rfl
theorem kw_1388 : Cond.methodLink "CellmarketModel" 189 yX11_fails ∈ hs_ws := hs_w 1388 (by decide +kernel) rfl
theorem kw_1390 : Cond.instanceMethod yX11_fails ∈ hs_ws := hs_w 1390 (by decide +kernel) rfl
theorem kw_1391 : Cond.code yX11_fails cX11_fails 2 (some FieldType.int) ∈ hs_ws := hs_w 1391 (by decide +kernel) rfl
theorem kw_1392 : Cond.methodLink "CellmarketLaw" 122 yX11_let ∈ hs_ws := hs_w 1392 (by decide +kernel) rfl
theorem kw_1396 : Cond.methodLink "CellmarketModel" 193 yX11_act ∈ hs_ws := hs_w 1396 (by decide +kernel) rfl
theorem kw_1398 : Cond.instanceMethod yX11_act ∈ hs_ws := hs_w 1398 (by decide +kernel) rfl
theorem kw_1399 : Cond.code yX11_act cX11_act 2 (some FieldType.int) ∈ hs_ws := hs_w 1399 (by decide +kernel) rfl
theorem kw_1400 : Cond.methodLink "CellmarketLaw" 126 yX11_ownerOf ∈ hs_ws := hs_w 1400 (by decide +kernel) rfl
theorem kw_1404 : Cond.methodLink "CellmarketLaw" 130 yX11_reads ∈ hs_ws := hs_w 1404 (by decide +kernel) rfl
theorem kw_1408 : Cond.methodLink "CellmarketModel" 196 yX11_readsAt ∈ hs_ws := hs_w 1408 (by decide +kernel) rfl
theorem kw_1410 : Cond.instanceMethod yX11_readsAt ∈ hs_ws := hs_w 1410 (by decide +kernel) rfl
theorem kw_1411 : Cond.code yX11_readsAt cX11_readsAt 7 (some FieldType.boolean) ∈ hs_ws := hs_w 1411 (by decide +kernel) rfl
theorem kw_1412 : Cond.methodLink "CellmarketLaw" 133 yX11_word ∈ hs_ws := hs_w 1412 (by decide +kernel) rfl
theorem kw_1416 : Cond.constant "CellmarketModel" 206 (-1000000) ∈ hs_ws := hs_w 1416 (by decide +kernel) rfl
theorem kw_1417 : Cond.constant "CellmarketModel" 207 1000000 ∈ hs_ws := hs_w 1417 (by decide +kernel) rfl
theorem kw_1418 : Cond.methodLink "CellmarketModel" 208 yX11_in ∈ hs_ws := hs_w 1418 (by decide +kernel) rfl
theorem kw_1419 : Cond.static yX11_in ∈ hs_ws := hs_w 1419 (by decide +kernel) rfl
theorem kw_1420 : Cond.code yX11_in cX11_in 3 (some FieldType.boolean) ∈ hs_ws := hs_w 1420 (by decide +kernel) rfl
theorem kw_1421 : Cond.methodLink "CellmarketModel" 211 yX11_pileOfDraft ∈ hs_ws := hs_w 1421 (by decide +kernel) rfl
theorem kw_1423 : Cond.instanceMethod yX11_pileOfDraft ∈ hs_ws := hs_w 1423 (by decide +kernel) rfl
theorem kw_1424 : Cond.code yX11_pileOfDraft cX11_pileOfDraft 3 (some FieldType.int) ∈ hs_ws := hs_w 1424 (by decide +kernel) rfl
theorem kw_1425 : Cond.methodLink "CellmarketModel" 203 yX11_takes ∈ hs_ws := hs_w 1425 (by decide +kernel) rfl
theorem kw_1426 : Cond.static yX11_takes ∈ hs_ws := hs_w 1426 (by decide +kernel) rfl
theorem kw_1427 : Cond.code yX11_takes cX11_takes 1 (some FieldType.int) ∈ hs_ws := hs_w 1427 (by decide +kernel) rfl
theorem kw_1428 : Cond.methodLink "CellmarketLaw" 137 yX11_wipe ∈ hs_ws := hs_w 1428 (by decide +kernel) rfl
theorem kw_1432 : Cond.methodLink "CellmarketLaw" 140 yX11_enter ∈ hs_ws := hs_w 1432 (by decide +kernel) rfl
theorem kw_1436 : Cond.methodLink "CellmarketModel" 218 yX11_tellsEdit ∈ hs_ws := hs_w 1436 (by decide +kernel) rfl
theorem kw_1438 : Cond.instanceMethod yX11_tellsEdit ∈ hs_ws := hs_w 1438 (by decide +kernel) rfl
theorem kw_1439 : Cond.code yX11_tellsEdit cX11_tellsEdit 6 (some FieldType.int) ∈ hs_ws := hs_w 1439 (by decide +kernel) rfl
theorem kw_1440 : Cond.methodLink "CellmarketLaw" 143 yX11_empty ∈ hs_ws := hs_w 1440 (by decide +kernel) rfl
theorem kw_1444 : Cond.methodLink "CellmarketLaw" 146 yX11_notice ∈ hs_ws := hs_w 1444 (by decide +kernel) rfl
theorem kw_1448 : Cond.methodLink "CellmarketLaw" 149 yX11_value ∈ hs_ws := hs_w 1448 (by decide +kernel) rfl
theorem kw_1452 : Cond.methodLink "CellmarketModel" 278 yX11_asked ∈ hs_ws := hs_w 1452 (by decide +kernel) rfl
theorem kw_1454 : Cond.instanceMethod yX11_asked ∈ hs_ws := hs_w 1454 (by decide +kernel) rfl
theorem kw_1455 : Cond.code yX11_asked cX11_asked 6 (some FieldType.int) ∈ hs_ws := hs_w 1455 (by decide +kernel) rfl
theorem kw_1456 : Cond.methodLink "CellmarketModel" 275 yX11_valueAt ∈ hs_ws := hs_w 1456 (by decide +kernel) rfl
theorem kw_1458 : Cond.instanceMethod yX11_valueAt ∈ hs_ws := hs_w 1458 (by decide +kernel) rfl
theorem kw_1459 : Cond.code yX11_valueAt cX11_valueAt 5 (some FieldType.int) ∈ hs_ws := hs_w 1459 (by decide +kernel) rfl
theorem kw_1460 : Cond.methodLink "CellmarketModel" 237 yX11_starts ∈ hs_ws := hs_w 1460 (by decide +kernel) rfl
theorem kw_1462 : Cond.instanceMethod yX11_starts ∈ hs_ws := hs_w 1462 (by decide +kernel) rfl
theorem kw_1463 : Cond.code yX11_starts cX11_starts 3 none ∈ hs_ws := hs_w 1463 (by decide +kernel) rfl
theorem kw_1464 : Cond.methodLink "CellmarketModel" 228 yX11_isEmptyAt ∈ hs_ws := hs_w 1464 (by decide +kernel) rfl
theorem kw_1466 : Cond.instanceMethod yX11_isEmptyAt ∈ hs_ws := hs_w 1466 (by decide +kernel) rfl
theorem kw_1467 : Cond.code yX11_isEmptyAt cX11_isEmptyAt 4 (some FieldType.boolean) ∈ hs_ws := hs_w 1467 (by decide +kernel) rfl
theorem kw_1468 : Cond.methodLink "CellmarketModel" 222 yX11_editAt ∈ hs_ws := hs_w 1468 (by decide +kernel) rfl
theorem kw_1470 : Cond.instanceMethod yX11_editAt ∈ hs_ws := hs_w 1470 (by decide +kernel) rfl
theorem kw_1471 : Cond.code yX11_editAt cX11_editAt 5 (some FieldType.int) ∈ hs_ws := hs_w 1471 (by decide +kernel) rfl
theorem kw_1472 : Cond.methodLink "CellmarketModel" 241 yX11_goes ∈ hs_ws := hs_w 1472 (by decide +kernel) rfl
theorem kw_1474 : Cond.instanceMethod yX11_goes ∈ hs_ws := hs_w 1474 (by decide +kernel) rfl
theorem kw_1475 : Cond.code yX11_goes cX11_goes 7 none ∈ hs_ws := hs_w 1475 (by decide +kernel) rfl
theorem kw_1476 : Cond.methodLink "CellmarketModel" 245 yX11_isFinding ∈ hs_ws := hs_w 1476 (by decide +kernel) rfl
theorem kw_1478 : Cond.instanceMethod yX11_isFinding ∈ hs_ws := hs_w 1478 (by decide +kernel) rfl
theorem kw_1479 : Cond.code yX11_isFinding cX11_isFinding 4 (some FieldType.boolean) ∈ hs_ws := hs_w 1479 (by decide +kernel) rfl
theorem kw_1480 : Cond.methodLink "CellmarketModel" 248 yX11_puts ∈ hs_ws := hs_w 1480 (by decide +kernel) rfl
theorem kw_1482 : Cond.instanceMethod yX11_puts ∈ hs_ws := hs_w 1482 (by decide +kernel) rfl
theorem kw_1483 : Cond.code yX11_puts cX11_puts 3 none ∈ hs_ws := hs_w 1483 (by decide +kernel) rfl
theorem kw_1484 : Cond.constantLong "CellmarketModel" 262 (-1000000000) ∈ hs_ws := hs_w 1484 (by decide +kernel) rfl
theorem kw_1485 : Cond.constantLong "CellmarketModel" 264 1000000000 ∈ hs_ws := hs_w 1485 (by decide +kernel) rfl
theorem kw_1486 : Cond.methodLink "CellmarketModel" 252 yX11_lastAt ∈ hs_ws := hs_w 1486 (by decide +kernel) rfl
theorem kw_1488 : Cond.instanceMethod yX11_lastAt ∈ hs_ws := hs_w 1488 (by decide +kernel) rfl
theorem kw_1489 : Cond.code yX11_lastAt cX11_lastAt 5 (some FieldType.int) ∈ hs_ws := hs_w 1489 (by decide +kernel) rfl
theorem kw_1490 : Cond.methodLink "CellmarketModel" 255 yX11_bidsAt ∈ hs_ws := hs_w 1490 (by decide +kernel) rfl
theorem kw_1492 : Cond.instanceMethod yX11_bidsAt ∈ hs_ws := hs_w 1492 (by decide +kernel) rfl
theorem kw_1493 : Cond.code yX11_bidsAt cX11_bidsAt 10 (some FieldType.int) ∈ hs_ws := hs_w 1493 (by decide +kernel) rfl
theorem kw_1494 : Cond.methodLink "CellmarketModel" 272 yX11_isThere ∈ hs_ws := hs_w 1494 (by decide +kernel) rfl
theorem kw_1496 : Cond.instanceMethod yX11_isThere ∈ hs_ws := hs_w 1496 (by decide +kernel) rfl
theorem kw_1497 : Cond.code yX11_isThere cX11_isThere 5 (some FieldType.boolean) ∈ hs_ws := hs_w 1497 (by decide +kernel) rfl
theorem kw_1498 : Cond.methodLink "CellmarketModel" 258 yX11_reckons ∈ hs_ws := hs_w 1498 (by decide +kernel) rfl
theorem kw_1500 : Cond.instanceMethod yX11_reckons ∈ hs_ws := hs_w 1500 (by decide +kernel) rfl
theorem kw_1501 : Cond.code yX11_reckons cX11_reckons 6 none ∈ hs_ws := hs_w 1501 (by decide +kernel) rfl
theorem kw_1502 : Cond.methodLink "CellmarketLaw" 152 yX11_fault ∈ hs_ws := hs_w 1502 (by decide +kernel) rfl
theorem kw_1506 : Cond.methodLink "CellmarketLaw" 155 yX11_edits ∈ hs_ws := hs_w 1506 (by decide +kernel) rfl
theorem kw_1510 : Cond.methodLink "CellmarketModel" 282 yX11_editsOf ∈ hs_ws := hs_w 1510 (by decide +kernel) rfl
theorem kw_1512 : Cond.instanceMethod yX11_editsOf ∈ hs_ws := hs_w 1512 (by decide +kernel) rfl
theorem kw_1513 : Cond.code yX11_editsOf cX11_editsOf 4 (some FieldType.int) ∈ hs_ws := hs_w 1513 (by decide +kernel) rfl
theorem kw_1514 : Cond.methodLink "CellmarketLaw" 158 yX11_edit ∈ hs_ws := hs_w 1514 (by decide +kernel) rfl
theorem kw_1518 : Cond.methodLink "CellmarketLaw" 162 yX11_bid ∈ hs_ws := hs_w 1518 (by decide +kernel) rfl
theorem kw_1522 : Cond.methodLink "CellmarketModel" 301 yX11_exposureOf ∈ hs_ws := hs_w 1522 (by decide +kernel) rfl
theorem kw_1524 : Cond.instanceMethod yX11_exposureOf ∈ hs_ws := hs_w 1524 (by decide +kernel) rfl
theorem kw_1525 : Cond.code yX11_exposureOf cX11_exposureOf 7 (some FieldType.long) ∈ hs_ws := hs_w 1525 (by decide +kernel) rfl
theorem kw_1526 : Cond.methodLink "CellmarketModel" 297 yX11_dueOf ∈ hs_ws := hs_w 1526 (by decide +kernel) rfl
theorem kw_1528 : Cond.instanceMethod yX11_dueOf ∈ hs_ws := hs_w 1528 (by decide +kernel) rfl
theorem kw_1529 : Cond.code yX11_dueOf cX11_dueOf 8 (some FieldType.long) ∈ hs_ws := hs_w 1529 (by decide +kernel) rfl
theorem kw_1530 : Cond.methodLink "CellmarketModel" 285 yX11_feesOf ∈ hs_ws := hs_w 1530 (by decide +kernel) rfl
theorem kw_1532 : Cond.instanceMethod yX11_feesOf ∈ hs_ws := hs_w 1532 (by decide +kernel) rfl
theorem kw_1533 : Cond.code yX11_feesOf cX11_feesOf 5 (some FieldType.long) ∈ hs_ws := hs_w 1533 (by decide +kernel) rfl
theorem kw_1534 : Cond.methodLink "CellmarketModel" 292 yX11_feeOf ∈ hs_ws := hs_w 1534 (by decide +kernel) rfl
theorem kw_1536 : Cond.instanceMethod yX11_feeOf ∈ hs_ws := hs_w 1536 (by decide +kernel) rfl
theorem kw_1537 : Cond.code yX11_feeOf cX11_feeOf 2 (some FieldType.long) ∈ hs_ws := hs_w 1537 (by decide +kernel) rfl
theorem kw_1538 : Cond.methodLink "CellmarketModel" 289 yX11_costOf ∈ hs_ws := hs_w 1538 (by decide +kernel) rfl
theorem kw_1540 : Cond.instanceMethod yX11_costOf ∈ hs_ws := hs_w 1540 (by decide +kernel) rfl
theorem kw_1541 : Cond.code yX11_costOf cX11_costOf 2 (some FieldType.long) ∈ hs_ws := hs_w 1541 (by decide +kernel) rfl
theorem kw_1542 : Cond.constantLong "CellmarketModel" 295 1000 ∈ hs_ws := hs_w 1542 (by decide +kernel) rfl
theorem kw_1543 : Cond.methodLink "CellmarketLaw" 165 yX11_withdraw ∈ hs_ws := hs_w 1543 (by decide +kernel) rfl
theorem kw_1547 : Cond.methodLink "CellmarketModel" 304 yX11_isBid ∈ hs_ws := hs_w 1547 (by decide +kernel) rfl
theorem kw_1549 : Cond.instanceMethod yX11_isBid ∈ hs_ws := hs_w 1549 (by decide +kernel) rfl
theorem kw_1550 : Cond.code yX11_isBid cX11_isBid 2 (some FieldType.boolean) ∈ hs_ws := hs_w 1550 (by decide +kernel) rfl
theorem kw_1551 : Cond.methodLink "CellmarketLaw" 169 yX11_share ∈ hs_ws := hs_w 1551 (by decide +kernel) rfl
theorem kw_1555 : Cond.methodLink "CellmarketLaw" 173 yX11_bell ∈ hs_ws := hs_w 1555 (by decide +kernel) rfl
theorem kw_1559 : Cond.methodLink "CellmarketModel" 307 yX11_clears ∈ hs_ws := hs_w 1559 (by decide +kernel) rfl
theorem kw_1561 : Cond.instanceMethod yX11_clears ∈ hs_ws := hs_w 1561 (by decide +kernel) rfl
theorem kw_1562 : Cond.code yX11_clears cX11_clears 8 none ∈ hs_ws := hs_w 1562 (by decide +kernel) rfl
theorem kw_1563 : Cond.methodLink "CellmarketModel" 313 yX11_sumOf ∈ hs_ws := hs_w 1563 (by decide +kernel) rfl
theorem kw_1565 : Cond.instanceMethod yX11_sumOf ∈ hs_ws := hs_w 1565 (by decide +kernel) rfl
theorem kw_1566 : Cond.code yX11_sumOf cX11_sumOf 5 (some FieldType.int) ∈ hs_ws := hs_w 1566 (by decide +kernel) rfl
theorem kw_1567 : Cond.methodLink "CellmarketModel" 310 yX11_takesPart ∈ hs_ws := hs_w 1567 (by decide +kernel) rfl
theorem kw_1569 : Cond.instanceMethod yX11_takesPart ∈ hs_ws := hs_w 1569 (by decide +kernel) rfl
theorem kw_1570 : Cond.code yX11_takesPart cX11_takesPart 3 (some FieldType.boolean) ∈ hs_ws := hs_w 1570 (by decide +kernel) rfl
theorem kw_1571 : Cond.methodLink "CellmarketModel" 317 yX11_shares ∈ hs_ws := hs_w 1571 (by decide +kernel) rfl
theorem kw_1573 : Cond.instanceMethod yX11_shares ∈ hs_ws := hs_w 1573 (by decide +kernel) rfl
theorem kw_1574 : Cond.code yX11_shares cX11_shares 13 none ∈ hs_ws := hs_w 1574 (by decide +kernel) rfl
theorem kw_1575 : Cond.methodLink "CellmarketModel" 321 yX11_isAhead ∈ hs_ws := hs_w 1575 (by decide +kernel) rfl
theorem kw_1577 : Cond.instanceMethod yX11_isAhead ∈ hs_ws := hs_w 1577 (by decide +kernel) rfl
theorem kw_1578 : Cond.code yX11_isAhead cX11_isAhead 5 (some FieldType.boolean) ∈ hs_ws := hs_w 1578 (by decide +kernel) rfl
theorem kw_1579 : Cond.methodLink "CellmarketLaw" 176 yX11_isFrozen ∈ hs_ws := hs_w 1579 (by decide +kernel) rfl
theorem kw_1583 : Cond.methodLink "CellmarketLaw" 179 yX11_round ∈ hs_ws := hs_w 1583 (by decide +kernel) rfl
theorem kw_1587 : Cond.methodLink "CellmarketLaw" 182 yX11_priceAnew ∈ hs_ws := hs_w 1587 (by decide +kernel) rfl
theorem kw_1591 : Cond.methodLink "CellmarketLaw" 185 yX11_got ∈ hs_ws := hs_w 1591 (by decide +kernel) rfl
theorem kw_1595 : Cond.methodLink "CellmarketLaw" 188 yX11_due ∈ hs_ws := hs_w 1595 (by decide +kernel) rfl
theorem kw_1599 : Cond.methodLink "CellmarketLaw" 191 yX11_settle ∈ hs_ws := hs_w 1599 (by decide +kernel) rfl
theorem kw_1603 : Cond.methodLink "CellmarketModel" 329 yX11_down ∈ hs_ws := hs_w 1603 (by decide +kernel) rfl
theorem kw_1604 : Cond.static yX11_down ∈ hs_ws := hs_w 1604 (by decide +kernel) rfl
theorem kw_1605 : Cond.code yX11_down cX11_down 2 (some FieldType.long) ∈ hs_ws := hs_w 1605 (by decide +kernel) rfl
theorem kw_1606 : Cond.constantLong "CellmarketModel" 325 10 ∈ hs_ws := hs_w 1606 (by decide +kernel) rfl
theorem kw_1607 : Cond.constantLong "CellmarketModel" 327 9 ∈ hs_ws := hs_w 1607 (by decide +kernel) rfl
theorem kw_1608 : Cond.methodLink "CellmarketModel" 333 yX11_restOf ∈ hs_ws := hs_w 1608 (by decide +kernel) rfl
theorem kw_1610 : Cond.instanceMethod yX11_restOf ∈ hs_ws := hs_w 1610 (by decide +kernel) rfl
theorem kw_1611 : Cond.code yX11_restOf cX11_restOf 5 (some FieldType.long) ∈ hs_ws := hs_w 1611 (by decide +kernel) rfl
theorem kw_1612 : Cond.methodLink "CellmarketLaw" 194 yX11_cash ∈ hs_ws := hs_w 1612 (by decide +kernel) rfl
theorem kw_1616 : Cond.methodLink "CellmarketLaw" 197 yX11_limit ∈ hs_ws := hs_w 1616 (by decide +kernel) rfl
theorem kw_1620 : Cond.constant "CellmarketModel" 336 1000000000 ∈ hs_ws := hs_w 1620 (by decide +kernel) rfl
theorem kw_1621 : Cond.methodLink "CellmarketLaw" 200 yX11_exposure ∈ hs_ws := hs_w 1621 (by decide +kernel) rfl
theorem kw_1625 : Cond.methodLink "CellmarketLaw" 203 yX11_strikeBid ∈ hs_ws := hs_w 1625 (by decide +kernel) rfl
theorem kw_1629 : Cond.methodLink "CellmarketModel" 337 yX11_clearsAll ∈ hs_ws := hs_w 1629 (by decide +kernel) rfl
theorem kw_1631 : Cond.instanceMethod yX11_clearsAll ∈ hs_ws := hs_w 1631 (by decide +kernel) rfl
theorem kw_1632 : Cond.code yX11_clearsAll cX11_clearsAll 5 (some FieldType.int) ∈ hs_ws := hs_w 1632 (by decide +kernel) rfl
theorem kw_1633 : Cond.methodLink "CellmarketLaw" 206 yX11_strikeEdit ∈ hs_ws := hs_w 1633 (by decide +kernel) rfl
theorem kw_1637 : Cond.methodLink "CellmarketLaw" 210 yX11_events ∈ hs_ws := hs_w 1637 (by decide +kernel) rfl
theorem kw_1642 : Cond.castable "Cellmarket$Round" "java/lang/Object" ∈ hs_ws := hs_w 1642 (by decide +kernel) rfl
theorem kw_1656 : Cond.castable "Cellmarket$Edit" "java/lang/Object" ∈ hs_ws := hs_w 1656 (by decide +kernel) rfl
theorem kw_1657 : Cond.castable "Cellmarket$Bid" "java/lang/Object" ∈ hs_ws := hs_w 1657 (by decide +kernel) rfl
theorem hk_0 : hs_k 0 = (1, (0, 10)) := rfl
theorem hc_0 : hs_cl0[0]? = some (RX0, TX0, 10) := rfl
theorem i_0 : ∀ w ∈ u_ws RX0 TX0 10, w ∈ hs_ws := List.forall_mem_cons.mpr ⟨kw_942, List.forall_mem_cons.mpr ⟨kw_944, List.forall_mem_cons.mpr ⟨kw_946, List.forall_mem_cons.mpr ⟨kw_948, List.forall_mem_cons.mpr ⟨kw_950, List.forall_mem_cons.mpr ⟨kw_952, List.forall_mem_cons.mpr ⟨kw_954, List.forall_mem_cons.mpr ⟨kw_956, List.forall_mem_cons.mpr ⟨kw_958, List.forall_mem_cons.mpr ⟨kw_960, fun _ h => nomatch h⟩⟩⟩⟩⟩⟩⟩⟩⟩⟩
theorem dv_0 : ∀ j, j < 10 → defaultValue (tyX0 j) = hs_dv 0 j := by decide +kernel
theorem hk_1 : hs_k 1 = (1, (1, 4)) := rfl
theorem hc_1 : hs_cl0[1]? = some (RX1, TX1, 4) := rfl
theorem i_1 : ∀ w ∈ u_ws RX1 TX1 4, w ∈ hs_ws := List.forall_mem_cons.mpr ⟨kw_270, List.forall_mem_cons.mpr ⟨kw_272, List.forall_mem_cons.mpr ⟨kw_274, List.forall_mem_cons.mpr ⟨kw_276, fun _ h => nomatch h⟩⟩⟩⟩
theorem dv_1 : ∀ j, j < 4 → defaultValue (tyX1 j) = hs_dv 1 j := by decide +kernel
theorem hk_2 : hs_k 2 = (1, (2, 2)) := rfl
theorem hc_2 : hs_cl0[2]? = some (RX2, TX2, 2) := rfl
theorem i_2 : ∀ w ∈ u_ws RX2 TX2 2, w ∈ hs_ws := List.forall_mem_cons.mpr ⟨kw_328, List.forall_mem_cons.mpr ⟨kw_330, fun _ h => nomatch h⟩⟩
theorem dv_2 : ∀ j, j < 2 → defaultValue (tyX2 j) = hs_dv 2 j := by decide +kernel
theorem hk_3 : hs_k 3 = (1, (3, 7)) := rfl
theorem hc_3 : hs_cl0[3]? = some (RX3, TX3, 7) := rfl
theorem i_3 : ∀ w ∈ u_ws RX3 TX3 7, w ∈ hs_ws := List.forall_mem_cons.mpr ⟨kw_631, List.forall_mem_cons.mpr ⟨kw_633, List.forall_mem_cons.mpr ⟨kw_635, List.forall_mem_cons.mpr ⟨kw_637, List.forall_mem_cons.mpr ⟨kw_639, List.forall_mem_cons.mpr ⟨kw_641, List.forall_mem_cons.mpr ⟨kw_643, fun _ h => nomatch h⟩⟩⟩⟩⟩⟩⟩
theorem dv_3 : ∀ j, j < 7 → defaultValue (tyX3 j) = hs_dv 3 j := by decide +kernel
theorem hk_4 : hs_k 4 = (1, (4, 10)) := rfl
theorem hc_4 : hs_cl0[4]? = some (RX4, TX4, 10) := rfl
theorem i_4 : ∀ w ∈ u_ws RX4 TX4 10, w ∈ hs_ws := List.forall_mem_cons.mpr ⟨kw_299, List.forall_mem_cons.mpr ⟨kw_301, List.forall_mem_cons.mpr ⟨kw_303, List.forall_mem_cons.mpr ⟨kw_305, List.forall_mem_cons.mpr ⟨kw_307, List.forall_mem_cons.mpr ⟨kw_309, List.forall_mem_cons.mpr ⟨kw_311, List.forall_mem_cons.mpr ⟨kw_313, List.forall_mem_cons.mpr ⟨kw_315, List.forall_mem_cons.mpr ⟨kw_317, fun _ h => nomatch h⟩⟩⟩⟩⟩⟩⟩⟩⟩⟩
theorem dv_4 : ∀ j, j < 10 → defaultValue (tyX4 j) = hs_dv 4 j := by decide +kernel
theorem hk_5 : hs_k 5 = (1, (5, 5)) := rfl
theorem hc_5 : hs_cl0[5]? = some (RX5, TX5, 5) := rfl
theorem i_5 : ∀ w ∈ u_ws RX5 TX5 5, w ∈ hs_ws := List.forall_mem_cons.mpr ⟨kw_155, List.forall_mem_cons.mpr ⟨kw_157, List.forall_mem_cons.mpr ⟨kw_159, List.forall_mem_cons.mpr ⟨kw_161, List.forall_mem_cons.mpr ⟨kw_163, fun _ h => nomatch h⟩⟩⟩⟩⟩
theorem dv_5 : ∀ j, j < 5 → defaultValue (tyX5 j) = hs_dv 5 j := by decide +kernel
theorem hk_6 : hs_k 6 = (1, (6, 6)) := rfl
theorem hc_6 : hs_cl0[6]? = some (RX6, TX6, 6) := rfl
theorem i_6 : ∀ w ∈ u_ws RX6 TX6 6, w ∈ hs_ws := List.forall_mem_cons.mpr ⟨kw_348, List.forall_mem_cons.mpr ⟨kw_350, List.forall_mem_cons.mpr ⟨kw_352, List.forall_mem_cons.mpr ⟨kw_354, List.forall_mem_cons.mpr ⟨kw_356, List.forall_mem_cons.mpr ⟨kw_358, fun _ h => nomatch h⟩⟩⟩⟩⟩⟩
theorem dv_6 : ∀ j, j < 6 → defaultValue (tyX6 j) = hs_dv 6 j := by decide +kernel
theorem hk_7 : hs_k 7 = (1, (7, 2)) := rfl
theorem hc_7 : hs_cl0[7]? = some (RX7, TX7, 2) := rfl
theorem i_7 : ∀ w ∈ u_ws RX7 TX7 2, w ∈ hs_ws := List.forall_mem_cons.mpr ⟨kw_106, List.forall_mem_cons.mpr ⟨kw_108, fun _ h => nomatch h⟩⟩
theorem dv_7 : ∀ j, j < 2 → defaultValue (tyX7 j) = hs_dv 7 j := by decide +kernel
theorem hk_8 : hs_k 8 = (1, (8, 9)) := rfl
theorem hc_8 : hs_cl0[8]? = some (RX8, TX8, 9) := rfl
theorem i_8 : ∀ w ∈ u_ws RX8 TX8 9, w ∈ hs_ws := List.forall_mem_cons.mpr ⟨kw_238, List.forall_mem_cons.mpr ⟨kw_240, List.forall_mem_cons.mpr ⟨kw_242, List.forall_mem_cons.mpr ⟨kw_244, List.forall_mem_cons.mpr ⟨kw_246, List.forall_mem_cons.mpr ⟨kw_248, List.forall_mem_cons.mpr ⟨kw_250, List.forall_mem_cons.mpr ⟨kw_252, List.forall_mem_cons.mpr ⟨kw_254, fun _ h => nomatch h⟩⟩⟩⟩⟩⟩⟩⟩⟩
theorem dv_8 : ∀ j, j < 9 → defaultValue (tyX8 j) = hs_dv 8 j := by decide +kernel
theorem hk_9 : hs_k 9 = (1, (9, 5)) := rfl
theorem hc_9 : hs_cl0[9]? = some (RX9, TX9, 5) := rfl
theorem i_9 : ∀ w ∈ u_ws RX9 TX9 5, w ∈ hs_ws := List.forall_mem_cons.mpr ⟨kw_179, List.forall_mem_cons.mpr ⟨kw_181, List.forall_mem_cons.mpr ⟨kw_183, List.forall_mem_cons.mpr ⟨kw_185, List.forall_mem_cons.mpr ⟨kw_187, fun _ h => nomatch h⟩⟩⟩⟩⟩
theorem dv_9 : ∀ j, j < 5 → defaultValue (tyX9 j) = hs_dv 9 j := by decide +kernel
theorem hk_10 : hs_k 10 = (1, (10, 6)) := rfl
theorem hc_10 : hs_cl0[10]? = some (RX10, TX10, 6) := rfl
theorem i_10 : ∀ w ∈ u_ws RX10 TX10 6, w ∈ hs_ws := List.forall_mem_cons.mpr ⟨kw_367, List.forall_mem_cons.mpr ⟨kw_369, List.forall_mem_cons.mpr ⟨kw_371, List.forall_mem_cons.mpr ⟨kw_373, List.forall_mem_cons.mpr ⟨kw_375, List.forall_mem_cons.mpr ⟨kw_377, fun _ h => nomatch h⟩⟩⟩⟩⟩⟩
theorem dv_10 : ∀ j, j < 6 → defaultValue (tyX10 j) = hs_dv 10 j := by decide +kernel
theorem hk_11 : hs_k 11 = (1, (11, 60)) := rfl
theorem hc_11 : hs_cl0[11]? = some (RX11, TX11, 60) := rfl
theorem i_11 : ∀ w ∈ u_ws RX11 TX11 60, w ∈ hs_ws := List.forall_mem_cons.mpr ⟨kw_1244, List.forall_mem_cons.mpr ⟨kw_1246, List.forall_mem_cons.mpr ⟨kw_1248, List.forall_mem_cons.mpr ⟨kw_1250, List.forall_mem_cons.mpr ⟨kw_1252, List.forall_mem_cons.mpr ⟨kw_1254, List.forall_mem_cons.mpr ⟨kw_1256, List.forall_mem_cons.mpr ⟨kw_1258, List.forall_mem_cons.mpr ⟨kw_1260, List.forall_mem_cons.mpr ⟨kw_1262, List.forall_mem_cons.mpr ⟨kw_1264, List.forall_mem_cons.mpr ⟨kw_1266, List.forall_mem_cons.mpr ⟨kw_1268, List.forall_mem_cons.mpr ⟨kw_1270, List.forall_mem_cons.mpr ⟨kw_1272, List.forall_mem_cons.mpr ⟨kw_1274, List.forall_mem_cons.mpr ⟨kw_1276, List.forall_mem_cons.mpr ⟨kw_1278, List.forall_mem_cons.mpr ⟨kw_1280, List.forall_mem_cons.mpr ⟨kw_1282, List.forall_mem_cons.mpr ⟨kw_1284, List.forall_mem_cons.mpr ⟨kw_1286, List.forall_mem_cons.mpr ⟨kw_1288, List.forall_mem_cons.mpr ⟨kw_1290, List.forall_mem_cons.mpr ⟨kw_1292, List.forall_mem_cons.mpr ⟨kw_1294, List.forall_mem_cons.mpr ⟨kw_1296, List.forall_mem_cons.mpr ⟨kw_1298, List.forall_mem_cons.mpr ⟨kw_1300, List.forall_mem_cons.mpr ⟨kw_1302, List.forall_mem_cons.mpr ⟨kw_1304, List.forall_mem_cons.mpr ⟨kw_1306, List.forall_mem_cons.mpr ⟨kw_1308, List.forall_mem_cons.mpr ⟨kw_1310, List.forall_mem_cons.mpr ⟨kw_1312, List.forall_mem_cons.mpr ⟨kw_1314, List.forall_mem_cons.mpr ⟨kw_1316, List.forall_mem_cons.mpr ⟨kw_1318, List.forall_mem_cons.mpr ⟨kw_1320, List.forall_mem_cons.mpr ⟨kw_1322, List.forall_mem_cons.mpr ⟨kw_1324, List.forall_mem_cons.mpr ⟨kw_1326, List.forall_mem_cons.mpr ⟨kw_1328, List.forall_mem_cons.mpr ⟨kw_1330, List.forall_mem_cons.mpr ⟨kw_1332, List.forall_mem_cons.mpr ⟨kw_1334, List.forall_mem_cons.mpr ⟨kw_1336, List.forall_mem_cons.mpr ⟨kw_1338, List.forall_mem_cons.mpr ⟨kw_1340, List.forall_mem_cons.mpr ⟨kw_1342, List.forall_mem_cons.mpr ⟨kw_1344, List.forall_mem_cons.mpr ⟨kw_1346, List.forall_mem_cons.mpr ⟨kw_1348, List.forall_mem_cons.mpr ⟨kw_1350, List.forall_mem_cons.mpr ⟨kw_1352, List.forall_mem_cons.mpr ⟨kw_1354, List.forall_mem_cons.mpr ⟨kw_1356, List.forall_mem_cons.mpr ⟨kw_1358, List.forall_mem_cons.mpr ⟨kw_1360, List.forall_mem_cons.mpr ⟨kw_1362, fun _ h => nomatch h⟩⟩⟩⟩⟩⟩⟩⟩⟩⟩⟩⟩⟩⟩⟩⟩⟩⟩⟩⟩⟩⟩⟩⟩⟩⟩⟩⟩⟩⟩⟩⟩⟩⟩⟩⟩⟩⟩⟩⟩⟩⟩⟩⟩⟩⟩⟩⟩⟩⟩⟩⟩⟩⟩⟩⟩⟩⟩⟩⟩
theorem dv_11 : ∀ j, j < 60 → defaultValue (tyX11 j) = hs_dv 11 j := by decide +kernel
theorem hk_12 : hs_k 12 = (6, (3, 0)) := rfl
theorem hk_13 : hs_k 13 = (6, (0, 0)) := rfl
theorem hk_14 : hs_k 14 = (6, (8, 0)) := rfl
theorem hk_15 : hs_k 15 = (7, (0, 0)) := rfl
theorem hk_16 : hs_k 16 = (7, (0, 0)) := rfl
theorem hk_17 : hs_k 17 = (7, (0, 0)) := rfl
theorem hk_20 : hs_k 20 = (2, (24, 0)) := rfl
theorem hk_21 : hs_k 21 = (2, (24, 0)) := rfl
theorem hk_22 : hs_k 22 = (2, (12, 0)) := rfl
theorem hk_23 : hs_k 23 = (2, (12, 0)) := rfl
theorem hk_24 : hs_k 24 = (2, (12, 0)) := rfl
theorem hk_25 : hs_k 25 = (2, (4, 0)) := rfl
theorem hk_26 : hs_k 26 = (5, (4, 8)) := rfl
theorem hk_27 : hs_k 27 = (3, (4, 0)) := rfl
theorem hk_28 : hs_k 28 = (5, (24, 5)) := rfl
theorem hk_29 : hs_k 29 = (2, (24, 0)) := rfl
theorem hk_30 : hs_k 30 = (2, (24, 0)) := rfl
theorem hk_31 : hs_k 31 = (2, (24, 0)) := rfl
theorem hk_32 : hs_k 32 = (5, (8, 33)) := rfl
theorem hk_33 : hs_k 33 = (2, (4, 0)) := rfl
theorem hk_34 : hs_k 34 = (2, (291, 0)) := rfl
theorem hk_35 : hs_k 35 = (2, (24, 0)) := rfl
theorem hk_36 : hs_k 36 = (2, (6, 0)) := rfl
theorem hk_37 : hs_k 37 = (2, (6, 0)) := rfl
theorem hk_38 : hs_k 38 = (2, (6, 0)) := rfl
theorem hk_39 : hs_k 39 = (2, (6, 0)) := rfl
theorem hk_42 : hs_k 42 = (2, (1200, 0)) := rfl
theorem hk_43 : hs_k 43 = (2, (1200, 0)) := rfl
theorem hk_44 : hs_k 44 = (2, (1200, 0)) := rfl
theorem hk_46 : hs_k 46 = (2, (1200, 0)) := rfl
theorem hk_47 : hs_k 47 = (2, (1200, 0)) := rfl
theorem hk_48 : hs_k 48 = (2, (1200, 0)) := rfl
theorem hk_49 : hs_k 49 = (2, (1200, 0)) := rfl
theorem hk_51 : hs_k 51 = (2, (36, 0)) := rfl
theorem hk_53 : hs_k 53 = (2, (60, 0)) := rfl
theorem hk_54 : hs_k 54 = (2, (60, 0)) := rfl
theorem hk_55 : hs_k 55 = (2, (60, 0)) := rfl
theorem hk_56 : hs_k 56 = (2, (60, 0)) := rfl
theorem hk_57 : hs_k 57 = (2, (60, 0)) := rfl
theorem hk_58 : hs_k 58 = (3, (60, 0)) := rfl
theorem hk_59 : hs_k 59 = (2, (2160, 0)) := rfl
theorem hk_60 : hs_k 60 = (2, (4, 0)) := rfl
theorem hk_61 : hs_k 61 = (3, (4, 0)) := rfl
theorem hk_62 : hs_k 62 = (2, (4, 0)) := rfl
theorem hk_63 : hs_k 63 = (3, (4, 0)) := rfl
theorem hk_65 : hs_k 65 = (2, (80, 0)) := rfl
theorem hk_66 : hs_k 66 = (2, (80, 0)) := rfl
theorem hk_67 : hs_k 67 = (3, (80, 0)) := rfl
theorem hk_68 : hs_k 68 = (2, (80, 0)) := rfl
theorem hk_69 : hs_k 69 = (2, (80, 0)) := rfl
theorem hk_70 : hs_k 70 = (2, (80, 0)) := rfl
theorem hk_71 : hs_k 71 = (2, (80, 0)) := rfl
theorem hk_72 : hs_k 72 = (2, (80, 0)) := rfl
theorem hk_73 : hs_k 73 = (3, (80, 0)) := rfl
theorem hk_74 : hs_k 74 = (2, (80, 0)) := rfl
theorem hk_75 : hs_k 75 = (2, (80, 0)) := rfl
theorem hk_77 : hs_k 77 = (2, (30, 0)) := rfl
theorem hk_78 : hs_k 78 = (2, (30, 0)) := rfl
theorem hk_79 : hs_k 79 = (2, (30, 0)) := rfl
theorem hk_80 : hs_k 80 = (3, (30, 0)) := rfl
theorem hk_81 : hs_k 81 = (2, (30, 0)) := rfl
theorem hk_82 : hs_k 82 = (2, (30, 0)) := rfl
theorem hk_83 : hs_k 83 = (2, (30, 0)) := rfl
theorem hk_84 : hs_k 84 = (2, (30, 0)) := rfl
theorem hk_85 : hs_k 85 = (2, (90, 0)) := rfl
theorem hk_86 : hs_k 86 = (4, (24, 0)) := rfl
theorem hk_87 : hs_k 87 = (2, (6, 0)) := rfl
theorem hk_88 : hs_k 88 = (2, (6, 0)) := rfl
theorem hk_89 : hs_k 89 = (2, (25, 0)) := rfl
theorem hk_90 : hs_k 90 = (2, (25, 0)) := rfl
theorem hk_91 : hs_k 91 = (2, (25, 0)) := rfl
theorem hk_92 : hs_k 92 = (2, (25, 0)) := rfl
theorem hk_94 : hs_k 94 = (2, (320, 0)) := rfl
theorem hk_96 : hs_k 96 = (3, (24, 0)) := rfl
theorem hk_97 : hs_k 97 = (2, (24, 0)) := rfl
theorem hk_100 : hs_k 100 = (4, (1, 0)) := rfl
theorem hk_101 : hs_k 101 = (8, (0, 0)) := rfl
theorem kb10 : (Int8.ofInt 10).toInt32 = 10 := by decide
theorem kb100 : (Int8.ofInt 100).toInt32 = 100 := by decide
theorem kb11 : (Int8.ofInt 11).toInt32 = 11 := by decide
theorem kb12 : (Int8.ofInt 12).toInt32 = 12 := by decide
theorem kb14 : (Int8.ofInt 14).toInt32 = 14 := by decide
theorem kb24 : (Int8.ofInt 24).toInt32 = 24 := by decide
theorem kb25 : (Int8.ofInt 25).toInt32 = 25 := by decide
theorem kb30 : (Int8.ofInt 30).toInt32 = 30 := by decide
theorem kb32 : (Int8.ofInt 32).toInt32 = 32 := by decide
theorem kb36 : (Int8.ofInt 36).toInt32 = 36 := by decide
theorem kb40 : (Int8.ofInt 40).toInt32 = 40 := by decide
theorem kb50 : (Int8.ofInt 50).toInt32 = 50 := by decide
theorem kb6 : (Int8.ofInt 6).toInt32 = 6 := by decide
theorem kb60 : (Int8.ofInt 60).toInt32 = 60 := by decide
theorem kb7 : (Int8.ofInt 7).toInt32 = 7 := by decide
theorem kb8 : (Int8.ofInt 8).toInt32 = 8 := by decide
theorem kb80 : (Int8.ofInt 80).toInt32 = 80 := by decide
theorem kb9 : (Int8.ofInt 9).toInt32 = 9 := by decide
theorem kb90 : (Int8.ofInt 90).toInt32 = 90 := by decide
theorem kc0 : Int32.ofInt 0 = 0 := by decide
theorem kc1 : Int32.ofInt 1 = 1 := by decide
theorem kc2 : Int32.ofInt 2 = 2 := by decide
theorem kc3 : Int32.ofInt 3 = 3 := by decide
theorem kc4 : Int32.ofInt 4 = 4 := by decide
theorem kc5 : Int32.ofInt 5 = 5 := by decide
theorem kcm1 : Int32.ofInt (-1) = (-1) := by decide
theorem kl0 : Int64.ofNat ((0 : Fin 2) : Nat) = 0 := by decide
theorem kl1 : Int64.ofNat ((1 : Fin 2) : Nat) = 1 := by decide
theorem ks1000 : (Int16.ofInt 1000).toInt32 = 1000 := by decide
theorem ks1200 : (Int16.ofInt 1200).toInt32 = 1200 := by decide
theorem ks2160 : (Int16.ofInt 2160).toInt32 = 2160 := by decide
theorem ks256 : (Int16.ofInt 256).toInt32 = 256 := by decide
theorem ks288 : (Int16.ofInt 288).toInt32 = 288 := by decide
theorem ks291 : (Int16.ofInt 291).toInt32 = 291 := by decide
theorem ks320 : (Int16.ofInt 320).toInt32 = 320 := by decide
theorem ks9999 : (Int16.ofInt 9999).toInt32 = 9999 := by decide
theorem nd_J9_floorDiv_7cf53 : yJ9_floorDiv_7cf53.cls ≠ "java/lang/invoke/MethodHandle" ∧ yJ9_floorDiv_7cf53.cls ≠ "java/lang/invoke/VarHandle" ∧ (parseMethodDescriptor yJ9_floorDiv_7cf53.desc).map (fun d => d.parameters.length) = some 2 := ⟨by decide +kernel, by decide +kernel, by decide +kernel⟩
theorem nd_J9_floorMod_7cf53 : yJ9_floorMod_7cf53.cls ≠ "java/lang/invoke/MethodHandle" ∧ yJ9_floorMod_7cf53.cls ≠ "java/lang/invoke/VarHandle" ∧ (parseMethodDescriptor yJ9_floorMod_7cf53.desc).map (fun d => d.parameters.length) = some 2 := ⟨by decide +kernel, by decide +kernel, by decide +kernel⟩
theorem nd_L_bell : yL_bell.cls ≠ "java/lang/invoke/MethodHandle" ∧ yL_bell.cls ≠ "java/lang/invoke/VarHandle" ∧ (parseMethodDescriptor yL_bell.desc).map (fun d => d.parameters.length) = some 3 := ⟨by decide +kernel, by decide +kernel, by decide +kernel⟩
theorem nd_L_bid : yL_bid.cls ≠ "java/lang/invoke/MethodHandle" ∧ yL_bid.cls ≠ "java/lang/invoke/VarHandle" ∧ (parseMethodDescriptor yL_bid.desc).map (fun d => d.parameters.length) = some 7 := ⟨by decide +kernel, by decide +kernel, by decide +kernel⟩
theorem nd_L_cash : yL_cash.cls ≠ "java/lang/invoke/MethodHandle" ∧ yL_cash.cls ≠ "java/lang/invoke/VarHandle" ∧ (parseMethodDescriptor yL_cash.desc).map (fun d => d.parameters.length) = some 3 := ⟨by decide +kernel, by decide +kernel, by decide +kernel⟩
theorem nd_L_due : yL_due.cls ≠ "java/lang/invoke/MethodHandle" ∧ yL_due.cls ≠ "java/lang/invoke/VarHandle" ∧ (parseMethodDescriptor yL_due.desc).map (fun d => d.parameters.length) = some 4 := ⟨by decide +kernel, by decide +kernel, by decide +kernel⟩
theorem nd_L_edit : yL_edit.cls ≠ "java/lang/invoke/MethodHandle" ∧ yL_edit.cls ≠ "java/lang/invoke/VarHandle" ∧ (parseMethodDescriptor yL_edit.desc).map (fun d => d.parameters.length) = some 6 := ⟨by decide +kernel, by decide +kernel, by decide +kernel⟩
theorem nd_L_edits : yL_edits.cls ≠ "java/lang/invoke/MethodHandle" ∧ yL_edits.cls ≠ "java/lang/invoke/VarHandle" ∧ (parseMethodDescriptor yL_edits.desc).map (fun d => d.parameters.length) = some 4 := ⟨by decide +kernel, by decide +kernel, by decide +kernel⟩
theorem nd_L_empty : yL_empty.cls ≠ "java/lang/invoke/MethodHandle" ∧ yL_empty.cls ≠ "java/lang/invoke/VarHandle" ∧ (parseMethodDescriptor yL_empty.desc).map (fun d => d.parameters.length) = some 5 := ⟨by decide +kernel, by decide +kernel, by decide +kernel⟩
theorem nd_L_enter : yL_enter.cls ≠ "java/lang/invoke/MethodHandle" ∧ yL_enter.cls ≠ "java/lang/invoke/VarHandle" ∧ (parseMethodDescriptor yL_enter.desc).map (fun d => d.parameters.length) = some 5 := ⟨by decide +kernel, by decide +kernel, by decide +kernel⟩
theorem nd_L_exposure : yL_exposure.cls ≠ "java/lang/invoke/MethodHandle" ∧ yL_exposure.cls ≠ "java/lang/invoke/VarHandle" ∧ (parseMethodDescriptor yL_exposure.desc).map (fun d => d.parameters.length) = some 3 := ⟨by decide +kernel, by decide +kernel, by decide +kernel⟩
theorem nd_L_fault : yL_fault.cls ≠ "java/lang/invoke/MethodHandle" ∧ yL_fault.cls ≠ "java/lang/invoke/VarHandle" ∧ (parseMethodDescriptor yL_fault.desc).map (fun d => d.parameters.length) = some 5 := ⟨by decide +kernel, by decide +kernel, by decide +kernel⟩
theorem nd_L_give : yL_give.cls ≠ "java/lang/invoke/MethodHandle" ∧ yL_give.cls ≠ "java/lang/invoke/VarHandle" ∧ (parseMethodDescriptor yL_give.desc).map (fun d => d.parameters.length) = some 6 := ⟨by decide +kernel, by decide +kernel, by decide +kernel⟩
theorem nd_L_got : yL_got.cls ≠ "java/lang/invoke/MethodHandle" ∧ yL_got.cls ≠ "java/lang/invoke/VarHandle" ∧ (parseMethodDescriptor yL_got.desc).map (fun d => d.parameters.length) = some 3 := ⟨by decide +kernel, by decide +kernel, by decide +kernel⟩
theorem nd_L_isFrozen : yL_isFrozen.cls ≠ "java/lang/invoke/MethodHandle" ∧ yL_isFrozen.cls ≠ "java/lang/invoke/VarHandle" ∧ (parseMethodDescriptor yL_isFrozen.desc).map (fun d => d.parameters.length) = some 3 := ⟨by decide +kernel, by decide +kernel, by decide +kernel⟩
theorem nd_L_let : yL_let.cls ≠ "java/lang/invoke/MethodHandle" ∧ yL_let.cls ≠ "java/lang/invoke/VarHandle" ∧ (parseMethodDescriptor yL_let.desc).map (fun d => d.parameters.length) = some 8 := ⟨by decide +kernel, by decide +kernel, by decide +kernel⟩
theorem nd_L_limit : yL_limit.cls ≠ "java/lang/invoke/MethodHandle" ∧ yL_limit.cls ≠ "java/lang/invoke/VarHandle" ∧ (parseMethodDescriptor yL_limit.desc).map (fun d => d.parameters.length) = some 4 := ⟨by decide +kernel, by decide +kernel, by decide +kernel⟩
theorem nd_L_notice : yL_notice.cls ≠ "java/lang/invoke/MethodHandle" ∧ yL_notice.cls ≠ "java/lang/invoke/VarHandle" ∧ (parseMethodDescriptor yL_notice.desc).map (fun d => d.parameters.length) = some 4 := ⟨by decide +kernel, by decide +kernel, by decide +kernel⟩
theorem nd_L_ownerOf : yL_ownerOf.cls ≠ "java/lang/invoke/MethodHandle" ∧ yL_ownerOf.cls ≠ "java/lang/invoke/VarHandle" ∧ (parseMethodDescriptor yL_ownerOf.desc).map (fun d => d.parameters.length) = some 4 := ⟨by decide +kernel, by decide +kernel, by decide +kernel⟩
theorem nd_L_priceAnew : yL_priceAnew.cls ≠ "java/lang/invoke/MethodHandle" ∧ yL_priceAnew.cls ≠ "java/lang/invoke/VarHandle" ∧ (parseMethodDescriptor yL_priceAnew.desc).map (fun d => d.parameters.length) = some 3 := ⟨by decide +kernel, by decide +kernel, by decide +kernel⟩
theorem nd_L_reads : yL_reads.cls ≠ "java/lang/invoke/MethodHandle" ∧ yL_reads.cls ≠ "java/lang/invoke/VarHandle" ∧ (parseMethodDescriptor yL_reads.desc).map (fun d => d.parameters.length) = some 5 := ⟨by decide +kernel, by decide +kernel, by decide +kernel⟩
theorem nd_L_round : yL_round.cls ≠ "java/lang/invoke/MethodHandle" ∧ yL_round.cls ≠ "java/lang/invoke/VarHandle" ∧ (parseMethodDescriptor yL_round.desc).map (fun d => d.parameters.length) = some 4 := ⟨by decide +kernel, by decide +kernel, by decide +kernel⟩
theorem nd_L_settle : yL_settle.cls ≠ "java/lang/invoke/MethodHandle" ∧ yL_settle.cls ≠ "java/lang/invoke/VarHandle" ∧ (parseMethodDescriptor yL_settle.desc).map (fun d => d.parameters.length) = some 3 := ⟨by decide +kernel, by decide +kernel, by decide +kernel⟩
theorem nd_L_share : yL_share.cls ≠ "java/lang/invoke/MethodHandle" ∧ yL_share.cls ≠ "java/lang/invoke/VarHandle" ∧ (parseMethodDescriptor yL_share.desc).map (fun d => d.parameters.length) = some 4 := ⟨by decide +kernel, by decide +kernel, by decide +kernel⟩
theorem nd_L_strikeBid : yL_strikeBid.cls ≠ "java/lang/invoke/MethodHandle" ∧ yL_strikeBid.cls ≠ "java/lang/invoke/VarHandle" ∧ (parseMethodDescriptor yL_strikeBid.desc).map (fun d => d.parameters.length) = some 3 := ⟨by decide +kernel, by decide +kernel, by decide +kernel⟩
theorem nd_L_strikeEdit : yL_strikeEdit.cls ≠ "java/lang/invoke/MethodHandle" ∧ yL_strikeEdit.cls ≠ "java/lang/invoke/VarHandle" ∧ (parseMethodDescriptor yL_strikeEdit.desc).map (fun d => d.parameters.length) = some 3 := ⟨by decide +kernel, by decide +kernel, by decide +kernel⟩
theorem nd_L_value : yL_value.cls ≠ "java/lang/invoke/MethodHandle" ∧ yL_value.cls ≠ "java/lang/invoke/VarHandle" ∧ (parseMethodDescriptor yL_value.desc).map (fun d => d.parameters.length) = some 5 := ⟨by decide +kernel, by decide +kernel, by decide +kernel⟩
theorem nd_L_withdraw : yL_withdraw.cls ≠ "java/lang/invoke/MethodHandle" ∧ yL_withdraw.cls ≠ "java/lang/invoke/VarHandle" ∧ (parseMethodDescriptor yL_withdraw.desc).map (fun d => d.parameters.length) = some 4 := ⟨by decide +kernel, by decide +kernel, by decide +kernel⟩
theorem nd_L_word : yL_word.cls ≠ "java/lang/invoke/MethodHandle" ∧ yL_word.cls ≠ "java/lang/invoke/VarHandle" ∧ (parseMethodDescriptor yL_word.desc).map (fun d => d.parameters.length) = some 5 := ⟨by decide +kernel, by decide +kernel, by decide +kernel⟩
theorem nd_X0_feePaid : yX0_feePaid.cls ≠ "java/lang/invoke/MethodHandle" ∧ yX0_feePaid.cls ≠ "java/lang/invoke/VarHandle" ∧ (parseMethodDescriptor yX0_feePaid.desc).map (fun d => d.parameters.length) = some 0 := ⟨by decide +kernel, by decide +kernel, by decide +kernel⟩
theorem nd_X0_goesAhead : yX0_goesAhead.cls ≠ "java/lang/invoke/MethodHandle" ∧ yX0_goesAhead.cls ≠ "java/lang/invoke/VarHandle" ∧ (parseMethodDescriptor yX0_goesAhead.desc).map (fun d => d.parameters.length) = some 1 := ⟨by decide +kernel, by decide +kernel, by decide +kernel⟩
theorem nd_X0_init : yX0_init.cls ≠ "java/lang/invoke/MethodHandle" ∧ yX0_init.cls ≠ "java/lang/invoke/VarHandle" ∧ (parseMethodDescriptor yX0_init.desc).map (fun d => d.parameters.length) = some 7 := ⟨by decide +kernel, by decide +kernel, by decide +kernel⟩
theorem nd_X0_owed : yX0_owed.cls ≠ "java/lang/invoke/MethodHandle" ∧ yX0_owed.cls ≠ "java/lang/invoke/VarHandle" ∧ (parseMethodDescriptor yX0_owed.desc).map (fun d => d.parameters.length) = some 0 := ⟨by decide +kernel, by decide +kernel, by decide +kernel⟩
theorem nd_X0_standsAt : yX0_standsAt.cls ≠ "java/lang/invoke/MethodHandle" ∧ yX0_standsAt.cls ≠ "java/lang/invoke/VarHandle" ∧ (parseMethodDescriptor yX0_standsAt.desc).map (fun d => d.parameters.length) = some 1 := ⟨by decide +kernel, by decide +kernel, by decide +kernel⟩
theorem nd_X0_takesPart : yX0_takesPart.cls ≠ "java/lang/invoke/MethodHandle" ∧ yX0_takesPart.cls ≠ "java/lang/invoke/VarHandle" ∧ (parseMethodDescriptor yX0_takesPart.desc).map (fun d => d.parameters.length) = some 0 := ⟨by decide +kernel, by decide +kernel, by decide +kernel⟩
theorem nd_X0_worth : yX0_worth.cls ≠ "java/lang/invoke/MethodHandle" ∧ yX0_worth.cls ≠ "java/lang/invoke/VarHandle" ∧ (parseMethodDescriptor yX0_worth.desc).map (fun d => d.parameters.length) = some 0 := ⟨by decide +kernel, by decide +kernel, by decide +kernel⟩
theorem nd_X10_bell : yX10_bell.cls ≠ "java/lang/invoke/MethodHandle" ∧ yX10_bell.cls ≠ "java/lang/invoke/VarHandle" ∧ (parseMethodDescriptor yX10_bell.desc).map (fun d => d.parameters.length) = some 1 := ⟨by decide +kernel, by decide +kernel, by decide +kernel⟩
theorem nd_X10_bid : yX10_bid.cls ≠ "java/lang/invoke/MethodHandle" ∧ yX10_bid.cls ≠ "java/lang/invoke/VarHandle" ∧ (parseMethodDescriptor yX10_bid.desc).map (fun d => d.parameters.length) = some 5 := ⟨by decide +kernel, by decide +kernel, by decide +kernel⟩
theorem nd_X10_bidNumbered : yX10_bidNumbered.cls ≠ "java/lang/invoke/MethodHandle" ∧ yX10_bidNumbered.cls ≠ "java/lang/invoke/VarHandle" ∧ (parseMethodDescriptor yX10_bidNumbered.desc).map (fun d => d.parameters.length) = some 1 := ⟨by decide +kernel, by decide +kernel, by decide +kernel⟩
theorem nd_X10_cash : yX10_cash.cls ≠ "java/lang/invoke/MethodHandle" ∧ yX10_cash.cls ≠ "java/lang/invoke/VarHandle" ∧ (parseMethodDescriptor yX10_cash.desc).map (fun d => d.parameters.length) = some 1 := ⟨by decide +kernel, by decide +kernel, by decide +kernel⟩
theorem nd_X10_cellAt : yX10_cellAt.cls ≠ "java/lang/invoke/MethodHandle" ∧ yX10_cellAt.cls ≠ "java/lang/invoke/VarHandle" ∧ (parseMethodDescriptor yX10_cellAt.desc).map (fun d => d.parameters.length) = some 2 := ⟨by decide +kernel, by decide +kernel, by decide +kernel⟩
theorem nd_X10_due : yX10_due.cls ≠ "java/lang/invoke/MethodHandle" ∧ yX10_due.cls ≠ "java/lang/invoke/VarHandle" ∧ (parseMethodDescriptor yX10_due.desc).map (fun d => d.parameters.length) = some 2 := ⟨by decide +kernel, by decide +kernel, by decide +kernel⟩
theorem nd_X10_edit : yX10_edit.cls ≠ "java/lang/invoke/MethodHandle" ∧ yX10_edit.cls ≠ "java/lang/invoke/VarHandle" ∧ (parseMethodDescriptor yX10_edit.desc).map (fun d => d.parameters.length) = some 4 := ⟨by decide +kernel, by decide +kernel, by decide +kernel⟩
theorem nd_X10_edits : yX10_edits.cls ≠ "java/lang/invoke/MethodHandle" ∧ yX10_edits.cls ≠ "java/lang/invoke/VarHandle" ∧ (parseMethodDescriptor yX10_edits.desc).map (fun d => d.parameters.length) = some 2 := ⟨by decide +kernel, by decide +kernel, by decide +kernel⟩
theorem nd_X10_empty : yX10_empty.cls ≠ "java/lang/invoke/MethodHandle" ∧ yX10_empty.cls ≠ "java/lang/invoke/VarHandle" ∧ (parseMethodDescriptor yX10_empty.desc).map (fun d => d.parameters.length) = some 3 := ⟨by decide +kernel, by decide +kernel, by decide +kernel⟩
theorem nd_X10_enter : yX10_enter.cls ≠ "java/lang/invoke/MethodHandle" ∧ yX10_enter.cls ≠ "java/lang/invoke/VarHandle" ∧ (parseMethodDescriptor yX10_enter.desc).map (fun d => d.parameters.length) = some 3 := ⟨by decide +kernel, by decide +kernel, by decide +kernel⟩
theorem nd_X10_events : yX10_events.cls ≠ "java/lang/invoke/MethodHandle" ∧ yX10_events.cls ≠ "java/lang/invoke/VarHandle" ∧ (parseMethodDescriptor yX10_events.desc).map (fun d => d.parameters.length) = some 0 := ⟨by decide +kernel, by decide +kernel, by decide +kernel⟩
theorem nd_X10_exposure : yX10_exposure.cls ≠ "java/lang/invoke/MethodHandle" ∧ yX10_exposure.cls ≠ "java/lang/invoke/VarHandle" ∧ (parseMethodDescriptor yX10_exposure.desc).map (fun d => d.parameters.length) = some 1 := ⟨by decide +kernel, by decide +kernel, by decide +kernel⟩
theorem nd_X10_fault : yX10_fault.cls ≠ "java/lang/invoke/MethodHandle" ∧ yX10_fault.cls ≠ "java/lang/invoke/VarHandle" ∧ (parseMethodDescriptor yX10_fault.desc).map (fun d => d.parameters.length) = some 3 := ⟨by decide +kernel, by decide +kernel, by decide +kernel⟩
theorem nd_X10_give : yX10_give.cls ≠ "java/lang/invoke/MethodHandle" ∧ yX10_give.cls ≠ "java/lang/invoke/VarHandle" ∧ (parseMethodDescriptor yX10_give.desc).map (fun d => d.parameters.length) = some 4 := ⟨by decide +kernel, by decide +kernel, by decide +kernel⟩
theorem nd_X10_got : yX10_got.cls ≠ "java/lang/invoke/MethodHandle" ∧ yX10_got.cls ≠ "java/lang/invoke/VarHandle" ∧ (parseMethodDescriptor yX10_got.desc).map (fun d => d.parameters.length) = some 1 := ⟨by decide +kernel, by decide +kernel, by decide +kernel⟩
theorem nd_X10_init : yX10_init.cls ≠ "java/lang/invoke/MethodHandle" ∧ yX10_init.cls ≠ "java/lang/invoke/VarHandle" ∧ (parseMethodDescriptor yX10_init.desc).map (fun d => d.parameters.length) = some 0 := ⟨by decide +kernel, by decide +kernel, by decide +kernel⟩
theorem nd_X10_isFrozen : yX10_isFrozen.cls ≠ "java/lang/invoke/MethodHandle" ∧ yX10_isFrozen.cls ≠ "java/lang/invoke/VarHandle" ∧ (parseMethodDescriptor yX10_isFrozen.desc).map (fun d => d.parameters.length) = some 1 := ⟨by decide +kernel, by decide +kernel, by decide +kernel⟩
theorem nd_X10_let : yX10_let.cls ≠ "java/lang/invoke/MethodHandle" ∧ yX10_let.cls ≠ "java/lang/invoke/VarHandle" ∧ (parseMethodDescriptor yX10_let.desc).map (fun d => d.parameters.length) = some 6 := ⟨by decide +kernel, by decide +kernel, by decide +kernel⟩
theorem nd_X10_limit : yX10_limit.cls ≠ "java/lang/invoke/MethodHandle" ∧ yX10_limit.cls ≠ "java/lang/invoke/VarHandle" ∧ (parseMethodDescriptor yX10_limit.desc).map (fun d => d.parameters.length) = some 2 := ⟨by decide +kernel, by decide +kernel, by decide +kernel⟩
theorem nd_X10_needColumn : yX10_needColumn.cls ≠ "java/lang/invoke/MethodHandle" ∧ yX10_needColumn.cls ≠ "java/lang/invoke/VarHandle" ∧ (parseMethodDescriptor yX10_needColumn.desc).map (fun d => d.parameters.length) = some 1 := ⟨by decide +kernel, by decide +kernel, by decide +kernel⟩
theorem nd_X10_needEditable : yX10_needEditable.cls ≠ "java/lang/invoke/MethodHandle" ∧ yX10_needEditable.cls ≠ "java/lang/invoke/VarHandle" ∧ (parseMethodDescriptor yX10_needEditable.desc).map (fun d => d.parameters.length) = some 2 := ⟨by decide +kernel, by decide +kernel, by decide +kernel⟩
theorem nd_X10_needOwnCell : yX10_needOwnCell.cls ≠ "java/lang/invoke/MethodHandle" ∧ yX10_needOwnCell.cls ≠ "java/lang/invoke/VarHandle" ∧ (parseMethodDescriptor yX10_needOwnCell.desc).map (fun d => d.parameters.length) = some 2 := ⟨by decide +kernel, by decide +kernel, by decide +kernel⟩
theorem nd_X10_needOwner : yX10_needOwner.cls ≠ "java/lang/invoke/MethodHandle" ∧ yX10_needOwner.cls ≠ "java/lang/invoke/VarHandle" ∧ (parseMethodDescriptor yX10_needOwner.desc).map (fun d => d.parameters.length) = some 1 := ⟨by decide +kernel, by decide +kernel, by decide +kernel⟩
theorem nd_X10_needReader : yX10_needReader.cls ≠ "java/lang/invoke/MethodHandle" ∧ yX10_needReader.cls ≠ "java/lang/invoke/VarHandle" ∧ (parseMethodDescriptor yX10_needReader.desc).map (fun d => d.parameters.length) = some 2 := ⟨by decide +kernel, by decide +kernel, by decide +kernel⟩
theorem nd_X10_notice : yX10_notice.cls ≠ "java/lang/invoke/MethodHandle" ∧ yX10_notice.cls ≠ "java/lang/invoke/VarHandle" ∧ (parseMethodDescriptor yX10_notice.desc).map (fun d => d.parameters.length) = some 2 := ⟨by decide +kernel, by decide +kernel, by decide +kernel⟩
theorem nd_X10_ownerOf : yX10_ownerOf.cls ≠ "java/lang/invoke/MethodHandle" ∧ yX10_ownerOf.cls ≠ "java/lang/invoke/VarHandle" ∧ (parseMethodDescriptor yX10_ownerOf.desc).map (fun d => d.parameters.length) = some 2 := ⟨by decide +kernel, by decide +kernel, by decide +kernel⟩
theorem nd_X10_priceAnew : yX10_priceAnew.cls ≠ "java/lang/invoke/MethodHandle" ∧ yX10_priceAnew.cls ≠ "java/lang/invoke/VarHandle" ∧ (parseMethodDescriptor yX10_priceAnew.desc).map (fun d => d.parameters.length) = some 1 := ⟨by decide +kernel, by decide +kernel, by decide +kernel⟩
theorem nd_X10_reads : yX10_reads.cls ≠ "java/lang/invoke/MethodHandle" ∧ yX10_reads.cls ≠ "java/lang/invoke/VarHandle" ∧ (parseMethodDescriptor yX10_reads.desc).map (fun d => d.parameters.length) = some 3 := ⟨by decide +kernel, by decide +kernel, by decide +kernel⟩
theorem nd_X10_round : yX10_round.cls ≠ "java/lang/invoke/MethodHandle" ∧ yX10_round.cls ≠ "java/lang/invoke/VarHandle" ∧ (parseMethodDescriptor yX10_round.desc).map (fun d => d.parameters.length) = some 2 := ⟨by decide +kernel, by decide +kernel, by decide +kernel⟩
theorem nd_X10_roundNumbered : yX10_roundNumbered.cls ≠ "java/lang/invoke/MethodHandle" ∧ yX10_roundNumbered.cls ≠ "java/lang/invoke/VarHandle" ∧ (parseMethodDescriptor yX10_roundNumbered.desc).map (fun d => d.parameters.length) = some 1 := ⟨by decide +kernel, by decide +kernel, by decide +kernel⟩
theorem nd_X10_settle : yX10_settle.cls ≠ "java/lang/invoke/MethodHandle" ∧ yX10_settle.cls ≠ "java/lang/invoke/VarHandle" ∧ (parseMethodDescriptor yX10_settle.desc).map (fun d => d.parameters.length) = some 1 := ⟨by decide +kernel, by decide +kernel, by decide +kernel⟩
theorem nd_X10_share : yX10_share.cls ≠ "java/lang/invoke/MethodHandle" ∧ yX10_share.cls ≠ "java/lang/invoke/VarHandle" ∧ (parseMethodDescriptor yX10_share.desc).map (fun d => d.parameters.length) = some 2 := ⟨by decide +kernel, by decide +kernel, by decide +kernel⟩
theorem nd_X10_strikeBid : yX10_strikeBid.cls ≠ "java/lang/invoke/MethodHandle" ∧ yX10_strikeBid.cls ≠ "java/lang/invoke/VarHandle" ∧ (parseMethodDescriptor yX10_strikeBid.desc).map (fun d => d.parameters.length) = some 1 := ⟨by decide +kernel, by decide +kernel, by decide +kernel⟩
theorem nd_X10_strikeEdit : yX10_strikeEdit.cls ≠ "java/lang/invoke/MethodHandle" ∧ yX10_strikeEdit.cls ≠ "java/lang/invoke/VarHandle" ∧ (parseMethodDescriptor yX10_strikeEdit.desc).map (fun d => d.parameters.length) = some 1 := ⟨by decide +kernel, by decide +kernel, by decide +kernel⟩
theorem nd_X10_taken : yX10_taken.cls ≠ "java/lang/invoke/MethodHandle" ∧ yX10_taken.cls ≠ "java/lang/invoke/VarHandle" ∧ (parseMethodDescriptor yX10_taken.desc).map (fun d => d.parameters.length) = some 1 := ⟨by decide +kernel, by decide +kernel, by decide +kernel⟩
theorem nd_X10_value : yX10_value.cls ≠ "java/lang/invoke/MethodHandle" ∧ yX10_value.cls ≠ "java/lang/invoke/VarHandle" ∧ (parseMethodDescriptor yX10_value.desc).map (fun d => d.parameters.length) = some 3 := ⟨by decide +kernel, by decide +kernel, by decide +kernel⟩
theorem nd_X10_wipe : yX10_wipe.cls ≠ "java/lang/invoke/MethodHandle" ∧ yX10_wipe.cls ≠ "java/lang/invoke/VarHandle" ∧ (parseMethodDescriptor yX10_wipe.desc).map (fun d => d.parameters.length) = some 0 := ⟨by decide +kernel, by decide +kernel, by decide +kernel⟩
theorem nd_X10_withdraw : yX10_withdraw.cls ≠ "java/lang/invoke/MethodHandle" ∧ yX10_withdraw.cls ≠ "java/lang/invoke/VarHandle" ∧ (parseMethodDescriptor yX10_withdraw.desc).map (fun d => d.parameters.length) = some 2 := ⟨by decide +kernel, by decide +kernel, by decide +kernel⟩
theorem nd_X10_word : yX10_word.cls ≠ "java/lang/invoke/MethodHandle" ∧ yX10_word.cls ≠ "java/lang/invoke/VarHandle" ∧ (parseMethodDescriptor yX10_word.desc).map (fun d => d.parameters.length) = some 3 := ⟨by decide +kernel, by decide +kernel, by decide +kernel⟩
theorem nd_X11_act : yX11_act.cls ≠ "java/lang/invoke/MethodHandle" ∧ yX11_act.cls ≠ "java/lang/invoke/VarHandle" ∧ (parseMethodDescriptor yX11_act.desc).map (fun d => d.parameters.length) = some 1 := ⟨by decide +kernel, by decide +kernel, by decide +kernel⟩
theorem nd_X11_asked : yX11_asked.cls ≠ "java/lang/invoke/MethodHandle" ∧ yX11_asked.cls ≠ "java/lang/invoke/VarHandle" ∧ (parseMethodDescriptor yX11_asked.desc).map (fun d => d.parameters.length) = some 4 := ⟨by decide +kernel, by decide +kernel, by decide +kernel⟩
theorem nd_X11_asks : yX11_asks.cls ≠ "java/lang/invoke/MethodHandle" ∧ yX11_asks.cls ≠ "java/lang/invoke/VarHandle" ∧ (parseMethodDescriptor yX11_asks.desc).map (fun d => d.parameters.length) = some 1 := ⟨by decide +kernel, by decide +kernel, by decide +kernel⟩
theorem nd_X11_bell : yX11_bell.cls ≠ "java/lang/invoke/MethodHandle" ∧ yX11_bell.cls ≠ "java/lang/invoke/VarHandle" ∧ (parseMethodDescriptor yX11_bell.desc).map (fun d => d.parameters.length) = some 1 := ⟨by decide +kernel, by decide +kernel, by decide +kernel⟩
theorem nd_X11_bid : yX11_bid.cls ≠ "java/lang/invoke/MethodHandle" ∧ yX11_bid.cls ≠ "java/lang/invoke/VarHandle" ∧ (parseMethodDescriptor yX11_bid.desc).map (fun d => d.parameters.length) = some 5 := ⟨by decide +kernel, by decide +kernel, by decide +kernel⟩
theorem nd_X11_bidsAt : yX11_bidsAt.cls ≠ "java/lang/invoke/MethodHandle" ∧ yX11_bidsAt.cls ≠ "java/lang/invoke/VarHandle" ∧ (parseMethodDescriptor yX11_bidsAt.desc).map (fun d => d.parameters.length) = some 3 := ⟨by decide +kernel, by decide +kernel, by decide +kernel⟩
theorem nd_X11_cash : yX11_cash.cls ≠ "java/lang/invoke/MethodHandle" ∧ yX11_cash.cls ≠ "java/lang/invoke/VarHandle" ∧ (parseMethodDescriptor yX11_cash.desc).map (fun d => d.parameters.length) = some 1 := ⟨by decide +kernel, by decide +kernel, by decide +kernel⟩
theorem nd_X11_clears : yX11_clears.cls ≠ "java/lang/invoke/MethodHandle" ∧ yX11_clears.cls ≠ "java/lang/invoke/VarHandle" ∧ (parseMethodDescriptor yX11_clears.desc).map (fun d => d.parameters.length) = some 1 := ⟨by decide +kernel, by decide +kernel, by decide +kernel⟩
theorem nd_X11_clearsAll : yX11_clearsAll.cls ≠ "java/lang/invoke/MethodHandle" ∧ yX11_clearsAll.cls ≠ "java/lang/invoke/VarHandle" ∧ (parseMethodDescriptor yX11_clearsAll.desc).map (fun d => d.parameters.length) = some 0 := ⟨by decide +kernel, by decide +kernel, by decide +kernel⟩
theorem nd_X11_costOf : yX11_costOf.cls ≠ "java/lang/invoke/MethodHandle" ∧ yX11_costOf.cls ≠ "java/lang/invoke/VarHandle" ∧ (parseMethodDescriptor yX11_costOf.desc).map (fun d => d.parameters.length) = some 1 := ⟨by decide +kernel, by decide +kernel, by decide +kernel⟩
theorem nd_X11_down : yX11_down.cls ≠ "java/lang/invoke/MethodHandle" ∧ yX11_down.cls ≠ "java/lang/invoke/VarHandle" ∧ (parseMethodDescriptor yX11_down.desc).map (fun d => d.parameters.length) = some 1 := ⟨by decide +kernel, by decide +kernel, by decide +kernel⟩
theorem nd_X11_due : yX11_due.cls ≠ "java/lang/invoke/MethodHandle" ∧ yX11_due.cls ≠ "java/lang/invoke/VarHandle" ∧ (parseMethodDescriptor yX11_due.desc).map (fun d => d.parameters.length) = some 2 := ⟨by decide +kernel, by decide +kernel, by decide +kernel⟩
theorem nd_X11_dueOf : yX11_dueOf.cls ≠ "java/lang/invoke/MethodHandle" ∧ yX11_dueOf.cls ≠ "java/lang/invoke/VarHandle" ∧ (parseMethodDescriptor yX11_dueOf.desc).map (fun d => d.parameters.length) = some 2 := ⟨by decide +kernel, by decide +kernel, by decide +kernel⟩
theorem nd_X11_edit : yX11_edit.cls ≠ "java/lang/invoke/MethodHandle" ∧ yX11_edit.cls ≠ "java/lang/invoke/VarHandle" ∧ (parseMethodDescriptor yX11_edit.desc).map (fun d => d.parameters.length) = some 4 := ⟨by decide +kernel, by decide +kernel, by decide +kernel⟩
theorem nd_X11_editAt : yX11_editAt.cls ≠ "java/lang/invoke/MethodHandle" ∧ yX11_editAt.cls ≠ "java/lang/invoke/VarHandle" ∧ (parseMethodDescriptor yX11_editAt.desc).map (fun d => d.parameters.length) = some 2 := ⟨by decide +kernel, by decide +kernel, by decide +kernel⟩
theorem nd_X11_edits : yX11_edits.cls ≠ "java/lang/invoke/MethodHandle" ∧ yX11_edits.cls ≠ "java/lang/invoke/VarHandle" ∧ (parseMethodDescriptor yX11_edits.desc).map (fun d => d.parameters.length) = some 2 := ⟨by decide +kernel, by decide +kernel, by decide +kernel⟩
theorem nd_X11_editsOf : yX11_editsOf.cls ≠ "java/lang/invoke/MethodHandle" ∧ yX11_editsOf.cls ≠ "java/lang/invoke/VarHandle" ∧ (parseMethodDescriptor yX11_editsOf.desc).map (fun d => d.parameters.length) = some 1 := ⟨by decide +kernel, by decide +kernel, by decide +kernel⟩
theorem nd_X11_empty : yX11_empty.cls ≠ "java/lang/invoke/MethodHandle" ∧ yX11_empty.cls ≠ "java/lang/invoke/VarHandle" ∧ (parseMethodDescriptor yX11_empty.desc).map (fun d => d.parameters.length) = some 3 := ⟨by decide +kernel, by decide +kernel, by decide +kernel⟩
theorem nd_X11_enter : yX11_enter.cls ≠ "java/lang/invoke/MethodHandle" ∧ yX11_enter.cls ≠ "java/lang/invoke/VarHandle" ∧ (parseMethodDescriptor yX11_enter.desc).map (fun d => d.parameters.length) = some 3 := ⟨by decide +kernel, by decide +kernel, by decide +kernel⟩
theorem nd_X11_events : yX11_events.cls ≠ "java/lang/invoke/MethodHandle" ∧ yX11_events.cls ≠ "java/lang/invoke/VarHandle" ∧ (parseMethodDescriptor yX11_events.desc).map (fun d => d.parameters.length) = some 0 := ⟨by decide +kernel, by decide +kernel, by decide +kernel⟩
theorem nd_X11_exposure : yX11_exposure.cls ≠ "java/lang/invoke/MethodHandle" ∧ yX11_exposure.cls ≠ "java/lang/invoke/VarHandle" ∧ (parseMethodDescriptor yX11_exposure.desc).map (fun d => d.parameters.length) = some 1 := ⟨by decide +kernel, by decide +kernel, by decide +kernel⟩
theorem nd_X11_exposureOf : yX11_exposureOf.cls ≠ "java/lang/invoke/MethodHandle" ∧ yX11_exposureOf.cls ≠ "java/lang/invoke/VarHandle" ∧ (parseMethodDescriptor yX11_exposureOf.desc).map (fun d => d.parameters.length) = some 1 := ⟨by decide +kernel, by decide +kernel, by decide +kernel⟩
theorem nd_X11_fails : yX11_fails.cls ≠ "java/lang/invoke/MethodHandle" ∧ yX11_fails.cls ≠ "java/lang/invoke/VarHandle" ∧ (parseMethodDescriptor yX11_fails.desc).map (fun d => d.parameters.length) = some 1 := ⟨by decide +kernel, by decide +kernel, by decide +kernel⟩
theorem nd_X11_fault : yX11_fault.cls ≠ "java/lang/invoke/MethodHandle" ∧ yX11_fault.cls ≠ "java/lang/invoke/VarHandle" ∧ (parseMethodDescriptor yX11_fault.desc).map (fun d => d.parameters.length) = some 3 := ⟨by decide +kernel, by decide +kernel, by decide +kernel⟩
theorem nd_X11_feeOf : yX11_feeOf.cls ≠ "java/lang/invoke/MethodHandle" ∧ yX11_feeOf.cls ≠ "java/lang/invoke/VarHandle" ∧ (parseMethodDescriptor yX11_feeOf.desc).map (fun d => d.parameters.length) = some 1 := ⟨by decide +kernel, by decide +kernel, by decide +kernel⟩
theorem nd_X11_feesOf : yX11_feesOf.cls ≠ "java/lang/invoke/MethodHandle" ∧ yX11_feesOf.cls ≠ "java/lang/invoke/VarHandle" ∧ (parseMethodDescriptor yX11_feesOf.desc).map (fun d => d.parameters.length) = some 1 := ⟨by decide +kernel, by decide +kernel, by decide +kernel⟩
theorem nd_X11_give : yX11_give.cls ≠ "java/lang/invoke/MethodHandle" ∧ yX11_give.cls ≠ "java/lang/invoke/VarHandle" ∧ (parseMethodDescriptor yX11_give.desc).map (fun d => d.parameters.length) = some 4 := ⟨by decide +kernel, by decide +kernel, by decide +kernel⟩
theorem nd_X11_goes : yX11_goes.cls ≠ "java/lang/invoke/MethodHandle" ∧ yX11_goes.cls ≠ "java/lang/invoke/VarHandle" ∧ (parseMethodDescriptor yX11_goes.desc).map (fun d => d.parameters.length) = some 3 := ⟨by decide +kernel, by decide +kernel, by decide +kernel⟩
theorem nd_X11_got : yX11_got.cls ≠ "java/lang/invoke/MethodHandle" ∧ yX11_got.cls ≠ "java/lang/invoke/VarHandle" ∧ (parseMethodDescriptor yX11_got.desc).map (fun d => d.parameters.length) = some 1 := ⟨by decide +kernel, by decide +kernel, by decide +kernel⟩
theorem nd_X11_in : yX11_in.cls ≠ "java/lang/invoke/MethodHandle" ∧ yX11_in.cls ≠ "java/lang/invoke/VarHandle" ∧ (parseMethodDescriptor yX11_in.desc).map (fun d => d.parameters.length) = some 3 := ⟨by decide +kernel, by decide +kernel, by decide +kernel⟩
theorem nd_X11_init : yX11_init.cls ≠ "java/lang/invoke/MethodHandle" ∧ yX11_init.cls ≠ "java/lang/invoke/VarHandle" ∧ (parseMethodDescriptor yX11_init.desc).map (fun d => d.parameters.length) = some 0 := ⟨by decide +kernel, by decide +kernel, by decide +kernel⟩
theorem nd_X11_isAhead : yX11_isAhead.cls ≠ "java/lang/invoke/MethodHandle" ∧ yX11_isAhead.cls ≠ "java/lang/invoke/VarHandle" ∧ (parseMethodDescriptor yX11_isAhead.desc).map (fun d => d.parameters.length) = some 4 := ⟨by decide +kernel, by decide +kernel, by decide +kernel⟩
theorem nd_X11_isBid : yX11_isBid.cls ≠ "java/lang/invoke/MethodHandle" ∧ yX11_isBid.cls ≠ "java/lang/invoke/VarHandle" ∧ (parseMethodDescriptor yX11_isBid.desc).map (fun d => d.parameters.length) = some 1 := ⟨by decide +kernel, by decide +kernel, by decide +kernel⟩
theorem nd_X11_isCell : yX11_isCell.cls ≠ "java/lang/invoke/MethodHandle" ∧ yX11_isCell.cls ≠ "java/lang/invoke/VarHandle" ∧ (parseMethodDescriptor yX11_isCell.desc).map (fun d => d.parameters.length) = some 2 := ⟨by decide +kernel, by decide +kernel, by decide +kernel⟩
theorem nd_X11_isEmptyAt : yX11_isEmptyAt.cls ≠ "java/lang/invoke/MethodHandle" ∧ yX11_isEmptyAt.cls ≠ "java/lang/invoke/VarHandle" ∧ (parseMethodDescriptor yX11_isEmptyAt.desc).map (fun d => d.parameters.length) = some 2 := ⟨by decide +kernel, by decide +kernel, by decide +kernel⟩
theorem nd_X11_isFinding : yX11_isFinding.cls ≠ "java/lang/invoke/MethodHandle" ∧ yX11_isFinding.cls ≠ "java/lang/invoke/VarHandle" ∧ (parseMethodDescriptor yX11_isFinding.desc).map (fun d => d.parameters.length) = some 1 := ⟨by decide +kernel, by decide +kernel, by decide +kernel⟩
theorem nd_X11_isFrozen : yX11_isFrozen.cls ≠ "java/lang/invoke/MethodHandle" ∧ yX11_isFrozen.cls ≠ "java/lang/invoke/VarHandle" ∧ (parseMethodDescriptor yX11_isFrozen.desc).map (fun d => d.parameters.length) = some 1 := ⟨by decide +kernel, by decide +kernel, by decide +kernel⟩
theorem nd_X11_isOwner : yX11_isOwner.cls ≠ "java/lang/invoke/MethodHandle" ∧ yX11_isOwner.cls ≠ "java/lang/invoke/VarHandle" ∧ (parseMethodDescriptor yX11_isOwner.desc).map (fun d => d.parameters.length) = some 1 := ⟨by decide +kernel, by decide +kernel, by decide +kernel⟩
theorem nd_X11_isThere : yX11_isThere.cls ≠ "java/lang/invoke/MethodHandle" ∧ yX11_isThere.cls ≠ "java/lang/invoke/VarHandle" ∧ (parseMethodDescriptor yX11_isThere.desc).map (fun d => d.parameters.length) = some 2 := ⟨by decide +kernel, by decide +kernel, by decide +kernel⟩
theorem nd_X11_lastAt : yX11_lastAt.cls ≠ "java/lang/invoke/MethodHandle" ∧ yX11_lastAt.cls ≠ "java/lang/invoke/VarHandle" ∧ (parseMethodDescriptor yX11_lastAt.desc).map (fun d => d.parameters.length) = some 2 := ⟨by decide +kernel, by decide +kernel, by decide +kernel⟩
theorem nd_X11_let : yX11_let.cls ≠ "java/lang/invoke/MethodHandle" ∧ yX11_let.cls ≠ "java/lang/invoke/VarHandle" ∧ (parseMethodDescriptor yX11_let.desc).map (fun d => d.parameters.length) = some 6 := ⟨by decide +kernel, by decide +kernel, by decide +kernel⟩
theorem nd_X11_limit : yX11_limit.cls ≠ "java/lang/invoke/MethodHandle" ∧ yX11_limit.cls ≠ "java/lang/invoke/VarHandle" ∧ (parseMethodDescriptor yX11_limit.desc).map (fun d => d.parameters.length) = some 2 := ⟨by decide +kernel, by decide +kernel, by decide +kernel⟩
theorem nd_X11_notice : yX11_notice.cls ≠ "java/lang/invoke/MethodHandle" ∧ yX11_notice.cls ≠ "java/lang/invoke/VarHandle" ∧ (parseMethodDescriptor yX11_notice.desc).map (fun d => d.parameters.length) = some 2 := ⟨by decide +kernel, by decide +kernel, by decide +kernel⟩
theorem nd_X11_ownerAt : yX11_ownerAt.cls ≠ "java/lang/invoke/MethodHandle" ∧ yX11_ownerAt.cls ≠ "java/lang/invoke/VarHandle" ∧ (parseMethodDescriptor yX11_ownerAt.desc).map (fun d => d.parameters.length) = some 2 := ⟨by decide +kernel, by decide +kernel, by decide +kernel⟩
theorem nd_X11_ownerOf : yX11_ownerOf.cls ≠ "java/lang/invoke/MethodHandle" ∧ yX11_ownerOf.cls ≠ "java/lang/invoke/VarHandle" ∧ (parseMethodDescriptor yX11_ownerOf.desc).map (fun d => d.parameters.length) = some 2 := ⟨by decide +kernel, by decide +kernel, by decide +kernel⟩
theorem nd_X11_pileOfDraft : yX11_pileOfDraft.cls ≠ "java/lang/invoke/MethodHandle" ∧ yX11_pileOfDraft.cls ≠ "java/lang/invoke/VarHandle" ∧ (parseMethodDescriptor yX11_pileOfDraft.desc).map (fun d => d.parameters.length) = some 0 := ⟨by decide +kernel, by decide +kernel, by decide +kernel⟩
theorem nd_X11_priceAnew : yX11_priceAnew.cls ≠ "java/lang/invoke/MethodHandle" ∧ yX11_priceAnew.cls ≠ "java/lang/invoke/VarHandle" ∧ (parseMethodDescriptor yX11_priceAnew.desc).map (fun d => d.parameters.length) = some 1 := ⟨by decide +kernel, by decide +kernel, by decide +kernel⟩
theorem nd_X11_puts : yX11_puts.cls ≠ "java/lang/invoke/MethodHandle" ∧ yX11_puts.cls ≠ "java/lang/invoke/VarHandle" ∧ (parseMethodDescriptor yX11_puts.desc).map (fun d => d.parameters.length) = some 1 := ⟨by decide +kernel, by decide +kernel, by decide +kernel⟩
theorem nd_X11_reads : yX11_reads.cls ≠ "java/lang/invoke/MethodHandle" ∧ yX11_reads.cls ≠ "java/lang/invoke/VarHandle" ∧ (parseMethodDescriptor yX11_reads.desc).map (fun d => d.parameters.length) = some 3 := ⟨by decide +kernel, by decide +kernel, by decide +kernel⟩
theorem nd_X11_readsAt : yX11_readsAt.cls ≠ "java/lang/invoke/MethodHandle" ∧ yX11_readsAt.cls ≠ "java/lang/invoke/VarHandle" ∧ (parseMethodDescriptor yX11_readsAt.desc).map (fun d => d.parameters.length) = some 3 := ⟨by decide +kernel, by decide +kernel, by decide +kernel⟩
theorem nd_X11_reckons : yX11_reckons.cls ≠ "java/lang/invoke/MethodHandle" ∧ yX11_reckons.cls ≠ "java/lang/invoke/VarHandle" ∧ (parseMethodDescriptor yX11_reckons.desc).map (fun d => d.parameters.length) = some 1 := ⟨by decide +kernel, by decide +kernel, by decide +kernel⟩
theorem nd_X11_restOf : yX11_restOf.cls ≠ "java/lang/invoke/MethodHandle" ∧ yX11_restOf.cls ≠ "java/lang/invoke/VarHandle" ∧ (parseMethodDescriptor yX11_restOf.desc).map (fun d => d.parameters.length) = some 2 := ⟨by decide +kernel, by decide +kernel, by decide +kernel⟩
theorem nd_X11_round : yX11_round.cls ≠ "java/lang/invoke/MethodHandle" ∧ yX11_round.cls ≠ "java/lang/invoke/VarHandle" ∧ (parseMethodDescriptor yX11_round.desc).map (fun d => d.parameters.length) = some 2 := ⟨by decide +kernel, by decide +kernel, by decide +kernel⟩
theorem nd_X11_settle : yX11_settle.cls ≠ "java/lang/invoke/MethodHandle" ∧ yX11_settle.cls ≠ "java/lang/invoke/VarHandle" ∧ (parseMethodDescriptor yX11_settle.desc).map (fun d => d.parameters.length) = some 1 := ⟨by decide +kernel, by decide +kernel, by decide +kernel⟩
theorem nd_X11_share : yX11_share.cls ≠ "java/lang/invoke/MethodHandle" ∧ yX11_share.cls ≠ "java/lang/invoke/VarHandle" ∧ (parseMethodDescriptor yX11_share.desc).map (fun d => d.parameters.length) = some 2 := ⟨by decide +kernel, by decide +kernel, by decide +kernel⟩
theorem nd_X11_shares : yX11_shares.cls ≠ "java/lang/invoke/MethodHandle" ∧ yX11_shares.cls ≠ "java/lang/invoke/VarHandle" ∧ (parseMethodDescriptor yX11_shares.desc).map (fun d => d.parameters.length) = some 3 := ⟨by decide +kernel, by decide +kernel, by decide +kernel⟩
theorem nd_X11_starts : yX11_starts.cls ≠ "java/lang/invoke/MethodHandle" ∧ yX11_starts.cls ≠ "java/lang/invoke/VarHandle" ∧ (parseMethodDescriptor yX11_starts.desc).map (fun d => d.parameters.length) = some 2 := ⟨by decide +kernel, by decide +kernel, by decide +kernel⟩
theorem nd_X11_strikeBid : yX11_strikeBid.cls ≠ "java/lang/invoke/MethodHandle" ∧ yX11_strikeBid.cls ≠ "java/lang/invoke/VarHandle" ∧ (parseMethodDescriptor yX11_strikeBid.desc).map (fun d => d.parameters.length) = some 1 := ⟨by decide +kernel, by decide +kernel, by decide +kernel⟩
theorem nd_X11_strikeEdit : yX11_strikeEdit.cls ≠ "java/lang/invoke/MethodHandle" ∧ yX11_strikeEdit.cls ≠ "java/lang/invoke/VarHandle" ∧ (parseMethodDescriptor yX11_strikeEdit.desc).map (fun d => d.parameters.length) = some 1 := ⟨by decide +kernel, by decide +kernel, by decide +kernel⟩
theorem nd_X11_sumOf : yX11_sumOf.cls ≠ "java/lang/invoke/MethodHandle" ∧ yX11_sumOf.cls ≠ "java/lang/invoke/VarHandle" ∧ (parseMethodDescriptor yX11_sumOf.desc).map (fun d => d.parameters.length) = some 2 := ⟨by decide +kernel, by decide +kernel, by decide +kernel⟩
theorem nd_X11_takes : yX11_takes.cls ≠ "java/lang/invoke/MethodHandle" ∧ yX11_takes.cls ≠ "java/lang/invoke/VarHandle" ∧ (parseMethodDescriptor yX11_takes.desc).map (fun d => d.parameters.length) = some 1 := ⟨by decide +kernel, by decide +kernel, by decide +kernel⟩
theorem nd_X11_takesPart : yX11_takesPart.cls ≠ "java/lang/invoke/MethodHandle" ∧ yX11_takesPart.cls ≠ "java/lang/invoke/VarHandle" ∧ (parseMethodDescriptor yX11_takesPart.desc).map (fun d => d.parameters.length) = some 2 := ⟨by decide +kernel, by decide +kernel, by decide +kernel⟩
theorem nd_X11_tellsEdit : yX11_tellsEdit.cls ≠ "java/lang/invoke/MethodHandle" ∧ yX11_tellsEdit.cls ≠ "java/lang/invoke/VarHandle" ∧ (parseMethodDescriptor yX11_tellsEdit.desc).map (fun d => d.parameters.length) = some 3 := ⟨by decide +kernel, by decide +kernel, by decide +kernel⟩
theorem nd_X11_thrown : yX11_thrown.cls ≠ "java/lang/invoke/MethodHandle" ∧ yX11_thrown.cls ≠ "java/lang/invoke/VarHandle" ∧ (parseMethodDescriptor yX11_thrown.desc).map (fun d => d.parameters.length) = some 0 := ⟨by decide +kernel, by decide +kernel, by decide +kernel⟩
theorem nd_X11_value : yX11_value.cls ≠ "java/lang/invoke/MethodHandle" ∧ yX11_value.cls ≠ "java/lang/invoke/VarHandle" ∧ (parseMethodDescriptor yX11_value.desc).map (fun d => d.parameters.length) = some 3 := ⟨by decide +kernel, by decide +kernel, by decide +kernel⟩
theorem nd_X11_valueAt : yX11_valueAt.cls ≠ "java/lang/invoke/MethodHandle" ∧ yX11_valueAt.cls ≠ "java/lang/invoke/VarHandle" ∧ (parseMethodDescriptor yX11_valueAt.desc).map (fun d => d.parameters.length) = some 2 := ⟨by decide +kernel, by decide +kernel, by decide +kernel⟩
theorem nd_X11_wipe : yX11_wipe.cls ≠ "java/lang/invoke/MethodHandle" ∧ yX11_wipe.cls ≠ "java/lang/invoke/VarHandle" ∧ (parseMethodDescriptor yX11_wipe.desc).map (fun d => d.parameters.length) = some 0 := ⟨by decide +kernel, by decide +kernel, by decide +kernel⟩
theorem nd_X11_withdraw : yX11_withdraw.cls ≠ "java/lang/invoke/MethodHandle" ∧ yX11_withdraw.cls ≠ "java/lang/invoke/VarHandle" ∧ (parseMethodDescriptor yX11_withdraw.desc).map (fun d => d.parameters.length) = some 2 := ⟨by decide +kernel, by decide +kernel, by decide +kernel⟩
theorem nd_X11_word : yX11_word.cls ≠ "java/lang/invoke/MethodHandle" ∧ yX11_word.cls ≠ "java/lang/invoke/VarHandle" ∧ (parseMethodDescriptor yX11_word.desc).map (fun d => d.parameters.length) = some 3 := ⟨by decide +kernel, by decide +kernel, by decide +kernel⟩
theorem nd_X1_close : yX1_close.cls ≠ "java/lang/invoke/MethodHandle" ∧ yX1_close.cls ≠ "java/lang/invoke/VarHandle" ∧ (parseMethodDescriptor yX1_close.desc).map (fun d => d.parameters.length) = some 2 := ⟨by decide +kernel, by decide +kernel, by decide +kernel⟩
theorem nd_X1_feesOf : yX1_feesOf.cls ≠ "java/lang/invoke/MethodHandle" ∧ yX1_feesOf.cls ≠ "java/lang/invoke/VarHandle" ∧ (parseMethodDescriptor yX1_feesOf.desc).map (fun d => d.parameters.length) = some 1 := ⟨by decide +kernel, by decide +kernel, by decide +kernel⟩
theorem nd_X1_init : yX1_init.cls ≠ "java/lang/invoke/MethodHandle" ∧ yX1_init.cls ≠ "java/lang/invoke/VarHandle" ∧ (parseMethodDescriptor yX1_init.desc).map (fun d => d.parameters.length) = some 0 := ⟨by decide +kernel, by decide +kernel, by decide +kernel⟩
theorem nd_X1_offeredBy : yX1_offeredBy.cls ≠ "java/lang/invoke/MethodHandle" ∧ yX1_offeredBy.cls ≠ "java/lang/invoke/VarHandle" ∧ (parseMethodDescriptor yX1_offeredBy.desc).map (fun d => d.parameters.length) = some 1 := ⟨by decide +kernel, by decide +kernel, by decide +kernel⟩
theorem nd_X1_owedBy : yX1_owedBy.cls ≠ "java/lang/invoke/MethodHandle" ∧ yX1_owedBy.cls ≠ "java/lang/invoke/VarHandle" ∧ (parseMethodDescriptor yX1_owedBy.desc).map (fun d => d.parameters.length) = some 2 := ⟨by decide +kernel, by decide +kernel, by decide +kernel⟩
theorem nd_X2_findPrice : yX2_findPrice.cls ≠ "java/lang/invoke/MethodHandle" ∧ yX2_findPrice.cls ≠ "java/lang/invoke/VarHandle" ∧ (parseMethodDescriptor yX2_findPrice.desc).map (fun d => d.parameters.length) = some 1 := ⟨by decide +kernel, by decide +kernel, by decide +kernel⟩
theorem nd_X2_init : yX2_init.cls ≠ "java/lang/invoke/MethodHandle" ∧ yX2_init.cls ≠ "java/lang/invoke/VarHandle" ∧ (parseMethodDescriptor yX2_init.desc).map (fun d => d.parameters.length) = some 2 := ⟨by decide +kernel, by decide +kernel, by decide +kernel⟩
theorem nd_X2_isOnSide : yX2_isOnSide.cls ≠ "java/lang/invoke/MethodHandle" ∧ yX2_isOnSide.cls ≠ "java/lang/invoke/VarHandle" ∧ (parseMethodDescriptor yX2_isOnSide.desc).map (fun d => d.parameters.length) = some 3 := ⟨by decide +kernel, by decide +kernel, by decide +kernel⟩
theorem nd_X2_partByOrder : yX2_partByOrder.cls ≠ "java/lang/invoke/MethodHandle" ∧ yX2_partByOrder.cls ≠ "java/lang/invoke/VarHandle" ∧ (parseMethodDescriptor yX2_partByOrder.desc).map (fun d => d.parameters.length) = some 1 := ⟨by decide +kernel, by decide +kernel, by decide +kernel⟩
theorem nd_X2_partByShares : yX2_partByShares.cls ≠ "java/lang/invoke/MethodHandle" ∧ yX2_partByShares.cls ≠ "java/lang/invoke/VarHandle" ∧ (parseMethodDescriptor yX2_partByShares.desc).map (fun d => d.parameters.length) = some 2 := ⟨by decide +kernel, by decide +kernel, by decide +kernel⟩
theorem nd_X2_reckon : yX2_reckon.cls ≠ "java/lang/invoke/MethodHandle" ∧ yX2_reckon.cls ≠ "java/lang/invoke/VarHandle" ∧ (parseMethodDescriptor yX2_reckon.desc).map (fun d => d.parameters.length) = some 1 := ⟨by decide +kernel, by decide +kernel, by decide +kernel⟩
theorem nd_X2_reckonAll : yX2_reckonAll.cls ≠ "java/lang/invoke/MethodHandle" ∧ yX2_reckonAll.cls ≠ "java/lang/invoke/VarHandle" ∧ (parseMethodDescriptor yX2_reckonAll.desc).map (fun d => d.parameters.length) = some 0 := ⟨by decide +kernel, by decide +kernel, by decide +kernel⟩
theorem nd_X2_shareOut : yX2_shareOut.cls ≠ "java/lang/invoke/MethodHandle" ∧ yX2_shareOut.cls ≠ "java/lang/invoke/VarHandle" ∧ (parseMethodDescriptor yX2_shareOut.desc).map (fun d => d.parameters.length) = some 1 := ⟨by decide +kernel, by decide +kernel, by decide +kernel⟩
theorem nd_X2_totalOf : yX2_totalOf.cls ≠ "java/lang/invoke/MethodHandle" ∧ yX2_totalOf.cls ≠ "java/lang/invoke/VarHandle" ∧ (parseMethodDescriptor yX2_totalOf.desc).map (fun d => d.parameters.length) = some 2 := ⟨by decide +kernel, by decide +kernel, by decide +kernel⟩
theorem nd_X3_countsAt : yX3_countsAt.cls ≠ "java/lang/invoke/MethodHandle" ∧ yX3_countsAt.cls ≠ "java/lang/invoke/VarHandle" ∧ (parseMethodDescriptor yX3_countsAt.desc).map (fun d => d.parameters.length) = some 1 := ⟨by decide +kernel, by decide +kernel, by decide +kernel⟩
theorem nd_X3_init : yX3_init.cls ≠ "java/lang/invoke/MethodHandle" ∧ yX3_init.cls ≠ "java/lang/invoke/VarHandle" ∧ (parseMethodDescriptor yX3_init.desc).map (fun d => d.parameters.length) = some 6 := ⟨by decide +kernel, by decide +kernel, by decide +kernel⟩
theorem nd_X4_addBid : yX4_addBid.cls ≠ "java/lang/invoke/MethodHandle" ∧ yX4_addBid.cls ≠ "java/lang/invoke/VarHandle" ∧ (parseMethodDescriptor yX4_addBid.desc).map (fun d => d.parameters.length) = some 1 := ⟨by decide +kernel, by decide +kernel, by decide +kernel⟩
theorem nd_X4_faultOf : yX4_faultOf.cls ≠ "java/lang/invoke/MethodHandle" ∧ yX4_faultOf.cls ≠ "java/lang/invoke/VarHandle" ∧ (parseMethodDescriptor yX4_faultOf.desc).map (fun d => d.parameters.length) = some 1 := ⟨by decide +kernel, by decide +kernel, by decide +kernel⟩
theorem nd_X4_find : yX4_find.cls ≠ "java/lang/invoke/MethodHandle" ∧ yX4_find.cls ≠ "java/lang/invoke/VarHandle" ∧ (parseMethodDescriptor yX4_find.desc).map (fun d => d.parameters.length) = some 2 := ⟨by decide +kernel, by decide +kernel, by decide +kernel⟩
theorem nd_X4_forgetFacts : yX4_forgetFacts.cls ≠ "java/lang/invoke/MethodHandle" ∧ yX4_forgetFacts.cls ≠ "java/lang/invoke/VarHandle" ∧ (parseMethodDescriptor yX4_forgetFacts.desc).map (fun d => d.parameters.length) = some 0 := ⟨by decide +kernel, by decide +kernel, by decide +kernel⟩
theorem nd_X4_goThrough : yX4_goThrough.cls ≠ "java/lang/invoke/MethodHandle" ∧ yX4_goThrough.cls ≠ "java/lang/invoke/VarHandle" ∧ (parseMethodDescriptor yX4_goThrough.desc).map (fun d => d.parameters.length) = some 3 := ⟨by decide +kernel, by decide +kernel, by decide +kernel⟩
theorem nd_X4_goTo : yX4_goTo.cls ≠ "java/lang/invoke/MethodHandle" ∧ yX4_goTo.cls ≠ "java/lang/invoke/VarHandle" ∧ (parseMethodDescriptor yX4_goTo.desc).map (fun d => d.parameters.length) = some 2 := ⟨by decide +kernel, by decide +kernel, by decide +kernel⟩
theorem nd_X4_init : yX4_init.cls ≠ "java/lang/invoke/MethodHandle" ∧ yX4_init.cls ≠ "java/lang/invoke/VarHandle" ∧ (parseMethodDescriptor yX4_init.desc).map (fun d => d.parameters.length) = some 2 := ⟨by decide +kernel, by decide +kernel, by decide +kernel⟩
theorem nd_X4_isEmpty : yX4_isEmpty.cls ≠ "java/lang/invoke/MethodHandle" ∧ yX4_isEmpty.cls ≠ "java/lang/invoke/VarHandle" ∧ (parseMethodDescriptor yX4_isEmpty.desc).map (fun d => d.parameters.length) = some 1 := ⟨by decide +kernel, by decide +kernel, by decide +kernel⟩
theorem nd_X4_numberOf : yX4_numberOf.cls ≠ "java/lang/invoke/MethodHandle" ∧ yX4_numberOf.cls ≠ "java/lang/invoke/VarHandle" ∧ (parseMethodDescriptor yX4_numberOf.desc).map (fun d => d.parameters.length) = some 1 := ⟨by decide +kernel, by decide +kernel, by decide +kernel⟩
theorem nd_X4_reckonWord : yX4_reckonWord.cls ≠ "java/lang/invoke/MethodHandle" ∧ yX4_reckonWord.cls ≠ "java/lang/invoke/VarHandle" ∧ (parseMethodDescriptor yX4_reckonWord.desc).map (fun d => d.parameters.length) = some 3 := ⟨by decide +kernel, by decide +kernel, by decide +kernel⟩
theorem nd_X5_append : yX5_append.cls ≠ "java/lang/invoke/MethodHandle" ∧ yX5_append.cls ≠ "java/lang/invoke/VarHandle" ∧ (parseMethodDescriptor yX5_append.desc).map (fun d => d.parameters.length) = some 3 := ⟨by decide +kernel, by decide +kernel, by decide +kernel⟩
theorem nd_X5_clear : yX5_clear.cls ≠ "java/lang/invoke/MethodHandle" ∧ yX5_clear.cls ≠ "java/lang/invoke/VarHandle" ∧ (parseMethodDescriptor yX5_clear.desc).map (fun d => d.parameters.length) = some 0 := ⟨by decide +kernel, by decide +kernel, by decide +kernel⟩
theorem nd_X5_init : yX5_init.cls ≠ "java/lang/invoke/MethodHandle" ∧ yX5_init.cls ≠ "java/lang/invoke/VarHandle" ∧ (parseMethodDescriptor yX5_init.desc).map (fun d => d.parameters.length) = some 0 := ⟨by decide +kernel, by decide +kernel, by decide +kernel⟩
theorem nd_X6_cutAhead : yX6_cutAhead.cls ≠ "java/lang/invoke/MethodHandle" ∧ yX6_cutAhead.cls ≠ "java/lang/invoke/VarHandle" ∧ (parseMethodDescriptor yX6_cutAhead.desc).map (fun d => d.parameters.length) = some 1 := ⟨by decide +kernel, by decide +kernel, by decide +kernel⟩
theorem nd_X6_dueOf : yX6_dueOf.cls ≠ "java/lang/invoke/MethodHandle" ∧ yX6_dueOf.cls ≠ "java/lang/invoke/VarHandle" ∧ (parseMethodDescriptor yX6_dueOf.desc).map (fun d => d.parameters.length) = some 2 := ⟨by decide +kernel, by decide +kernel, by decide +kernel⟩
theorem nd_X6_exposureOf : yX6_exposureOf.cls ≠ "java/lang/invoke/MethodHandle" ∧ yX6_exposureOf.cls ≠ "java/lang/invoke/VarHandle" ∧ (parseMethodDescriptor yX6_exposureOf.desc).map (fun d => d.parameters.length) = some 1 := ⟨by decide +kernel, by decide +kernel, by decide +kernel⟩
theorem nd_X6_init : yX6_init.cls ≠ "java/lang/invoke/MethodHandle" ∧ yX6_init.cls ≠ "java/lang/invoke/VarHandle" ∧ (parseMethodDescriptor yX6_init.desc).map (fun d => d.parameters.length) = some 1 := ⟨by decide +kernel, by decide +kernel, by decide +kernel⟩
theorem nd_X6_payDues : yX6_payDues.cls ≠ "java/lang/invoke/MethodHandle" ∧ yX6_payDues.cls ≠ "java/lang/invoke/VarHandle" ∧ (parseMethodDescriptor yX6_payDues.desc).map (fun d => d.parameters.length) = some 1 := ⟨by decide +kernel, by decide +kernel, by decide +kernel⟩
theorem nd_X7_canRead : yX7_canRead.cls ≠ "java/lang/invoke/MethodHandle" ∧ yX7_canRead.cls ≠ "java/lang/invoke/VarHandle" ∧ (parseMethodDescriptor yX7_canRead.desc).map (fun d => d.parameters.length) = some 2 := ⟨by decide +kernel, by decide +kernel, by decide +kernel⟩
theorem nd_X7_copy : yX7_copy.cls ≠ "java/lang/invoke/MethodHandle" ∧ yX7_copy.cls ≠ "java/lang/invoke/VarHandle" ∧ (parseMethodDescriptor yX7_copy.desc).map (fun d => d.parameters.length) = some 1 := ⟨by decide +kernel, by decide +kernel, by decide +kernel⟩
theorem nd_X7_init : yX7_init.cls ≠ "java/lang/invoke/MethodHandle" ∧ yX7_init.cls ≠ "java/lang/invoke/VarHandle" ∧ (parseMethodDescriptor yX7_init.desc).map (fun d => d.parameters.length) = some 0 := ⟨by decide +kernel, by decide +kernel, by decide +kernel⟩
theorem nd_X7_letRead : yX7_letRead.cls ≠ "java/lang/invoke/MethodHandle" ∧ yX7_letRead.cls ≠ "java/lang/invoke/VarHandle" ∧ (parseMethodDescriptor yX7_letRead.desc).map (fun d => d.parameters.length) = some 5 := ⟨by decide +kernel, by decide +kernel, by decide +kernel⟩
theorem nd_X7_ownedBy : yX7_ownedBy.cls ≠ "java/lang/invoke/MethodHandle" ∧ yX7_ownedBy.cls ≠ "java/lang/invoke/VarHandle" ∧ (parseMethodDescriptor yX7_ownedBy.desc).map (fun d => d.parameters.length) = some 1 := ⟨by decide +kernel, by decide +kernel, by decide +kernel⟩
theorem nd_X8_feeOwner : yX8_feeOwner.cls ≠ "java/lang/invoke/MethodHandle" ∧ yX8_feeOwner.cls ≠ "java/lang/invoke/VarHandle" ∧ (parseMethodDescriptor yX8_feeOwner.desc).map (fun d => d.parameters.length) = some 0 := ⟨by decide +kernel, by decide +kernel, by decide +kernel⟩
theorem nd_X8_freeze : yX8_freeze.cls ≠ "java/lang/invoke/MethodHandle" ∧ yX8_freeze.cls ≠ "java/lang/invoke/VarHandle" ∧ (parseMethodDescriptor yX8_freeze.desc).map (fun d => d.parameters.length) = some 3 := ⟨by decide +kernel, by decide +kernel, by decide +kernel⟩
theorem nd_X8_init : yX8_init.cls ≠ "java/lang/invoke/MethodHandle" ∧ yX8_init.cls ≠ "java/lang/invoke/VarHandle" ∧ (parseMethodDescriptor yX8_init.desc).map (fun d => d.parameters.length) = some 1 := ⟨by decide +kernel, by decide +kernel, by decide +kernel⟩
theorem nd_X8_isCleared : yX8_isCleared.cls ≠ "java/lang/invoke/MethodHandle" ∧ yX8_isCleared.cls ≠ "java/lang/invoke/VarHandle" ∧ (parseMethodDescriptor yX8_isCleared.desc).map (fun d => d.parameters.length) = some 0 := ⟨by decide +kernel, by decide +kernel, by decide +kernel⟩
theorem nd_X8_wasFrozen : yX8_wasFrozen.cls ≠ "java/lang/invoke/MethodHandle" ∧ yX8_wasFrozen.cls ≠ "java/lang/invoke/VarHandle" ∧ (parseMethodDescriptor yX8_wasFrozen.desc).map (fun d => d.parameters.length) = some 0 := ⟨by decide +kernel, by decide +kernel, by decide +kernel⟩
theorem nd_X9_countOf : yX9_countOf.cls ≠ "java/lang/invoke/MethodHandle" ∧ yX9_countOf.cls ≠ "java/lang/invoke/VarHandle" ∧ (parseMethodDescriptor yX9_countOf.desc).map (fun d => d.parameters.length) = some 1 := ⟨by decide +kernel, by decide +kernel, by decide +kernel⟩
theorem nd_X9_counting : yX9_counting.cls ≠ "java/lang/invoke/MethodHandle" ∧ yX9_counting.cls ≠ "java/lang/invoke/VarHandle" ∧ (parseMethodDescriptor yX9_counting.desc).map (fun d => d.parameters.length) = some 2 := ⟨by decide +kernel, by decide +kernel, by decide +kernel⟩
theorem nd_X9_init : yX9_init.cls ≠ "java/lang/invoke/MethodHandle" ∧ yX9_init.cls ≠ "java/lang/invoke/VarHandle" ∧ (parseMethodDescriptor yX9_init.desc).map (fun d => d.parameters.length) = some 0 := ⟨by decide +kernel, by decide +kernel, by decide +kernel⟩
theorem nd_X9_placed : yX9_placed.cls ≠ "java/lang/invoke/MethodHandle" ∧ yX9_placed.cls ≠ "java/lang/invoke/VarHandle" ∧ (parseMethodDescriptor yX9_placed.desc).map (fun d => d.parameters.length) = some 2 := ⟨by decide +kernel, by decide +kernel, by decide +kernel⟩
theorem nd_X9_tell : yX9_tell.cls ≠ "java/lang/invoke/MethodHandle" ∧ yX9_tell.cls ≠ "java/lang/invoke/VarHandle" ∧ (parseMethodDescriptor yX9_tell.desc).map (fun d => d.parameters.length) = some 4 := ⟨by decide +kernel, by decide +kernel, by decide +kernel⟩
theorem kx_fit_IllegalArgumentException : Bundle.fit "java/lang/IllegalArgumentException" = true := by decide +kernel
theorem kx_fit_IllegalStateException : Bundle.fit "java/lang/IllegalStateException" = true := by decide +kernel
theorem kx_fit_IndexOutOfBoundsException : Bundle.fit "java/lang/IndexOutOfBoundsException" = true := by decide +kernel
theorem kx_names : ∀ n ∈ (["java/lang/RuntimeException", "java/lang/Exception"] : List String), Bundle.fit n = true := by decide +kernel
theorem kx_at_IllegalArgumentException_84 : ∀ w ∈ vx_atS RX10 84 "java/lang/IllegalArgumentException" ["java/lang/RuntimeException", "java/lang/Exception"], w ∈ hs_ws := by decide +kernel
theorem kx_ok_IllegalArgumentException_84 : ∀ w ∈ Cond.classLink RX10 80 "java/lang/IllegalArgumentException" :: Cond.initialized "java/lang/IllegalArgumentException" :: vx_atS RX10 84 "java/lang/IllegalArgumentException" ["java/lang/RuntimeException", "java/lang/Exception"], vx_ot w = true := by decide +kernel
theorem kx_at_IllegalStateException_120 : ∀ w ∈ vx_atS RX10 120 "java/lang/IllegalStateException" ["java/lang/RuntimeException", "java/lang/Exception"], w ∈ hs_ws := by decide +kernel
theorem kx_ok_IllegalStateException_120 : ∀ w ∈ Cond.classLink RX10 116 "java/lang/IllegalStateException" :: Cond.initialized "java/lang/IllegalStateException" :: vx_atS RX10 120 "java/lang/IllegalStateException" ["java/lang/RuntimeException", "java/lang/Exception"], vx_ot w = true := by decide +kernel
theorem kx_at_IndexOutOfBoundsException_181 : ∀ w ∈ vx_atS RX10 181 "java/lang/IndexOutOfBoundsException" ["java/lang/RuntimeException", "java/lang/Exception"], w ∈ hs_ws := by decide +kernel
theorem kx_ok_IndexOutOfBoundsException_181 : ∀ w ∈ Cond.classLink RX10 177 "java/lang/IndexOutOfBoundsException" :: Cond.initialized "java/lang/IndexOutOfBoundsException" :: vx_atS RX10 181 "java/lang/IndexOutOfBoundsException" ["java/lang/RuntimeException", "java/lang/Exception"], vx_ot w = true := by decide +kernel
theorem hs_swo0_5 {x : Int32} (c0 : ¬ x = 0) (c1 : ¬ x = 1) (c2 : ¬ x = 2) (c3 : ¬ x = 3) (c4 : ¬ x = 4) (c5 : ¬ x = 5) : x.toInt < 0 ∨ 5 < x.toInt := by
  have h0 : x.toInt ≠ 0 := hs_ne_toInt c0
  have h1 : x.toInt ≠ 1 := hs_ne_toInt c1
  have h2 : x.toInt ≠ 2 := hs_ne_toInt c2
  have h3 : x.toInt ≠ 3 := hs_ne_toInt c3
  have h4 : x.toInt ≠ 4 := hs_ne_toInt c4
  have h5 : x.toInt ≠ 5 := hs_ne_toInt c5
  omega
theorem hs_swo0_6 {x : Int32} (c0 : ¬ x = 0) (c1 : ¬ x = 1) (c2 : ¬ x = 2) (c3 : ¬ x = 3) (c4 : ¬ x = 4) (c5 : ¬ x = 5) (c6 : ¬ x = 6) : x.toInt < 0 ∨ 6 < x.toInt := by
  have h0 : x.toInt ≠ 0 := hs_ne_toInt c0
  have h1 : x.toInt ≠ 1 := hs_ne_toInt c1
  have h2 : x.toInt ≠ 2 := hs_ne_toInt c2
  have h3 : x.toInt ≠ 3 := hs_ne_toInt c3
  have h4 : x.toInt ≠ 4 := hs_ne_toInt c4
  have h5 : x.toInt ≠ 5 := hs_ne_toInt c5
  have h6 : x.toInt ≠ 6 := hs_ne_toInt c6
  omega
theorem hs_swo0_14 {x : Int32} (c0 : ¬ x = 0) (c1 : ¬ x = 1) (c2 : ¬ x = 2) (c3 : ¬ x = 3) (c4 : ¬ x = 4) (c5 : ¬ x = 5) (c6 : ¬ x = 6) (c7 : ¬ x = 7) (c8 : ¬ x = 8) (c9 : ¬ x = 9) (c10 : ¬ x = 10) (c11 : ¬ x = 11) (c12 : ¬ x = 12) (c13 : ¬ x = 13) (c14 : ¬ x = 14) : x.toInt < 0 ∨ 14 < x.toInt := by
  have h0 : x.toInt ≠ 0 := hs_ne_toInt c0
  have h1 : x.toInt ≠ 1 := hs_ne_toInt c1
  have h2 : x.toInt ≠ 2 := hs_ne_toInt c2
  have h3 : x.toInt ≠ 3 := hs_ne_toInt c3
  have h4 : x.toInt ≠ 4 := hs_ne_toInt c4
  have h5 : x.toInt ≠ 5 := hs_ne_toInt c5
  have h6 : x.toInt ≠ 6 := hs_ne_toInt c6
  have h7 : x.toInt ≠ 7 := hs_ne_toInt c7
  have h8 : x.toInt ≠ 8 := hs_ne_toInt c8
  have h9 : x.toInt ≠ 9 := hs_ne_toInt c9
  have h10 : x.toInt ≠ 10 := hs_ne_toInt c10
  have h11 : x.toInt ≠ 11 := hs_ne_toInt c11
  have h12 : x.toInt ≠ 12 := hs_ne_toInt c12
  have h13 : x.toInt ≠ 13 := hs_ne_toInt c13
  have h14 : x.toInt ≠ 14 := hs_ne_toInt c14
  omega
