theorem kw_21 : Cond.selects "CellmarketModel" yX11_ownerAt yX11_ownerAt ∈ hs_ws := hs_w 21 (by decide +kernel) rfl
theorem kw_24 : Cond.selects "CellmarketModel" yX11_readsAt yX11_readsAt ∈ hs_ws := hs_w 24 (by decide +kernel) rfl
theorem kw_28 : Cond.selects "CellmarketModel" yX11_valueAt yX11_valueAt ∈ hs_ws := hs_w 28 (by decide +kernel) rfl
theorem kw_29 : Cond.selects "CellmarketModel" yX11_starts yX11_starts ∈ hs_ws := hs_w 29 (by decide +kernel) rfl
theorem kw_30 : Cond.selects "CellmarketModel" yX11_isEmptyAt yX11_isEmptyAt ∈ hs_ws := hs_w 30 (by decide +kernel) rfl
theorem kw_31 : Cond.selects "CellmarketModel" yX11_editAt yX11_editAt ∈ hs_ws := hs_w 31 (by decide +kernel) rfl
theorem kw_32 : Cond.selects "CellmarketModel" yX11_goes yX11_goes ∈ hs_ws := hs_w 32 (by decide +kernel) rfl
theorem kw_33 : Cond.selects "CellmarketModel" yX11_isFinding yX11_isFinding ∈ hs_ws := hs_w 33 (by decide +kernel) rfl
theorem kw_34 : Cond.selects "CellmarketModel" yX11_puts yX11_puts ∈ hs_ws := hs_w 34 (by decide +kernel) rfl
theorem kw_35 : Cond.selects "CellmarketModel" yX11_lastAt yX11_lastAt ∈ hs_ws := hs_w 35 (by decide +kernel) rfl
theorem kw_36 : Cond.selects "CellmarketModel" yX11_bidsAt yX11_bidsAt ∈ hs_ws := hs_w 36 (by decide +kernel) rfl
theorem kw_37 : Cond.selects "CellmarketModel" yX11_isThere yX11_isThere ∈ hs_ws := hs_w 37 (by decide +kernel) rfl
theorem kw_38 : Cond.selects "CellmarketModel" yX11_reckons yX11_reckons ∈ hs_ws := hs_w 38 (by decide +kernel) rfl
theorem kw_41 : Cond.selects "CellmarketModel" yX11_dueOf yX11_dueOf ∈ hs_ws := hs_w 41 (by decide +kernel) rfl
theorem kw_42 : Cond.selects "CellmarketModel" yX11_feesOf yX11_feesOf ∈ hs_ws := hs_w 42 (by decide +kernel) rfl
theorem kw_43 : Cond.selects "CellmarketModel" yX11_feeOf yX11_feeOf ∈ hs_ws := hs_w 43 (by decide +kernel) rfl
theorem kw_44 : Cond.selects "CellmarketModel" yX11_costOf yX11_costOf ∈ hs_ws := hs_w 44 (by decide +kernel) rfl
theorem kw_47 : Cond.selects "CellmarketModel" yX11_sumOf yX11_sumOf ∈ hs_ws := hs_w 47 (by decide +kernel) rfl
theorem kw_48 : Cond.selects "CellmarketModel" yX11_takesPart yX11_takesPart ∈ hs_ws := hs_w 48 (by decide +kernel) rfl
theorem kw_49 : Cond.selects "CellmarketModel" yX11_shares yX11_shares ∈ hs_ws := hs_w 49 (by decide +kernel) rfl
theorem kw_50 : Cond.selects "CellmarketModel" yX11_isAhead yX11_isAhead ∈ hs_ws := hs_w 50 (by decide +kernel) rfl
theorem kw_66 : Cond.initialized "CellmarketModel" ∈ hs_ws := hs_w 66 (by decide +kernel) rfl
theorem kw_106 : Cond.laysFinal "Cellmarket$Rights" "Cellmarket$Rights" "owner" "[I" ∈ hs_ws := hs_w 106 (by decide +kernel) rfl
theorem kw_108 : Cond.laysFinal "Cellmarket$Rights" "Cellmarket$Rights" "readers" "[I" ∈ hs_ws := hs_w 108 (by decide +kernel) rfl
theorem kw_155 : Cond.laysFinal "Cellmarket$Formula" "Cellmarket$Formula" "what" "[I" ∈ hs_ws := hs_w 155 (by decide +kernel) rfl
theorem kw_157 : Cond.laysFinal "Cellmarket$Formula" "Cellmarket$Formula" "one" "[I" ∈ hs_ws := hs_w 157 (by decide +kernel) rfl
theorem kw_159 : Cond.laysFinal "Cellmarket$Formula" "Cellmarket$Formula" "two" "[I" ∈ hs_ws := hs_w 159 (by decide +kernel) rfl
theorem kw_161 : Cond.lays "Cellmarket$Formula" "Cellmarket$Formula" "many" "I" ∈ hs_ws := hs_w 161 (by decide +kernel) rfl
theorem kw_163 : Cond.lays "Cellmarket$Formula" "Cellmarket$Formula" "height" "I" ∈ hs_ws := hs_w 163 (by decide +kernel) rfl
theorem kw_179 : Cond.laysFinal "Cellmarket$Sheet" "Cellmarket$Sheet" "rights" "LCellmarket$Rights;" ∈ hs_ws := hs_w 179 (by decide +kernel) rfl
theorem kw_181 : Cond.laysFinal "Cellmarket$Sheet" "Cellmarket$Sheet" "edits" "Ljava/util/List;" ∈ hs_ws := hs_w 181 (by decide +kernel) rfl
theorem kw_183 : Cond.laysFinal "Cellmarket$Sheet" "Cellmarket$Sheet" "notices" "[I" ∈ hs_ws := hs_w 183 (by decide +kernel) rfl
theorem kw_185 : Cond.laysFinal "Cellmarket$Sheet" "Cellmarket$Sheet" "blank" "LCellmarket$Formula;" ∈ hs_ws := hs_w 185 (by decide +kernel) rfl
theorem kw_187 : Cond.lays "Cellmarket$Sheet" "Cellmarket$Sheet" "draft" "LCellmarket$Formula;" ∈ hs_ws := hs_w 187 (by decide +kernel) rfl
theorem kw_238 : Cond.laysFinal "Cellmarket$Round" "Cellmarket$Round" "column" "I" ∈ hs_ws := hs_w 238 (by decide +kernel) rfl
theorem kw_240 : Cond.lays "Cellmarket$Round" "Cellmarket$Round" "frozen" "I" ∈ hs_ws := hs_w 240 (by decide +kernel) rfl
theorem kw_242 : Cond.lays "Cellmarket$Round" "Cellmarket$Round" "cleared" "I" ∈ hs_ws := hs_w 242 (by decide +kernel) rfl
theorem kw_244 : Cond.lays "Cellmarket$Round" "Cellmarket$Round" "byShares" "Z" ∈ hs_ws := hs_w 244 (by decide +kernel) rfl
theorem kw_246 : Cond.laysFinal "Cellmarket$Round" "Cellmarket$Round" "rights" "LCellmarket$Rights;" ∈ hs_ws := hs_w 246 (by decide +kernel) rfl
theorem kw_248 : Cond.lays "Cellmarket$Round" "Cellmarket$Round" "price" "I" ∈ hs_ws := hs_w 248 (by decide +kernel) rfl
theorem kw_250 : Cond.lays "Cellmarket$Round" "Cellmarket$Round" "volume" "I" ∈ hs_ws := hs_w 250 (by decide +kernel) rfl
theorem kw_252 : Cond.lays "Cellmarket$Round" "Cellmarket$Round" "fee" "I" ∈ hs_ws := hs_w 252 (by decide +kernel) rfl
theorem kw_254 : Cond.lays "Cellmarket$Round" "Cellmarket$Round" "why" "I" ∈ hs_ws := hs_w 254 (by decide +kernel) rfl
theorem kw_270 : Cond.laysFinal "Cellmarket$Book" "Cellmarket$Book" "bids" "Ljava/util/List;" ∈ hs_ws := hs_w 270 (by decide +kernel) rfl
theorem kw_272 : Cond.laysFinal "Cellmarket$Book" "Cellmarket$Book" "current" "[LCellmarket$Round;" ∈ hs_ws := hs_w 272 (by decide +kernel) rfl
theorem kw_274 : Cond.laysFinal "Cellmarket$Book" "Cellmarket$Book" "cleared" "Ljava/util/List;" ∈ hs_ws := hs_w 274 (by decide +kernel) rfl
theorem kw_276 : Cond.laysFinal "Cellmarket$Book" "Cellmarket$Book" "byShares" "[Z" ∈ hs_ws := hs_w 276 (by decide +kernel) rfl
theorem kw_299 : Cond.laysFinal "Cellmarket$Finder" "Cellmarket$Finder" "sheet" "LCellmarket$Sheet;" ∈ hs_ws := hs_w 299 (by decide +kernel) rfl
theorem kw_301 : Cond.laysFinal "Cellmarket$Finder" "Cellmarket$Finder" "book" "LCellmarket$Book;" ∈ hs_ws := hs_w 301 (by decide +kernel) rfl
theorem kw_303 : Cond.lays "Cellmarket$Finder" "Cellmarket$Finder" "rights" "LCellmarket$Rights;" ∈ hs_ws := hs_w 303 (by decide +kernel) rfl
theorem kw_305 : Cond.laysFinal "Cellmarket$Finder" "Cellmarket$Finder" "formulas" "[LCellmarket$Formula;" ∈ hs_ws := hs_w 305 (by decide +kernel) rfl
theorem kw_307 : Cond.laysFinal "Cellmarket$Finder" "Cellmarket$Finder" "states" "[I" ∈ hs_ws := hs_w 307 (by decide +kernel) rfl
theorem kw_309 : Cond.laysFinal "Cellmarket$Finder" "Cellmarket$Finder" "numbers" "[I" ∈ hs_ws := hs_w 309 (by decide +kernel) rfl
theorem kw_311 : Cond.laysFinal "Cellmarket$Finder" "Cellmarket$Finder" "faults" "[I" ∈ hs_ws := hs_w 311 (by decide +kernel) rfl
theorem kw_313 : Cond.laysFinal "Cellmarket$Finder" "Cellmarket$Finder" "facts" "[[I" ∈ hs_ws := hs_w 313 (by decide +kernel) rfl
theorem kw_315 : Cond.laysFinal "Cellmarket$Finder" "Cellmarket$Finder" "pile" "[I" ∈ hs_ws := hs_w 315 (by decide +kernel) rfl
theorem kw_317 : Cond.lays "Cellmarket$Finder" "Cellmarket$Finder" "made" "I" ∈ hs_ws := hs_w 317 (by decide +kernel) rfl
theorem kw_328 : Cond.laysFinal "Cellmarket$Clearing" "Cellmarket$Clearing" "book" "LCellmarket$Book;" ∈ hs_ws := hs_w 328 (by decide +kernel) rfl
theorem kw_330 : Cond.laysFinal "Cellmarket$Clearing" "Cellmarket$Clearing" "finder" "LCellmarket$Finder;" ∈ hs_ws := hs_w 330 (by decide +kernel) rfl
theorem kw_348 : Cond.laysFinal "Cellmarket$Ledger" "Cellmarket$Ledger" "book" "LCellmarket$Book;" ∈ hs_ws := hs_w 348 (by decide +kernel) rfl
theorem kw_350 : Cond.laysFinal "Cellmarket$Ledger" "Cellmarket$Ledger" "settled" "[I" ∈ hs_ws := hs_w 350 (by decide +kernel) rfl
theorem kw_352 : Cond.laysFinal "Cellmarket$Ledger" "Cellmarket$Ledger" "cash" "[I" ∈ hs_ws := hs_w 352 (by decide +kernel) rfl
theorem kw_354 : Cond.laysFinal "Cellmarket$Ledger" "Cellmarket$Ledger" "limits" "[I" ∈ hs_ws := hs_w 354 (by decide +kernel) rfl
theorem kw_356 : Cond.laysFinal "Cellmarket$Ledger" "Cellmarket$Ledger" "paid" "[I" ∈ hs_ws := hs_w 356 (by decide +kernel) rfl
theorem kw_358 : Cond.laysFinal "Cellmarket$Ledger" "Cellmarket$Ledger" "cut" "[I" ∈ hs_ws := hs_w 358 (by decide +kernel) rfl
theorem kw_367 : Cond.laysFinal "Cellmarket" "Cellmarket" "sheet" "LCellmarket$Sheet;" ∈ hs_ws := hs_w 367 (by decide +kernel) rfl
theorem kw_369 : Cond.laysFinal "Cellmarket" "Cellmarket" "book" "LCellmarket$Book;" ∈ hs_ws := hs_w 369 (by decide +kernel) rfl
theorem kw_371 : Cond.laysFinal "Cellmarket" "Cellmarket" "finder" "LCellmarket$Finder;" ∈ hs_ws := hs_w 371 (by decide +kernel) rfl
theorem kw_373 : Cond.laysFinal "Cellmarket" "Cellmarket" "clearing" "LCellmarket$Clearing;" ∈ hs_ws := hs_w 373 (by decide +kernel) rfl
theorem kw_375 : Cond.laysFinal "Cellmarket" "Cellmarket" "ledger" "LCellmarket$Ledger;" ∈ hs_ws := hs_w 375 (by decide +kernel) rfl
theorem kw_377 : Cond.lays "Cellmarket" "Cellmarket" "eventCount" "I" ∈ hs_ws := hs_w 377 (by decide +kernel) rfl
theorem kw_631 : Cond.laysFinal "Cellmarket$Edit" "Cellmarket$Edit" "number" "I" ∈ hs_ws := hs_w 631 (by decide +kernel) rfl
theorem kw_633 : Cond.laysFinal "Cellmarket$Edit" "Cellmarket$Edit" "cell" "I" ∈ hs_ws := hs_w 633 (by decide +kernel) rfl
theorem kw_635 : Cond.laysFinal "Cellmarket$Edit" "Cellmarket$Edit" "teller" "I" ∈ hs_ws := hs_w 635 (by decide +kernel) rfl
theorem kw_637 : Cond.laysFinal "Cellmarket$Edit" "Cellmarket$Edit" "told" "I" ∈ hs_ws := hs_w 637 (by decide +kernel) rfl
theorem kw_639 : Cond.laysFinal "Cellmarket$Edit" "Cellmarket$Edit" "from" "I" ∈ hs_ws := hs_w 639 (by decide +kernel) rfl
theorem kw_641 : Cond.laysFinal "Cellmarket$Edit" "Cellmarket$Edit" "formula" "LCellmarket$Formula;" ∈ hs_ws := hs_w 641 (by decide +kernel) rfl
theorem kw_643 : Cond.lays "Cellmarket$Edit" "Cellmarket$Edit" "isStruck" "Z" ∈ hs_ws := hs_w 643 (by decide +kernel) rfl
theorem kw_942 : Cond.laysFinal "Cellmarket$Bid" "Cellmarket$Bid" "number" "I" ∈ hs_ws := hs_w 942 (by decide +kernel) rfl
theorem kw_944 : Cond.laysFinal "Cellmarket$Bid" "Cellmarket$Bid" "owner" "I" ∈ hs_ws := hs_w 944 (by decide +kernel) rfl
theorem kw_946 : Cond.laysFinal "Cellmarket$Bid" "Cellmarket$Bid" "round" "LCellmarket$Round;" ∈ hs_ws := hs_w 946 (by decide +kernel) rfl
theorem kw_948 : Cond.laysFinal "Cellmarket$Bid" "Cellmarket$Bid" "isBuy" "Z" ∈ hs_ws := hs_w 948 (by decide +kernel) rfl
theorem kw_950 : Cond.laysFinal "Cellmarket$Bid" "Cellmarket$Bid" "many" "I" ∈ hs_ws := hs_w 950 (by decide +kernel) rfl
theorem kw_952 : Cond.laysFinal "Cellmarket$Bid" "Cellmarket$Bid" "limit" "I" ∈ hs_ws := hs_w 952 (by decide +kernel) rfl
theorem kw_954 : Cond.laysFinal "Cellmarket$Bid" "Cellmarket$Bid" "made" "I" ∈ hs_ws := hs_w 954 (by decide +kernel) rfl
theorem kw_956 : Cond.lays "Cellmarket$Bid" "Cellmarket$Bid" "withdrawn" "I" ∈ hs_ws := hs_w 956 (by decide +kernel) rfl
theorem kw_958 : Cond.lays "Cellmarket$Bid" "Cellmarket$Bid" "isStruck" "Z" ∈ hs_ws := hs_w 958 (by decide +kernel) rfl
theorem kw_960 : Cond.lays "Cellmarket$Bid" "Cellmarket$Bid" "got" "I" ∈ hs_ws := hs_w 960 (by decide +kernel) rfl
theorem kw_1184 : Cond.fieldLink "CellmarketModel" 164 "CellmarketModel" "events" "I" ∈ hs_ws := hs_w 1184 (by decide +kernel) rfl
theorem kw_1185 : Cond.fieldLink "CellmarketModel" 167 "CellmarketModel" "gives" "I" ∈ hs_ws := hs_w 1185 (by decide +kernel) rfl
theorem kw_1186 : Cond.fieldLink "CellmarketModel" 7 "CellmarketModel" "giveEvent" "[I" ∈ hs_ws := hs_w 1186 (by decide +kernel) rfl
theorem kw_1187 : Cond.fieldLink "CellmarketModel" 13 "CellmarketModel" "giveCell" "[I" ∈ hs_ws := hs_w 1187 (by decide +kernel) rfl
theorem kw_1188 : Cond.fieldLink "CellmarketModel" 16 "CellmarketModel" "giveOther" "[I" ∈ hs_ws := hs_w 1188 (by decide +kernel) rfl
theorem kw_1189 : Cond.fieldLink "CellmarketModel" 174 "CellmarketModel" "lets" "I" ∈ hs_ws := hs_w 1189 (by decide +kernel) rfl
theorem kw_1190 : Cond.fieldLink "CellmarketModel" 19 "CellmarketModel" "letEvent" "[I" ∈ hs_ws := hs_w 1190 (by decide +kernel) rfl
theorem kw_1191 : Cond.fieldLink "CellmarketModel" 22 "CellmarketModel" "letOwner" "[I" ∈ hs_ws := hs_w 1191 (by decide +kernel) rfl
theorem kw_1192 : Cond.fieldLink "CellmarketModel" 25 "CellmarketModel" "letOther" "[I" ∈ hs_ws := hs_w 1192 (by decide +kernel) rfl
theorem kw_1193 : Cond.fieldLink "CellmarketModel" 28 "CellmarketModel" "letRows" "[I" ∈ hs_ws := hs_w 1193 (by decide +kernel) rfl
theorem kw_1194 : Cond.fieldLink "CellmarketModel" 200 "CellmarketModel" "draft" "I" ∈ hs_ws := hs_w 1194 (by decide +kernel) rfl
theorem kw_1195 : Cond.fieldLink "CellmarketModel" 31 "CellmarketModel" "draftWords" "[I" ∈ hs_ws := hs_w 1195 (by decide +kernel) rfl
theorem kw_1196 : Cond.fieldLink "CellmarketModel" 215 "CellmarketModel" "edits" "I" ∈ hs_ws := hs_w 1196 (by decide +kernel) rfl
theorem kw_1197 : Cond.fieldLink "CellmarketModel" 34 "CellmarketModel" "editCell" "[I" ∈ hs_ws := hs_w 1197 (by decide +kernel) rfl
theorem kw_1200 : Cond.fieldLink "CellmarketModel" 43 "CellmarketModel" "editFrom" "[I" ∈ hs_ws := hs_w 1200 (by decide +kernel) rfl
theorem kw_1201 : Cond.fieldLink "CellmarketModel" 46 "CellmarketModel" "editSize" "[I" ∈ hs_ws := hs_w 1201 (by decide +kernel) rfl
theorem kw_1202 : Cond.fieldLink "CellmarketModel" 49 "CellmarketModel" "isEditStruck" "[Z" ∈ hs_ws := hs_w 1202 (by decide +kernel) rfl
theorem kw_1203 : Cond.fieldLink "CellmarketModel" 53 "CellmarketModel" "editWords" "[I" ∈ hs_ws := hs_w 1203 (by decide +kernel) rfl
theorem kw_1208 : Cond.fieldLink "CellmarketModel" 269 "CellmarketModel" "bids" "I" ∈ hs_ws := hs_w 1208 (by decide +kernel) rfl
theorem kw_1209 : Cond.fieldLink "CellmarketModel" 68 "CellmarketModel" "bidOwner" "[I" ∈ hs_ws := hs_w 1209 (by decide +kernel) rfl
theorem kw_1210 : Cond.fieldLink "CellmarketModel" 71 "CellmarketModel" "bidColumn" "[I" ∈ hs_ws := hs_w 1210 (by decide +kernel) rfl
theorem kw_1211 : Cond.fieldLink "CellmarketModel" 74 "CellmarketModel" "isBuy" "[Z" ∈ hs_ws := hs_w 1211 (by decide +kernel) rfl
theorem kw_1212 : Cond.fieldLink "CellmarketModel" 77 "CellmarketModel" "many" "[I" ∈ hs_ws := hs_w 1212 (by decide +kernel) rfl
theorem kw_1213 : Cond.fieldLink "CellmarketModel" 80 "CellmarketModel" "limit" "[I" ∈ hs_ws := hs_w 1213 (by decide +kernel) rfl
theorem kw_1214 : Cond.fieldLink "CellmarketModel" 83 "CellmarketModel" "bidEvent" "[I" ∈ hs_ws := hs_w 1214 (by decide +kernel) rfl
theorem kw_1215 : Cond.fieldLink "CellmarketModel" 86 "CellmarketModel" "withdrawn" "[I" ∈ hs_ws := hs_w 1215 (by decide +kernel) rfl
theorem kw_1216 : Cond.fieldLink "CellmarketModel" 89 "CellmarketModel" "bidRound" "[I" ∈ hs_ws := hs_w 1216 (by decide +kernel) rfl
theorem kw_1217 : Cond.fieldLink "CellmarketModel" 92 "CellmarketModel" "isBidStruck" "[Z" ∈ hs_ws := hs_w 1217 (by decide +kernel) rfl
theorem kw_1218 : Cond.fieldLink "CellmarketModel" 95 "CellmarketModel" "got" "[I" ∈ hs_ws := hs_w 1218 (by decide +kernel) rfl
theorem kw_1220 : Cond.fieldLink "CellmarketModel" 266 "CellmarketModel" "rounds" "I" ∈ hs_ws := hs_w 1220 (by decide +kernel) rfl
theorem kw_1221 : Cond.fieldLink "CellmarketModel" 101 "CellmarketModel" "roundColumn" "[I" ∈ hs_ws := hs_w 1221 (by decide +kernel) rfl
theorem kw_1222 : Cond.fieldLink "CellmarketModel" 104 "CellmarketModel" "roundFrozen" "[I" ∈ hs_ws := hs_w 1222 (by decide +kernel) rfl
theorem kw_1223 : Cond.fieldLink "CellmarketModel" 107 "CellmarketModel" "roundCleared" "[I" ∈ hs_ws := hs_w 1223 (by decide +kernel) rfl
theorem kw_1224 : Cond.fieldLink "CellmarketModel" 110 "CellmarketModel" "roundShares" "[Z" ∈ hs_ws := hs_w 1224 (by decide +kernel) rfl
theorem kw_1225 : Cond.fieldLink "CellmarketModel" 113 "CellmarketModel" "price" "[I" ∈ hs_ws := hs_w 1225 (by decide +kernel) rfl
theorem kw_1226 : Cond.fieldLink "CellmarketModel" 116 "CellmarketModel" "volume" "[I" ∈ hs_ws := hs_w 1226 (by decide +kernel) rfl
theorem kw_1227 : Cond.fieldLink "CellmarketModel" 119 "CellmarketModel" "fee" "[I" ∈ hs_ws := hs_w 1227 (by decide +kernel) rfl
theorem kw_1228 : Cond.fieldLink "CellmarketModel" 122 "CellmarketModel" "why" "[I" ∈ hs_ws := hs_w 1228 (by decide +kernel) rfl
theorem kw_1230 : Cond.fieldLink "CellmarketModel" 128 "CellmarketModel" "settled" "[J" ∈ hs_ws := hs_w 1230 (by decide +kernel) rfl
theorem kw_1233 : Cond.fieldLink "CellmarketModel" 138 "CellmarketModel" "path" "[I" ∈ hs_ws := hs_w 1233 (by decide +kernel) rfl
theorem kw_1234 : Cond.fieldLink "CellmarketModel" 141 "CellmarketModel" "pathAt" "[I" ∈ hs_ws := hs_w 1234 (by decide +kernel) rfl
theorem kw_1235 : Cond.fieldLink "CellmarketModel" 144 "CellmarketModel" "pathBase" "[I" ∈ hs_ws := hs_w 1235 (by decide +kernel) rfl
theorem kw_1236 : Cond.fieldLink "CellmarketModel" 147 "CellmarketModel" "pathEdit" "[I" ∈ hs_ws := hs_w 1236 (by decide +kernel) rfl
theorem kw_1237 : Cond.fieldLink "CellmarketModel" 225 "CellmarketModel" "depth" "I" ∈ hs_ws := hs_w 1237 (by decide +kernel) rfl
theorem kw_1238 : Cond.fieldLink "CellmarketModel" 150 "CellmarketModel" "pile" "[I" ∈ hs_ws := hs_w 1238 (by decide +kernel) rfl
theorem kw_1239 : Cond.fieldLink "CellmarketModel" 231 "CellmarketModel" "top" "I" ∈ hs_ws := hs_w 1239 (by decide +kernel) rfl
theorem kw_1240 : Cond.fieldLink "CellmarketModel" 153 "CellmarketModel" "isFound" "[Z" ∈ hs_ws := hs_w 1240 (by decide +kernel) rfl
theorem kw_1241 : Cond.fieldLink "CellmarketModel" 156 "CellmarketModel" "foundValue" "[I" ∈ hs_ws := hs_w 1241 (by decide +kernel) rfl
theorem kw_1242 : Cond.fieldLink "CellmarketModel" 234 "CellmarketModel" "fault" "I" ∈ hs_ws := hs_w 1242 (by decide +kernel) rfl
theorem kw_1243 : Cond.fieldLink "CellmarketModel" 160 "CellmarketModel" "thrown" "I" ∈ hs_ws := hs_w 1243 (by decide +kernel) rfl
theorem kw_1244 : Cond.lays "CellmarketModel" "CellmarketModel" "events" "I" ∈ hs_ws := hs_w 1244 (by decide +kernel) rfl
theorem kw_1246 : Cond.lays "CellmarketModel" "CellmarketModel" "gives" "I" ∈ hs_ws := hs_w 1246 (by decide +kernel) rfl
theorem kw_1248 : Cond.laysFinal "CellmarketModel" "CellmarketModel" "giveEvent" "[I" ∈ hs_ws := hs_w 1248 (by decide +kernel) rfl
theorem kw_1250 : Cond.laysFinal "CellmarketModel" "CellmarketModel" "giveCell" "[I" ∈ hs_ws := hs_w 1250 (by decide +kernel) rfl
theorem kw_1252 : Cond.laysFinal "CellmarketModel" "CellmarketModel" "giveOther" "[I" ∈ hs_ws := hs_w 1252 (by decide +kernel) rfl
theorem kw_1254 : Cond.lays "CellmarketModel" "CellmarketModel" "lets" "I" ∈ hs_ws := hs_w 1254 (by decide +kernel) rfl
theorem kw_1256 : Cond.laysFinal "CellmarketModel" "CellmarketModel" "letEvent" "[I" ∈ hs_ws := hs_w 1256 (by decide +kernel) rfl
theorem kw_1258 : Cond.laysFinal "CellmarketModel" "CellmarketModel" "letOwner" "[I" ∈ hs_ws := hs_w 1258 (by decide +kernel) rfl
theorem kw_1260 : Cond.laysFinal "CellmarketModel" "CellmarketModel" "letOther" "[I" ∈ hs_ws := hs_w 1260 (by decide +kernel) rfl
theorem kw_1262 : Cond.laysFinal "CellmarketModel" "CellmarketModel" "letRows" "[I" ∈ hs_ws := hs_w 1262 (by decide +kernel) rfl
theorem kw_1264 : Cond.lays "CellmarketModel" "CellmarketModel" "draft" "I" ∈ hs_ws := hs_w 1264 (by decide +kernel) rfl
theorem kw_1266 : Cond.laysFinal "CellmarketModel" "CellmarketModel" "draftWords" "[I" ∈ hs_ws := hs_w 1266 (by decide +kernel) rfl
theorem kw_1268 : Cond.lays "CellmarketModel" "CellmarketModel" "edits" "I" ∈ hs_ws := hs_w 1268 (by decide +kernel) rfl
theorem kw_1270 : Cond.laysFinal "CellmarketModel" "CellmarketModel" "editCell" "[I" ∈ hs_ws := hs_w 1270 (by decide +kernel) rfl
theorem kw_1272 : Cond.laysFinal "CellmarketModel" "CellmarketModel" "editOwner" "[I" ∈ hs_ws := hs_w 1272 (by decide +kernel) rfl
theorem kw_1274 : Cond.laysFinal "CellmarketModel" "CellmarketModel" "editEvent" "[I" ∈ hs_ws := hs_w 1274 (by decide +kernel) rfl
theorem kw_1276 : Cond.laysFinal "CellmarketModel" "CellmarketModel" "editFrom" "[I" ∈ hs_ws := hs_w 1276 (by decide +kernel) rfl
theorem kw_1278 : Cond.laysFinal "CellmarketModel" "CellmarketModel" "editSize" "[I" ∈ hs_ws := hs_w 1278 (by decide +kernel) rfl
theorem kw_1280 : Cond.laysFinal "CellmarketModel" "CellmarketModel" "isEditStruck" "[Z" ∈ hs_ws := hs_w 1280 (by decide +kernel) rfl
theorem kw_1282 : Cond.laysFinal "CellmarketModel" "CellmarketModel" "editWords" "[I" ∈ hs_ws := hs_w 1282 (by decide +kernel) rfl
theorem kw_1284 : Cond.laysFinal "CellmarketModel" "CellmarketModel" "notice" "[I" ∈ hs_ws := hs_w 1284 (by decide +kernel) rfl
theorem kw_1286 : Cond.laysFinal "CellmarketModel" "CellmarketModel" "byShares" "[Z" ∈ hs_ws := hs_w 1286 (by decide +kernel) rfl
theorem kw_1288 : Cond.laysFinal "CellmarketModel" "CellmarketModel" "frozen" "[I" ∈ hs_ws := hs_w 1288 (by decide +kernel) rfl
theorem kw_1290 : Cond.laysFinal "CellmarketModel" "CellmarketModel" "frozenByShares" "[Z" ∈ hs_ws := hs_w 1290 (by decide +kernel) rfl
theorem kw_1292 : Cond.lays "CellmarketModel" "CellmarketModel" "bids" "I" ∈ hs_ws := hs_w 1292 (by decide +kernel) rfl
theorem kw_1294 : Cond.laysFinal "CellmarketModel" "CellmarketModel" "bidOwner" "[I" ∈ hs_ws := hs_w 1294 (by decide +kernel) rfl
theorem kw_1296 : Cond.laysFinal "CellmarketModel" "CellmarketModel" "bidColumn" "[I" ∈ hs_ws := hs_w 1296 (by decide +kernel) rfl
theorem kw_1298 : Cond.laysFinal "CellmarketModel" "CellmarketModel" "isBuy" "[Z" ∈ hs_ws := hs_w 1298 (by decide +kernel) rfl
theorem kw_1300 : Cond.laysFinal "CellmarketModel" "CellmarketModel" "many" "[I" ∈ hs_ws := hs_w 1300 (by decide +kernel) rfl
theorem kw_1302 : Cond.laysFinal "CellmarketModel" "CellmarketModel" "limit" "[I" ∈ hs_ws := hs_w 1302 (by decide +kernel) rfl
theorem kw_1304 : Cond.laysFinal "CellmarketModel" "CellmarketModel" "bidEvent" "[I" ∈ hs_ws := hs_w 1304 (by decide +kernel) rfl
theorem kw_1306 : Cond.laysFinal "CellmarketModel" "CellmarketModel" "withdrawn" "[I" ∈ hs_ws := hs_w 1306 (by decide +kernel) rfl
theorem kw_1308 : Cond.laysFinal "CellmarketModel" "CellmarketModel" "bidRound" "[I" ∈ hs_ws := hs_w 1308 (by decide +kernel) rfl
theorem kw_1310 : Cond.laysFinal "CellmarketModel" "CellmarketModel" "isBidStruck" "[Z" ∈ hs_ws := hs_w 1310 (by decide +kernel) rfl
theorem kw_1312 : Cond.laysFinal "CellmarketModel" "CellmarketModel" "got" "[I" ∈ hs_ws := hs_w 1312 (by decide +kernel) rfl
theorem kw_1314 : Cond.laysFinal "CellmarketModel" "CellmarketModel" "gotBefore" "[I" ∈ hs_ws := hs_w 1314 (by decide +kernel) rfl
theorem kw_1316 : Cond.lays "CellmarketModel" "CellmarketModel" "rounds" "I" ∈ hs_ws := hs_w 1316 (by decide +kernel) rfl
theorem kw_1318 : Cond.laysFinal "CellmarketModel" "CellmarketModel" "roundColumn" "[I" ∈ hs_ws := hs_w 1318 (by decide +kernel) rfl
theorem kw_1320 : Cond.laysFinal "CellmarketModel" "CellmarketModel" "roundFrozen" "[I" ∈ hs_ws := hs_w 1320 (by decide +kernel) rfl
theorem kw_1322 : Cond.laysFinal "CellmarketModel" "CellmarketModel" "roundCleared" "[I" ∈ hs_ws := hs_w 1322 (by decide +kernel) rfl
theorem kw_1324 : Cond.laysFinal "CellmarketModel" "CellmarketModel" "roundShares" "[Z" ∈ hs_ws := hs_w 1324 (by decide +kernel) rfl
theorem kw_1326 : Cond.laysFinal "CellmarketModel" "CellmarketModel" "price" "[I" ∈ hs_ws := hs_w 1326 (by decide +kernel) rfl
theorem kw_1328 : Cond.laysFinal "CellmarketModel" "CellmarketModel" "volume" "[I" ∈ hs_ws := hs_w 1328 (by decide +kernel) rfl
theorem kw_1330 : Cond.laysFinal "CellmarketModel" "CellmarketModel" "fee" "[I" ∈ hs_ws := hs_w 1330 (by decide +kernel) rfl
theorem kw_1332 : Cond.laysFinal "CellmarketModel" "CellmarketModel" "why" "[I" ∈ hs_ws := hs_w 1332 (by decide +kernel) rfl
theorem kw_1334 : Cond.laysFinal "CellmarketModel" "CellmarketModel" "before" "[I" ∈ hs_ws := hs_w 1334 (by decide +kernel) rfl
theorem kw_1336 : Cond.laysFinal "CellmarketModel" "CellmarketModel" "settled" "[J" ∈ hs_ws := hs_w 1336 (by decide +kernel) rfl
theorem kw_1338 : Cond.laysFinal "CellmarketModel" "CellmarketModel" "cash" "[I" ∈ hs_ws := hs_w 1338 (by decide +kernel) rfl
theorem kw_1340 : Cond.laysFinal "CellmarketModel" "CellmarketModel" "bound" "[I" ∈ hs_ws := hs_w 1340 (by decide +kernel) rfl
theorem kw_1342 : Cond.laysFinal "CellmarketModel" "CellmarketModel" "path" "[I" ∈ hs_ws := hs_w 1342 (by decide +kernel) rfl
theorem kw_1344 : Cond.laysFinal "CellmarketModel" "CellmarketModel" "pathAt" "[I" ∈ hs_ws := hs_w 1344 (by decide +kernel) rfl
theorem kw_1346 : Cond.laysFinal "CellmarketModel" "CellmarketModel" "pathBase" "[I" ∈ hs_ws := hs_w 1346 (by decide +kernel) rfl
theorem kw_1348 : Cond.laysFinal "CellmarketModel" "CellmarketModel" "pathEdit" "[I" ∈ hs_ws := hs_w 1348 (by decide +kernel) rfl
theorem kw_1350 : Cond.lays "CellmarketModel" "CellmarketModel" "depth" "I" ∈ hs_ws := hs_w 1350 (by decide +kernel) rfl
theorem kw_1352 : Cond.laysFinal "CellmarketModel" "CellmarketModel" "pile" "[I" ∈ hs_ws := hs_w 1352 (by decide +kernel) rfl
theorem kw_1354 : Cond.lays "CellmarketModel" "CellmarketModel" "top" "I" ∈ hs_ws := hs_w 1354 (by decide +kernel) rfl
theorem kw_1356 : Cond.laysFinal "CellmarketModel" "CellmarketModel" "isFound" "[Z" ∈ hs_ws := hs_w 1356 (by decide +kernel) rfl
theorem kw_1358 : Cond.laysFinal "CellmarketModel" "CellmarketModel" "foundValue" "[I" ∈ hs_ws := hs_w 1358 (by decide +kernel) rfl
theorem kw_1360 : Cond.lays "CellmarketModel" "CellmarketModel" "fault" "I" ∈ hs_ws := hs_w 1360 (by decide +kernel) rfl
theorem kw_1362 : Cond.lays "CellmarketModel" "CellmarketModel" "thrown" "I" ∈ hs_ws := hs_w 1362 (by decide +kernel) rfl
theorem kw_1384 : Cond.methodLink "CellmarketModel" 170 yX11_ownerAt ∈ hs_ws := hs_w 1384 (by decide +kernel) rfl
theorem kw_1386 : Cond.instanceMethod yX11_ownerAt ∈ hs_ws := hs_w 1386 (by decide +kernel) rfl
theorem kw_1387 : Cond.code yX11_ownerAt cX11_ownerAt 5 (some FieldType.int) ∈ hs_ws := hs_w 1387 (by decide +kernel) rfl
theorem kw_1408 : Cond.methodLink "CellmarketModel" 196 yX11_readsAt ∈ hs_ws := hs_w 1408 (by decide +kernel) rfl
theorem kw_1410 : Cond.instanceMethod yX11_readsAt ∈ hs_ws := hs_w 1410 (by decide +kernel) rfl
theorem kw_1411 : Cond.code yX11_readsAt cX11_readsAt 7 (some FieldType.boolean) ∈ hs_ws := hs_w 1411 (by decide +kernel) rfl
theorem kw_1425 : Cond.methodLink "CellmarketModel" 203 yX11_takes ∈ hs_ws := hs_w 1425 (by decide +kernel) rfl
theorem kw_1426 : Cond.static yX11_takes ∈ hs_ws := hs_w 1426 (by decide +kernel) rfl
theorem kw_1427 : Cond.code yX11_takes cX11_takes 1 (some FieldType.int) ∈ hs_ws := hs_w 1427 (by decide +kernel) rfl
theorem kw_1456 : Cond.methodLink "CellmarketModel" 275 yX11_valueAt ∈ hs_ws := hs_w 1456 (by decide +kernel) rfl
theorem kw_1458 : Cond.instanceMethod yX11_valueAt ∈ hs_ws := hs_w 1458 (by decide +kernel) rfl
theorem kw_1459 : Cond.code yX11_valueAt cX11_valueAt 5 (some FieldType.int) ∈ hs_ws := hs_w 1459 (by decide +kernel) rfl
theorem kw_1460 : Cond.methodLink "CellmarketModel" 237 yX11_starts ∈ hs_ws := hs_w 1460 (by decide +kernel) rfl
theorem kw_1462 : Cond.instanceMethod yX11_starts ∈ hs_ws := hs_w 1462 (by decide +kernel) rfl
theorem kw_1463 : Cond.code yX11_starts cX11_starts 3 none ∈ hs_ws := hs_w 1463 (by decide +kernel) rfl
theorem kw_1464 : Cond.methodLink "CellmarketModel" 228 yX11_isEmptyAt ∈ hs_ws := hs_w 1464 (by decide +kernel) rfl
theorem kw_1466 : Cond.instanceMethod yX11_isEmptyAt ∈ hs_ws := hs_w 1466 (by decide +kernel) rfl
theorem kw_1467 : Cond.code yX11_isEmptyAt cX11_isEmptyAt 4 (some FieldType.boolean) ∈ hs_ws := hs_w 1467 (by decide +kernel) rfl
theorem kw_1468 : Cond.methodLink "CellmarketModel" 222 yX11_editAt ∈ hs_ws := hs_w 1468 (by decide +kernel) rfl
theorem kw_1470 : Cond.instanceMethod yX11_editAt ∈ hs_ws := hs_w 1470 (by decide +kernel) rfl
theorem kw_1471 : Cond.code yX11_editAt cX11_editAt 5 (some FieldType.int) ∈ hs_ws := hs_w 1471 (by decide +kernel) rfl
theorem kw_1472 : Cond.methodLink "CellmarketModel" 241 yX11_goes ∈ hs_ws := hs_w 1472 (by decide +kernel) rfl
theorem kw_1474 : Cond.instanceMethod yX11_goes ∈ hs_ws := hs_w 1474 (by decide +kernel) rfl
theorem kw_1475 : Cond.code yX11_goes cX11_goes 7 none ∈ hs_ws := hs_w 1475 (by decide +kernel) rfl
theorem kw_1476 : Cond.methodLink "CellmarketModel" 245 yX11_isFinding ∈ hs_ws := hs_w 1476 (by decide +kernel) rfl
theorem kw_1478 : Cond.instanceMethod yX11_isFinding ∈ hs_ws := hs_w 1478 (by decide +kernel) rfl
theorem kw_1479 : Cond.code yX11_isFinding cX11_isFinding 4 (some FieldType.boolean) ∈ hs_ws := hs_w 1479 (by decide +kernel) rfl
theorem kw_1480 : Cond.methodLink "CellmarketModel" 248 yX11_puts ∈ hs_ws := hs_w 1480 (by decide +kernel) rfl
theorem kw_1482 : Cond.instanceMethod yX11_puts ∈ hs_ws := hs_w 1482 (by decide +kernel) rfl
theorem kw_1483 : Cond.code yX11_puts cX11_puts 3 none ∈ hs_ws := hs_w 1483 (by decide +kernel) rfl
theorem kw_1484 : Cond.constantLong "CellmarketModel" 262 (-1000000000) ∈ hs_ws := hs_w 1484 (by decide +kernel) rfl
theorem kw_1485 : Cond.constantLong "CellmarketModel" 264 1000000000 ∈ hs_ws := hs_w 1485 (by decide +kernel) rfl
theorem kw_1486 : Cond.methodLink "CellmarketModel" 252 yX11_lastAt ∈ hs_ws := hs_w 1486 (by decide +kernel) rfl
theorem kw_1488 : Cond.instanceMethod yX11_lastAt ∈ hs_ws := hs_w 1488 (by decide +kernel) rfl
theorem kw_1489 : Cond.code yX11_lastAt cX11_lastAt 5 (some FieldType.int) ∈ hs_ws := hs_w 1489 (by decide +kernel) rfl
theorem kw_1490 : Cond.methodLink "CellmarketModel" 255 yX11_bidsAt ∈ hs_ws := hs_w 1490 (by decide +kernel) rfl
theorem kw_1492 : Cond.instanceMethod yX11_bidsAt ∈ hs_ws := hs_w 1492 (by decide +kernel) rfl
theorem kw_1493 : Cond.code yX11_bidsAt cX11_bidsAt 10 (some FieldType.int) ∈ hs_ws := hs_w 1493 (by decide +kernel) rfl
theorem kw_1494 : Cond.methodLink "CellmarketModel" 272 yX11_isThere ∈ hs_ws := hs_w 1494 (by decide +kernel) rfl
theorem kw_1496 : Cond.instanceMethod yX11_isThere ∈ hs_ws := hs_w 1496 (by decide +kernel) rfl
theorem kw_1497 : Cond.code yX11_isThere cX11_isThere 5 (some FieldType.boolean) ∈ hs_ws := hs_w 1497 (by decide +kernel) rfl
theorem kw_1498 : Cond.methodLink "CellmarketModel" 258 yX11_reckons ∈ hs_ws := hs_w 1498 (by decide +kernel) rfl
theorem kw_1500 : Cond.instanceMethod yX11_reckons ∈ hs_ws := hs_w 1500 (by decide +kernel) rfl
theorem kw_1501 : Cond.code yX11_reckons cX11_reckons 6 none ∈ hs_ws := hs_w 1501 (by decide +kernel) rfl
theorem kw_1526 : Cond.methodLink "CellmarketModel" 297 yX11_dueOf ∈ hs_ws := hs_w 1526 (by decide +kernel) rfl
theorem kw_1528 : Cond.instanceMethod yX11_dueOf ∈ hs_ws := hs_w 1528 (by decide +kernel) rfl
theorem kw_1529 : Cond.code yX11_dueOf cX11_dueOf 8 (some FieldType.long) ∈ hs_ws := hs_w 1529 (by decide +kernel) rfl
theorem kw_1530 : Cond.methodLink "CellmarketModel" 285 yX11_feesOf ∈ hs_ws := hs_w 1530 (by decide +kernel) rfl
theorem kw_1532 : Cond.instanceMethod yX11_feesOf ∈ hs_ws := hs_w 1532 (by decide +kernel) rfl
theorem kw_1533 : Cond.code yX11_feesOf cX11_feesOf 5 (some FieldType.long) ∈ hs_ws := hs_w 1533 (by decide +kernel) rfl
theorem kw_1534 : Cond.methodLink "CellmarketModel" 292 yX11_feeOf ∈ hs_ws := hs_w 1534 (by decide +kernel) rfl
theorem kw_1536 : Cond.instanceMethod yX11_feeOf ∈ hs_ws := hs_w 1536 (by decide +kernel) rfl
theorem kw_1537 : Cond.code yX11_feeOf cX11_feeOf 2 (some FieldType.long) ∈ hs_ws := hs_w 1537 (by decide +kernel) rfl
theorem kw_1538 : Cond.methodLink "CellmarketModel" 289 yX11_costOf ∈ hs_ws := hs_w 1538 (by decide +kernel) rfl
theorem kw_1540 : Cond.instanceMethod yX11_costOf ∈ hs_ws := hs_w 1540 (by decide +kernel) rfl
theorem kw_1541 : Cond.code yX11_costOf cX11_costOf 2 (some FieldType.long) ∈ hs_ws := hs_w 1541 (by decide +kernel) rfl
theorem kw_1542 : Cond.constantLong "CellmarketModel" 295 1000 ∈ hs_ws := hs_w 1542 (by decide +kernel) rfl
theorem kw_1563 : Cond.methodLink "CellmarketModel" 313 yX11_sumOf ∈ hs_ws := hs_w 1563 (by decide +kernel) rfl
theorem kw_1565 : Cond.instanceMethod yX11_sumOf ∈ hs_ws := hs_w 1565 (by decide +kernel) rfl
theorem kw_1566 : Cond.code yX11_sumOf cX11_sumOf 5 (some FieldType.int) ∈ hs_ws := hs_w 1566 (by decide +kernel) rfl
theorem kw_1567 : Cond.methodLink "CellmarketModel" 310 yX11_takesPart ∈ hs_ws := hs_w 1567 (by decide +kernel) rfl
theorem kw_1569 : Cond.instanceMethod yX11_takesPart ∈ hs_ws := hs_w 1569 (by decide +kernel) rfl
theorem kw_1570 : Cond.code yX11_takesPart cX11_takesPart 3 (some FieldType.boolean) ∈ hs_ws := hs_w 1570 (by decide +kernel) rfl
theorem kw_1571 : Cond.methodLink "CellmarketModel" 317 yX11_shares ∈ hs_ws := hs_w 1571 (by decide +kernel) rfl
theorem kw_1573 : Cond.instanceMethod yX11_shares ∈ hs_ws := hs_w 1573 (by decide +kernel) rfl
theorem kw_1574 : Cond.code yX11_shares cX11_shares 13 none ∈ hs_ws := hs_w 1574 (by decide +kernel) rfl
theorem kw_1575 : Cond.methodLink "CellmarketModel" 321 yX11_isAhead ∈ hs_ws := hs_w 1575 (by decide +kernel) rfl
theorem kw_1577 : Cond.instanceMethod yX11_isAhead ∈ hs_ws := hs_w 1577 (by decide +kernel) rfl
theorem kw_1578 : Cond.code yX11_isAhead cX11_isAhead 5 (some FieldType.boolean) ∈ hs_ws := hs_w 1578 (by decide +kernel) rfl
theorem kw_1603 : Cond.methodLink "CellmarketModel" 329 yX11_down ∈ hs_ws := hs_w 1603 (by decide +kernel) rfl
theorem kw_1604 : Cond.static yX11_down ∈ hs_ws := hs_w 1604 (by decide +kernel) rfl
theorem kw_1605 : Cond.code yX11_down cX11_down 2 (some FieldType.long) ∈ hs_ws := hs_w 1605 (by decide +kernel) rfl
theorem kw_1606 : Cond.constantLong "CellmarketModel" 325 10 ∈ hs_ws := hs_w 1606 (by decide +kernel) rfl
theorem kw_1607 : Cond.constantLong "CellmarketModel" 327 9 ∈ hs_ws := hs_w 1607 (by decide +kernel) rfl
theorem hk_0 : hs_k 0 = (1, (0, 10)) := rfl
theorem hc_0 : hs_cl0[0]? = some (RX0, TX0, 10) := rfl
theorem i_0 : ∀ w ∈ u_ws RX0 TX0 10, w ∈ hs_ws := List.forall_mem_cons.mpr ⟨kw_942, List.forall_mem_cons.mpr ⟨kw_944, List.forall_mem_cons.mpr ⟨kw_946, List.forall_mem_cons.mpr ⟨kw_948, List.forall_mem_cons.mpr ⟨kw_950, List.forall_mem_cons.mpr ⟨kw_952, List.forall_mem_cons.mpr ⟨kw_954, List.forall_mem_cons.mpr ⟨kw_956, List.forall_mem_cons.mpr ⟨kw_958, List.forall_mem_cons.mpr ⟨kw_960, fun _ h => nomatch h⟩⟩⟩⟩⟩⟩⟩⟩⟩⟩
theorem dv_0 : ∀ j, j < 10 → defaultValue (tyX0 j) = hs_dv 0 j := by decide +kernel
theorem hk_1 : hs_k 1 = (1, (1, 4)) := rfl
theorem hc_1 : hs_cl0[1]? = some (RX1, TX1, 4) := rfl
theorem i_1 : ∀ w ∈ u_ws RX1 TX1 4, w ∈ hs_ws := List.forall_mem_cons.mpr ⟨kw_270, List.forall_mem_cons.mpr ⟨kw_272, List.forall_mem_cons.mpr ⟨kw_274, List.forall_mem_cons.mpr ⟨kw_276, fun _ h => nomatch h⟩⟩⟩⟩
theorem dv_1 : ∀ j, j < 4 → defaultValue (tyX1 j) = hs_dv 1 j := by decide +kernel
theorem hk_2 : hs_k 2 = (1, (2, 2)) := rfl
theorem hc_2 : hs_cl0[2]? = some (RX2, TX2, 2) := rfl
theorem i_2 : ∀ w ∈ u_ws RX2 TX2 2, w ∈ hs_ws := List.forall_mem_cons.mpr ⟨kw_328, List.forall_mem_cons.mpr ⟨kw_330, fun _ h => nomatch h⟩⟩
theorem dv_2 : ∀ j, j < 2 → defaultValue (tyX2 j) = hs_dv 2 j := by decide +kernel
theorem hk_3 : hs_k 3 = (1, (3, 7)) := rfl
theorem hc_3 : hs_cl0[3]? = some (RX3, TX3, 7) := rfl
theorem i_3 : ∀ w ∈ u_ws RX3 TX3 7, w ∈ hs_ws := List.forall_mem_cons.mpr ⟨kw_631, List.forall_mem_cons.mpr ⟨kw_633, List.forall_mem_cons.mpr ⟨kw_635, List.forall_mem_cons.mpr ⟨kw_637, List.forall_mem_cons.mpr ⟨kw_639, List.forall_mem_cons.mpr ⟨kw_641, List.forall_mem_cons.mpr ⟨kw_643, fun _ h => nomatch h⟩⟩⟩⟩⟩⟩⟩
theorem dv_3 : ∀ j, j < 7 → defaultValue (tyX3 j) = hs_dv 3 j := by decide +kernel
theorem hk_4 : hs_k 4 = (1, (4, 10)) := rfl
theorem hc_4 : hs_cl0[4]? = some (RX4, TX4, 10) := rfl
theorem i_4 : ∀ w ∈ u_ws RX4 TX4 10, w ∈ hs_ws := List.forall_mem_cons.mpr ⟨kw_299, List.forall_mem_cons.mpr ⟨kw_301, List.forall_mem_cons.mpr ⟨kw_303, List.forall_mem_cons.mpr ⟨kw_305, List.forall_mem_cons.mpr ⟨kw_307, List.forall_mem_cons.mpr ⟨kw_309, List.forall_mem_cons.mpr ⟨kw_311, List.forall_mem_cons.mpr ⟨kw_313, List.forall_mem_cons.mpr ⟨kw_315, List.forall_mem_cons.mpr ⟨kw_317, fun _ h => nomatch h⟩⟩⟩⟩⟩⟩⟩⟩⟩⟩
theorem dv_4 : ∀ j, j < 10 → defaultValue (tyX4 j) = hs_dv 4 j := by decide +kernel
theorem hk_5 : hs_k 5 = (1, (5, 5)) := rfl
theorem hc_5 : hs_cl0[5]? = some (RX5, TX5, 5) := rfl
theorem i_5 : ∀ w ∈ u_ws RX5 TX5 5, w ∈ hs_ws := List.forall_mem_cons.mpr ⟨kw_155, List.forall_mem_cons.mpr ⟨kw_157, List.forall_mem_cons.mpr ⟨kw_159, List.forall_mem_cons.mpr ⟨kw_161, List.forall_mem_cons.mpr ⟨kw_163, fun _ h => nomatch h⟩⟩⟩⟩⟩
theorem dv_5 : ∀ j, j < 5 → defaultValue (tyX5 j) = hs_dv 5 j := by decide +kernel
theorem hk_6 : hs_k 6 = (1, (6, 6)) := rfl
theorem hc_6 : hs_cl0[6]? = some (RX6, TX6, 6) := rfl
theorem i_6 : ∀ w ∈ u_ws RX6 TX6 6, w ∈ hs_ws := List.forall_mem_cons.mpr ⟨kw_348, List.forall_mem_cons.mpr ⟨kw_350, List.forall_mem_cons.mpr ⟨kw_352, List.forall_mem_cons.mpr ⟨kw_354, List.forall_mem_cons.mpr ⟨kw_356, List.forall_mem_cons.mpr ⟨kw_358, fun _ h => nomatch h⟩⟩⟩⟩⟩⟩
theorem dv_6 : ∀ j, j < 6 → defaultValue (tyX6 j) = hs_dv 6 j := by decide +kernel
theorem hk_7 : hs_k 7 = (1, (7, 2)) := rfl
theorem hc_7 : hs_cl0[7]? = some (RX7, TX7, 2) := rfl
theorem i_7 : ∀ w ∈ u_ws RX7 TX7 2, w ∈ hs_ws := List.forall_mem_cons.mpr ⟨kw_106, List.forall_mem_cons.mpr ⟨kw_108, fun _ h => nomatch h⟩⟩
theorem dv_7 : ∀ j, j < 2 → defaultValue (tyX7 j) = hs_dv 7 j := by decide +kernel
theorem hk_8 : hs_k 8 = (1, (8, 9)) := rfl
theorem hc_8 : hs_cl0[8]? = some (RX8, TX8, 9) := rfl
theorem i_8 : ∀ w ∈ u_ws RX8 TX8 9, w ∈ hs_ws := List.forall_mem_cons.mpr ⟨kw_238, List.forall_mem_cons.mpr ⟨kw_240, List.forall_mem_cons.mpr ⟨kw_242, List.forall_mem_cons.mpr ⟨kw_244, List.forall_mem_cons.mpr ⟨kw_246, List.forall_mem_cons.mpr ⟨kw_248, List.forall_mem_cons.mpr ⟨kw_250, List.forall_mem_cons.mpr ⟨kw_252, List.forall_mem_cons.mpr ⟨kw_254, fun _ h => nomatch h⟩⟩⟩⟩⟩⟩⟩⟩⟩
theorem dv_8 : ∀ j, j < 9 → defaultValue (tyX8 j) = hs_dv 8 j := by decide +kernel
theorem hk_9 : hs_k 9 = (1, (9, 5)) := rfl
theorem hc_9 : hs_cl0[9]? = some (RX9, TX9, 5) := rfl
theorem i_9 : ∀ w ∈ u_ws RX9 TX9 5, w ∈ hs_ws := List.forall_mem_cons.mpr ⟨kw_179, List.forall_mem_cons.mpr ⟨kw_181, List.forall_mem_cons.mpr ⟨kw_183, List.forall_mem_cons.mpr ⟨kw_185, List.forall_mem_cons.mpr ⟨kw_187, fun _ h => nomatch h⟩⟩⟩⟩⟩
theorem dv_9 : ∀ j, j < 5 → defaultValue (tyX9 j) = hs_dv 9 j := by decide +kernel
theorem hk_10 : hs_k 10 = (1, (10, 6)) := rfl
theorem hc_10 : hs_cl0[10]? = some (RX10, TX10, 6) := rfl
theorem i_10 : ∀ w ∈ u_ws RX10 TX10 6, w ∈ hs_ws := List.forall_mem_cons.mpr ⟨kw_367, List.forall_mem_cons.mpr ⟨kw_369, List.forall_mem_cons.mpr ⟨kw_371, List.forall_mem_cons.mpr ⟨kw_373, List.forall_mem_cons.mpr ⟨kw_375, List.forall_mem_cons.mpr ⟨kw_377, fun _ h => nomatch h⟩⟩⟩⟩⟩⟩
theorem dv_10 : ∀ j, j < 6 → defaultValue (tyX10 j) = hs_dv 10 j := by decide +kernel
theorem hk_11 : hs_k 11 = (1, (11, 60)) := rfl
theorem hc_11 : hs_cl0[11]? = some (RX11, TX11, 60) := rfl
theorem i_11 : ∀ w ∈ u_ws RX11 TX11 60, w ∈ hs_ws := List.forall_mem_cons.mpr ⟨kw_1244, List.forall_mem_cons.mpr ⟨kw_1246, List.forall_mem_cons.mpr ⟨kw_1248, List.forall_mem_cons.mpr ⟨kw_1250, List.forall_mem_cons.mpr ⟨kw_1252, List.forall_mem_cons.mpr ⟨kw_1254, List.forall_mem_cons.mpr ⟨kw_1256, List.forall_mem_cons.mpr ⟨kw_1258, List.forall_mem_cons.mpr ⟨kw_1260, List.forall_mem_cons.mpr ⟨kw_1262, List.forall_mem_cons.mpr ⟨kw_1264, List.forall_mem_cons.mpr ⟨kw_1266, List.forall_mem_cons.mpr ⟨kw_1268, List.forall_mem_cons.mpr ⟨kw_1270, List.forall_mem_cons.mpr ⟨kw_1272, List.forall_mem_cons.mpr ⟨kw_1274, List.forall_mem_cons.mpr ⟨kw_1276, List.forall_mem_cons.mpr ⟨kw_1278, List.forall_mem_cons.mpr ⟨kw_1280, List.forall_mem_cons.mpr ⟨kw_1282, List.forall_mem_cons.mpr ⟨kw_1284, List.forall_mem_cons.mpr ⟨kw_1286, List.forall_mem_cons.mpr ⟨kw_1288, List.forall_mem_cons.mpr ⟨kw_1290, List.forall_mem_cons.mpr ⟨kw_1292, List.forall_mem_cons.mpr ⟨kw_1294, List.forall_mem_cons.mpr ⟨kw_1296, List.forall_mem_cons.mpr ⟨kw_1298, List.forall_mem_cons.mpr ⟨kw_1300, List.forall_mem_cons.mpr ⟨kw_1302, List.forall_mem_cons.mpr ⟨kw_1304, List.forall_mem_cons.mpr ⟨kw_1306, List.forall_mem_cons.mpr ⟨kw_1308, List.forall_mem_cons.mpr ⟨kw_1310, List.forall_mem_cons.mpr ⟨kw_1312, List.forall_mem_cons.mpr ⟨kw_1314, List.forall_mem_cons.mpr ⟨kw_1316, List.forall_mem_cons.mpr ⟨kw_1318, List.forall_mem_cons.mpr ⟨kw_1320, List.forall_mem_cons.mpr ⟨kw_1322, List.forall_mem_cons.mpr ⟨kw_1324, List.forall_mem_cons.mpr ⟨kw_1326, List.forall_mem_cons.mpr ⟨kw_1328, List.forall_mem_cons.mpr ⟨kw_1330, List.forall_mem_cons.mpr ⟨kw_1332, List.forall_mem_cons.mpr ⟨kw_1334, List.forall_mem_cons.mpr ⟨kw_1336, List.forall_mem_cons.mpr ⟨kw_1338, List.forall_mem_cons.mpr ⟨kw_1340, List.forall_mem_cons.mpr ⟨kw_1342, List.forall_mem_cons.mpr ⟨kw_1344, List.forall_mem_cons.mpr ⟨kw_1346, List.forall_mem_cons.mpr ⟨kw_1348, List.forall_mem_cons.mpr ⟨kw_1350, List.forall_mem_cons.mpr ⟨kw_1352, List.forall_mem_cons.mpr ⟨kw_1354, List.forall_mem_cons.mpr ⟨kw_1356, List.forall_mem_cons.mpr ⟨kw_1358, List.forall_mem_cons.mpr ⟨kw_1360, List.forall_mem_cons.mpr ⟨kw_1362, fun _ h => nomatch h⟩⟩⟩⟩⟩⟩⟩⟩⟩⟩⟩⟩⟩⟩⟩⟩⟩⟩⟩⟩⟩⟩⟩⟩⟩⟩⟩⟩⟩⟩⟩⟩⟩⟩⟩⟩⟩⟩⟩⟩⟩⟩⟩⟩⟩⟩⟩⟩⟩⟩⟩⟩⟩⟩⟩⟩⟩⟩⟩⟩
theorem dv_11 : ∀ j, j < 60 → defaultValue (tyX11 j) = hs_dv 11 j := by decide +kernel
theorem hk_12 : hs_k 12 = (6, (3, 0)) := rfl
theorem hk_13 : hs_k 13 = (6, (0, 0)) := rfl
theorem hk_14 : hs_k 14 = (6, (8, 0)) := rfl
theorem hk_15 : hs_k 15 = (7, (0, 0)) := rfl
theorem hk_16 : hs_k 16 = (7, (0, 0)) := rfl
theorem hk_17 : hs_k 17 = (7, (0, 0)) := rfl
theorem hk_20 : hs_k 20 = (2, (24, 0)) := rfl
theorem hk_21 : hs_k 21 = (2, (24, 0)) := rfl
theorem hk_22 : hs_k 22 = (2, (12, 0)) := rfl
theorem hk_23 : hs_k 23 = (2, (12, 0)) := rfl
theorem hk_24 : hs_k 24 = (2, (12, 0)) := rfl
theorem hk_25 : hs_k 25 = (2, (4, 0)) := rfl
theorem hk_26 : hs_k 26 = (5, (4, 8)) := rfl
theorem hk_27 : hs_k 27 = (3, (4, 0)) := rfl
theorem hk_28 : hs_k 28 = (5, (24, 5)) := rfl
theorem hk_29 : hs_k 29 = (2, (24, 0)) := rfl
theorem hk_30 : hs_k 30 = (2, (24, 0)) := rfl
theorem hk_31 : hs_k 31 = (2, (24, 0)) := rfl
theorem hk_32 : hs_k 32 = (5, (8, 33)) := rfl
theorem hk_33 : hs_k 33 = (2, (4, 0)) := rfl
theorem hk_34 : hs_k 34 = (2, (291, 0)) := rfl
theorem hk_35 : hs_k 35 = (2, (24, 0)) := rfl
theorem hk_36 : hs_k 36 = (2, (6, 0)) := rfl
theorem hk_37 : hs_k 37 = (2, (6, 0)) := rfl
theorem hk_38 : hs_k 38 = (2, (6, 0)) := rfl
theorem hk_39 : hs_k 39 = (2, (6, 0)) := rfl
theorem hk_42 : hs_k 42 = (2, (1200, 0)) := rfl
theorem hk_43 : hs_k 43 = (2, (1200, 0)) := rfl
theorem hk_44 : hs_k 44 = (2, (1200, 0)) := rfl
theorem hk_46 : hs_k 46 = (2, (1200, 0)) := rfl
theorem hk_47 : hs_k 47 = (2, (1200, 0)) := rfl
theorem hk_48 : hs_k 48 = (2, (1200, 0)) := rfl
theorem hk_49 : hs_k 49 = (2, (1200, 0)) := rfl
theorem hk_51 : hs_k 51 = (2, (36, 0)) := rfl
theorem hk_53 : hs_k 53 = (2, (60, 0)) := rfl
theorem hk_54 : hs_k 54 = (2, (60, 0)) := rfl
theorem hk_55 : hs_k 55 = (2, (60, 0)) := rfl
theorem hk_56 : hs_k 56 = (2, (60, 0)) := rfl
theorem hk_57 : hs_k 57 = (2, (60, 0)) := rfl
theorem hk_58 : hs_k 58 = (3, (60, 0)) := rfl
theorem hk_59 : hs_k 59 = (2, (2160, 0)) := rfl
theorem hk_60 : hs_k 60 = (2, (4, 0)) := rfl
theorem hk_61 : hs_k 61 = (3, (4, 0)) := rfl
theorem hk_62 : hs_k 62 = (2, (4, 0)) := rfl
theorem hk_63 : hs_k 63 = (3, (4, 0)) := rfl
theorem hk_65 : hs_k 65 = (2, (80, 0)) := rfl
theorem hk_66 : hs_k 66 = (2, (80, 0)) := rfl
theorem hk_67 : hs_k 67 = (3, (80, 0)) := rfl
theorem hk_68 : hs_k 68 = (2, (80, 0)) := rfl
theorem hk_69 : hs_k 69 = (2, (80, 0)) := rfl
theorem hk_70 : hs_k 70 = (2, (80, 0)) := rfl
theorem hk_71 : hs_k 71 = (2, (80, 0)) := rfl
theorem hk_72 : hs_k 72 = (2, (80, 0)) := rfl
theorem hk_73 : hs_k 73 = (3, (80, 0)) := rfl
theorem hk_74 : hs_k 74 = (2, (80, 0)) := rfl
theorem hk_75 : hs_k 75 = (2, (80, 0)) := rfl
theorem hk_77 : hs_k 77 = (2, (30, 0)) := rfl
theorem hk_78 : hs_k 78 = (2, (30, 0)) := rfl
theorem hk_79 : hs_k 79 = (2, (30, 0)) := rfl
theorem hk_80 : hs_k 80 = (3, (30, 0)) := rfl
theorem hk_81 : hs_k 81 = (2, (30, 0)) := rfl
theorem hk_82 : hs_k 82 = (2, (30, 0)) := rfl
theorem hk_83 : hs_k 83 = (2, (30, 0)) := rfl
theorem hk_84 : hs_k 84 = (2, (30, 0)) := rfl
theorem hk_85 : hs_k 85 = (2, (90, 0)) := rfl
theorem hk_86 : hs_k 86 = (4, (24, 0)) := rfl
theorem hk_87 : hs_k 87 = (2, (6, 0)) := rfl
theorem hk_88 : hs_k 88 = (2, (6, 0)) := rfl
theorem hk_89 : hs_k 89 = (2, (25, 0)) := rfl
theorem hk_90 : hs_k 90 = (2, (25, 0)) := rfl
theorem hk_91 : hs_k 91 = (2, (25, 0)) := rfl
theorem hk_92 : hs_k 92 = (2, (25, 0)) := rfl
theorem hk_94 : hs_k 94 = (2, (320, 0)) := rfl
theorem hk_96 : hs_k 96 = (3, (24, 0)) := rfl
theorem hk_97 : hs_k 97 = (2, (24, 0)) := rfl
theorem hk_100 : hs_k 100 = (4, (1, 0)) := rfl
theorem hk_101 : hs_k 101 = (8, (0, 0)) := rfl
theorem kb10 : (Int8.ofInt 10).toInt32 = 10 := by decide
theorem kb11 : (Int8.ofInt 11).toInt32 = 11 := by decide
theorem kb12 : (Int8.ofInt 12).toInt32 = 12 := by decide
theorem kb14 : (Int8.ofInt 14).toInt32 = 14 := by decide
theorem kb24 : (Int8.ofInt 24).toInt32 = 24 := by decide
theorem kb32 : (Int8.ofInt 32).toInt32 = 32 := by decide
theorem kb36 : (Int8.ofInt 36).toInt32 = 36 := by decide
theorem kb40 : (Int8.ofInt 40).toInt32 = 40 := by decide
theorem kb6 : (Int8.ofInt 6).toInt32 = 6 := by decide
theorem kb7 : (Int8.ofInt 7).toInt32 = 7 := by decide
theorem kb8 : (Int8.ofInt 8).toInt32 = 8 := by decide
theorem kb9 : (Int8.ofInt 9).toInt32 = 9 := by decide
theorem kc0 : Int32.ofInt 0 = 0 := by decide
theorem kc1 : Int32.ofInt 1 = 1 := by decide
theorem kc2 : Int32.ofInt 2 = 2 := by decide
theorem kc3 : Int32.ofInt 3 = 3 := by decide
theorem kc4 : Int32.ofInt 4 = 4 := by decide
theorem kc5 : Int32.ofInt 5 = 5 := by decide
theorem kcm1 : Int32.ofInt (-1) = (-1) := by decide
theorem kl0 : Int64.ofNat ((0 : Fin 2) : Nat) = 0 := by decide
theorem kl1 : Int64.ofNat ((1 : Fin 2) : Nat) = 1 := by decide
theorem ks1000 : (Int16.ofInt 1000).toInt32 = 1000 := by decide
theorem ks256 : (Int16.ofInt 256).toInt32 = 256 := by decide
theorem nd_X11_bidsAt : yX11_bidsAt.cls ≠ "java/lang/invoke/MethodHandle" ∧ yX11_bidsAt.cls ≠ "java/lang/invoke/VarHandle" ∧ (parseMethodDescriptor yX11_bidsAt.desc).map (fun d => d.parameters.length) = some 3 := ⟨by decide +kernel, by decide +kernel, by decide +kernel⟩
theorem nd_X11_costOf : yX11_costOf.cls ≠ "java/lang/invoke/MethodHandle" ∧ yX11_costOf.cls ≠ "java/lang/invoke/VarHandle" ∧ (parseMethodDescriptor yX11_costOf.desc).map (fun d => d.parameters.length) = some 1 := ⟨by decide +kernel, by decide +kernel, by decide +kernel⟩
theorem nd_X11_down : yX11_down.cls ≠ "java/lang/invoke/MethodHandle" ∧ yX11_down.cls ≠ "java/lang/invoke/VarHandle" ∧ (parseMethodDescriptor yX11_down.desc).map (fun d => d.parameters.length) = some 1 := ⟨by decide +kernel, by decide +kernel, by decide +kernel⟩
theorem nd_X11_dueOf : yX11_dueOf.cls ≠ "java/lang/invoke/MethodHandle" ∧ yX11_dueOf.cls ≠ "java/lang/invoke/VarHandle" ∧ (parseMethodDescriptor yX11_dueOf.desc).map (fun d => d.parameters.length) = some 2 := ⟨by decide +kernel, by decide +kernel, by decide +kernel⟩
theorem nd_X11_editAt : yX11_editAt.cls ≠ "java/lang/invoke/MethodHandle" ∧ yX11_editAt.cls ≠ "java/lang/invoke/VarHandle" ∧ (parseMethodDescriptor yX11_editAt.desc).map (fun d => d.parameters.length) = some 2 := ⟨by decide +kernel, by decide +kernel, by decide +kernel⟩
theorem nd_X11_feeOf : yX11_feeOf.cls ≠ "java/lang/invoke/MethodHandle" ∧ yX11_feeOf.cls ≠ "java/lang/invoke/VarHandle" ∧ (parseMethodDescriptor yX11_feeOf.desc).map (fun d => d.parameters.length) = some 1 := ⟨by decide +kernel, by decide +kernel, by decide +kernel⟩
theorem nd_X11_feesOf : yX11_feesOf.cls ≠ "java/lang/invoke/MethodHandle" ∧ yX11_feesOf.cls ≠ "java/lang/invoke/VarHandle" ∧ (parseMethodDescriptor yX11_feesOf.desc).map (fun d => d.parameters.length) = some 1 := ⟨by decide +kernel, by decide +kernel, by decide +kernel⟩
theorem nd_X11_goes : yX11_goes.cls ≠ "java/lang/invoke/MethodHandle" ∧ yX11_goes.cls ≠ "java/lang/invoke/VarHandle" ∧ (parseMethodDescriptor yX11_goes.desc).map (fun d => d.parameters.length) = some 3 := ⟨by decide +kernel, by decide +kernel, by decide +kernel⟩
theorem nd_X11_isAhead : yX11_isAhead.cls ≠ "java/lang/invoke/MethodHandle" ∧ yX11_isAhead.cls ≠ "java/lang/invoke/VarHandle" ∧ (parseMethodDescriptor yX11_isAhead.desc).map (fun d => d.parameters.length) = some 4 := ⟨by decide +kernel, by decide +kernel, by decide +kernel⟩
theorem nd_X11_isEmptyAt : yX11_isEmptyAt.cls ≠ "java/lang/invoke/MethodHandle" ∧ yX11_isEmptyAt.cls ≠ "java/lang/invoke/VarHandle" ∧ (parseMethodDescriptor yX11_isEmptyAt.desc).map (fun d => d.parameters.length) = some 2 := ⟨by decide +kernel, by decide +kernel, by decide +kernel⟩
theorem nd_X11_isFinding : yX11_isFinding.cls ≠ "java/lang/invoke/MethodHandle" ∧ yX11_isFinding.cls ≠ "java/lang/invoke/VarHandle" ∧ (parseMethodDescriptor yX11_isFinding.desc).map (fun d => d.parameters.length) = some 1 := ⟨by decide +kernel, by decide +kernel, by decide +kernel⟩
theorem nd_X11_isThere : yX11_isThere.cls ≠ "java/lang/invoke/MethodHandle" ∧ yX11_isThere.cls ≠ "java/lang/invoke/VarHandle" ∧ (parseMethodDescriptor yX11_isThere.desc).map (fun d => d.parameters.length) = some 2 := ⟨by decide +kernel, by decide +kernel, by decide +kernel⟩
theorem nd_X11_lastAt : yX11_lastAt.cls ≠ "java/lang/invoke/MethodHandle" ∧ yX11_lastAt.cls ≠ "java/lang/invoke/VarHandle" ∧ (parseMethodDescriptor yX11_lastAt.desc).map (fun d => d.parameters.length) = some 2 := ⟨by decide +kernel, by decide +kernel, by decide +kernel⟩
theorem nd_X11_ownerAt : yX11_ownerAt.cls ≠ "java/lang/invoke/MethodHandle" ∧ yX11_ownerAt.cls ≠ "java/lang/invoke/VarHandle" ∧ (parseMethodDescriptor yX11_ownerAt.desc).map (fun d => d.parameters.length) = some 2 := ⟨by decide +kernel, by decide +kernel, by decide +kernel⟩
theorem nd_X11_puts : yX11_puts.cls ≠ "java/lang/invoke/MethodHandle" ∧ yX11_puts.cls ≠ "java/lang/invoke/VarHandle" ∧ (parseMethodDescriptor yX11_puts.desc).map (fun d => d.parameters.length) = some 1 := ⟨by decide +kernel, by decide +kernel, by decide +kernel⟩
theorem nd_X11_readsAt : yX11_readsAt.cls ≠ "java/lang/invoke/MethodHandle" ∧ yX11_readsAt.cls ≠ "java/lang/invoke/VarHandle" ∧ (parseMethodDescriptor yX11_readsAt.desc).map (fun d => d.parameters.length) = some 3 := ⟨by decide +kernel, by decide +kernel, by decide +kernel⟩
theorem nd_X11_reckons : yX11_reckons.cls ≠ "java/lang/invoke/MethodHandle" ∧ yX11_reckons.cls ≠ "java/lang/invoke/VarHandle" ∧ (parseMethodDescriptor yX11_reckons.desc).map (fun d => d.parameters.length) = some 1 := ⟨by decide +kernel, by decide +kernel, by decide +kernel⟩
theorem nd_X11_shares : yX11_shares.cls ≠ "java/lang/invoke/MethodHandle" ∧ yX11_shares.cls ≠ "java/lang/invoke/VarHandle" ∧ (parseMethodDescriptor yX11_shares.desc).map (fun d => d.parameters.length) = some 3 := ⟨by decide +kernel, by decide +kernel, by decide +kernel⟩
theorem nd_X11_starts : yX11_starts.cls ≠ "java/lang/invoke/MethodHandle" ∧ yX11_starts.cls ≠ "java/lang/invoke/VarHandle" ∧ (parseMethodDescriptor yX11_starts.desc).map (fun d => d.parameters.length) = some 2 := ⟨by decide +kernel, by decide +kernel, by decide +kernel⟩
theorem nd_X11_sumOf : yX11_sumOf.cls ≠ "java/lang/invoke/MethodHandle" ∧ yX11_sumOf.cls ≠ "java/lang/invoke/VarHandle" ∧ (parseMethodDescriptor yX11_sumOf.desc).map (fun d => d.parameters.length) = some 2 := ⟨by decide +kernel, by decide +kernel, by decide +kernel⟩
theorem nd_X11_takes : yX11_takes.cls ≠ "java/lang/invoke/MethodHandle" ∧ yX11_takes.cls ≠ "java/lang/invoke/VarHandle" ∧ (parseMethodDescriptor yX11_takes.desc).map (fun d => d.parameters.length) = some 1 := ⟨by decide +kernel, by decide +kernel, by decide +kernel⟩
theorem nd_X11_takesPart : yX11_takesPart.cls ≠ "java/lang/invoke/MethodHandle" ∧ yX11_takesPart.cls ≠ "java/lang/invoke/VarHandle" ∧ (parseMethodDescriptor yX11_takesPart.desc).map (fun d => d.parameters.length) = some 2 := ⟨by decide +kernel, by decide +kernel, by decide +kernel⟩
theorem nd_X11_valueAt : yX11_valueAt.cls ≠ "java/lang/invoke/MethodHandle" ∧ yX11_valueAt.cls ≠ "java/lang/invoke/VarHandle" ∧ (parseMethodDescriptor yX11_valueAt.desc).map (fun d => d.parameters.length) = some 2 := ⟨by decide +kernel, by decide +kernel, by decide +kernel⟩
theorem kx_names : ∀ n ∈ (["java/lang/RuntimeException", "java/lang/Exception"] : List String), Bundle.fit n = true := by decide +kernel
