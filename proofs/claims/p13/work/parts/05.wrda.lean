set_option maxRecDepth 100000 in
theorem wg_39 : Cond.instantiable "java/util/ArrayList" 3 ∈ lw_g := lg_in (List.mem_append_right _ (List.mem_of_getElem? (i := 39) rfl)) rfl
set_option maxRecDepth 100000 in
theorem wg_4 : Cond.initialized "java/util/ArrayList" ∈ lw_g := lg_in (List.mem_append_right _ (List.mem_of_getElem? (i := 4) rfl)) rfl
set_option maxRecDepth 100000 in
theorem wg_119 : Cond.instantiable "Loomkeeper$Flow" 9 ∈ lw_g := lg_in (List.mem_append_right _ (List.mem_of_getElem? (i := 119) rfl)) rfl
set_option maxRecDepth 100000 in
theorem wg_8 : Cond.initialized "Loomkeeper$Flow" ∈ lw_g := lg_in (List.mem_append_right _ (List.mem_of_getElem? (i := 8) rfl)) rfl
set_option maxRecDepth 100000 in
theorem wg_102 : Cond.instantiable "Loomkeeper$History" 3 ∈ lw_g := lg_in (List.mem_append_right _ (List.mem_of_getElem? (i := 102) rfl)) rfl
set_option maxRecDepth 100000 in
theorem wg_7 : Cond.initialized "Loomkeeper$History" ∈ lw_g := lg_in (List.mem_append_right _ (List.mem_of_getElem? (i := 7) rfl)) rfl
set_option maxRecDepth 100000 in
theorem wg_66 : Cond.instantiable "Loomkeeper$Line" 3 ∈ lw_g := lg_in (List.mem_append_right _ (List.mem_of_getElem? (i := 66) rfl)) rfl
set_option maxRecDepth 100000 in
theorem wg_5 : Cond.initialized "Loomkeeper$Line" ∈ lw_g := lg_in (List.mem_append_right _ (List.mem_of_getElem? (i := 5) rfl)) rfl
set_option maxRecDepth 100000 in
theorem wg_127 : Cond.instantiable "Loomkeeper$Pile" 2 ∈ lw_g := lg_in (List.mem_append_right _ (List.mem_of_getElem? (i := 127) rfl)) rfl
set_option maxRecDepth 100000 in
theorem wg_10 : Cond.initialized "Loomkeeper$Pile" ∈ lw_g := lg_in (List.mem_append_right _ (List.mem_of_getElem? (i := 10) rfl)) rfl
set_option maxRecDepth 100000 in
theorem wg_82 : Cond.instantiable "Loomkeeper$Program" 4 ∈ lw_g := lg_in (List.mem_append_right _ (List.mem_of_getElem? (i := 82) rfl)) rfl
set_option maxRecDepth 100000 in
theorem wg_6 : Cond.initialized "Loomkeeper$Program" ∈ lw_g := lg_in (List.mem_append_right _ (List.mem_of_getElem? (i := 6) rfl)) rfl
set_option maxRecDepth 100000 in
theorem wg_121 : Cond.instantiable "Loomkeeper$Run" 20 ∈ lw_g := lg_in (List.mem_append_right _ (List.mem_of_getElem? (i := 121) rfl)) rfl
set_option maxRecDepth 100000 in
theorem wg_9 : Cond.initialized "Loomkeeper$Run" ∈ lw_g := lg_in (List.mem_append_right _ (List.mem_of_getElem? (i := 9) rfl)) rfl
set_option maxRecDepth 100000 in
theorem wg_141 : Cond.instantiable "Loomkeeper$Signals" 2 ∈ lw_g := lg_in (List.mem_append_right _ (List.mem_of_getElem? (i := 141) rfl)) rfl
set_option maxRecDepth 100000 in
theorem wg_11 : Cond.initialized "Loomkeeper$Signals" ∈ lw_g := lg_in (List.mem_append_right _ (List.mem_of_getElem? (i := 11) rfl)) rfl
set_option maxRecDepth 100000 in
theorem wg_567 : Cond.instantiable "Loomkeeper$Task" 7 ∈ lw_g := lg_in (List.mem_append_right _ (List.mem_of_getElem? (i := 567) rfl)) rfl
set_option maxRecDepth 100000 in
theorem wg_19 : Cond.initialized "Loomkeeper$Task" ∈ lw_g := lg_in (List.mem_append_right _ (List.mem_of_getElem? (i := 19) rfl)) rfl
set_option maxRecDepth 100000 in
theorem wg_27 : Cond.instantiable "Loomkeeper" 11 ∈ lw_g := lg_in (List.mem_append_right _ (List.mem_of_getElem? (i := 27) rfl)) rfl
set_option maxRecDepth 100000 in
theorem wg_1 : Cond.initialized "Loomkeeper" ∈ lw_g := lg_in (List.mem_append_right _ (List.mem_of_getElem? (i := 1) rfl)) rfl
set_option maxRecDepth 100000 in
theorem wg_1041 : Cond.instantiable "LoomkeeperModel" 50 ∈ lw_g := lg_in (List.mem_append_right _ (List.mem_of_getElem? (i := 1041) rfl)) rfl
set_option maxRecDepth 100000 in
theorem wg_12 : Cond.initialized "LoomkeeperModel" ∈ lw_g := lg_in (List.mem_append_right _ (List.mem_of_getElem? (i := 12) rfl)) rfl
set_option maxRecDepth 100000 in
theorem wg_50 : Cond.fieldLink "java/util/ArrayList" 39 "java/util/ArrayList" "DEFAULTCAPACITY_EMPTY_ELEMENTDATA" "[Ljava/lang/Object;" ∈ lw_g := lg_in (List.mem_append_right _ (List.mem_of_getElem? (i := 50) rfl)) rfl
set_option maxRecDepth 100000 in
theorem wg_52 : Cond.fieldLink "java/util/ArrayList" 9 "java/util/ArrayList" "elementData" "[Ljava/lang/Object;" ∈ lw_g := lg_in (List.mem_append_right _ (List.mem_of_getElem? (i := 52) rfl)) rfl
set_option maxRecDepth 100000 in
theorem wg_53 : Cond.fieldLink "java/util/ArrayList" 48 "java/util/ArrayList" "size" "I" ∈ lw_g := lg_in (List.mem_append_right _ (List.mem_of_getElem? (i := 53) rfl)) rfl
set_option maxRecDepth 100000 in
theorem wg_54 : Cond.fieldLink "java/util/AbstractList" 7 "java/util/AbstractList" "modCount" "I" ∈ lw_g := lg_in (List.mem_append_right _ (List.mem_of_getElem? (i := 54) rfl)) rfl
set_option maxRecDepth 100000 in
theorem wg_55 : Cond.fieldLink "java/util/ArrayList" 63 "java/util/ArrayList" "modCount" "I" ∈ lw_g := lg_in (List.mem_append_right _ (List.mem_of_getElem? (i := 55) rfl)) rfl
set_option maxRecDepth 100000 in
theorem wg_56 : Cond.sameField "java/util/ArrayList" "java/util/AbstractList" "modCount" "I" ∈ lw_g := lg_in (List.mem_append_right _ (List.mem_of_getElem? (i := 56) rfl)) rfl
set_option maxRecDepth 100000 in
theorem wg_72 : Cond.fieldLink "Loomkeeper$Line" 11 "Loomkeeper$Line" "flows" "[LLoomkeeper$Flow;" ∈ lw_g := lg_in (List.mem_append_right _ (List.mem_of_getElem? (i := 72) rfl)) rfl
set_option maxRecDepth 100000 in
theorem wg_73 : Cond.fieldLink "Loomkeeper$Line" 17 "Loomkeeper$Line" "from" "I" ∈ lw_g := lg_in (List.mem_append_right _ (List.mem_of_getElem? (i := 73) rfl)) rfl
set_option maxRecDepth 100000 in
theorem wg_74 : Cond.fieldLink "Loomkeeper$Line" 21 "Loomkeeper$Line" "to" "I" ∈ lw_g := lg_in (List.mem_append_right _ (List.mem_of_getElem? (i := 74) rfl)) rfl
set_option maxRecDepth 100000 in
theorem wg_87 : Cond.fieldLink "Loomkeeper$Program" 21 "Loomkeeper$Program" "index" "I" ∈ lw_g := lg_in (List.mem_append_right _ (List.mem_of_getElem? (i := 87) rfl)) rfl
set_option maxRecDepth 100000 in
theorem wn_88 : Cond.fieldLinkNest "Loomkeeper" 219 "Loomkeeper$Program" "index" "I" "Loomkeeper" ∈ lw_n := ln_in (List.mem_append_right _ (List.mem_of_getElem? (i := 88) rfl)) rfl
set_option maxRecDepth 100000 in
theorem wg_89 : Cond.fieldLink "Loomkeeper$Program" 9 "Loomkeeper$Program" "operations" "[I" ∈ lw_g := lg_in (List.mem_append_right _ (List.mem_of_getElem? (i := 89) rfl)) rfl
set_option maxRecDepth 100000 in
theorem wg_90 : Cond.fieldLink "Loomkeeper$Program" 15 "Loomkeeper$Program" "firsts" "[I" ∈ lw_g := lg_in (List.mem_append_right _ (List.mem_of_getElem? (i := 90) rfl)) rfl
set_option maxRecDepth 100000 in
theorem wg_91 : Cond.fieldLink "Loomkeeper$Program" 18 "Loomkeeper$Program" "seconds" "[I" ∈ lw_g := lg_in (List.mem_append_right _ (List.mem_of_getElem? (i := 91) rfl)) rfl
set_option maxRecDepth 100000 in
theorem wg_107 : Cond.fieldLink "Loomkeeper$History" 9 "Loomkeeper$History" "kinds" "[B" ∈ lw_g := lg_in (List.mem_append_right _ (List.mem_of_getElem? (i := 107) rfl)) rfl
set_option maxRecDepth 100000 in
theorem wg_108 : Cond.fieldLink "Loomkeeper$History" 15 "Loomkeeper$History" "numbers" "[J" ∈ lw_g := lg_in (List.mem_append_right _ (List.mem_of_getElem? (i := 108) rfl)) rfl
set_option maxRecDepth 100000 in
theorem wg_109 : Cond.fieldLink "Loomkeeper$History" 19 "Loomkeeper$History" "count" "I" ∈ lw_g := lg_in (List.mem_append_right _ (List.mem_of_getElem? (i := 109) rfl)) rfl
set_option maxRecDepth 100000 in
theorem wg_132 : Cond.fieldLink "Loomkeeper$Pile" 9 "Loomkeeper$Pile" "activities" "[I" ∈ lw_g := lg_in (List.mem_append_right _ (List.mem_of_getElem? (i := 132) rfl)) rfl
set_option maxRecDepth 100000 in
theorem wg_133 : Cond.fieldLink "Loomkeeper$Pile" 15 "Loomkeeper$Pile" "count" "I" ∈ lw_g := lg_in (List.mem_append_right _ (List.mem_of_getElem? (i := 133) rfl)) rfl
set_option maxRecDepth 100000 in
theorem wn_134 : Cond.fieldLinkNest "Loomkeeper$Run" 33 "Loomkeeper$Pile" "count" "I" "Loomkeeper" ∈ lw_n := ln_in (List.mem_append_right _ (List.mem_of_getElem? (i := 134) rfl)) rfl
set_option maxRecDepth 100000 in
theorem wg_146 : Cond.fieldLink "Loomkeeper$Signals" 9 "Loomkeeper$Signals" "numbers" "[I" ∈ lw_g := lg_in (List.mem_append_right _ (List.mem_of_getElem? (i := 146) rfl)) rfl
set_option maxRecDepth 100000 in
theorem wg_147 : Cond.fieldLink "Loomkeeper$Signals" 15 "Loomkeeper$Signals" "count" "I" ∈ lw_g := lg_in (List.mem_append_right _ (List.mem_of_getElem? (i := 147) rfl)) rfl
set_option maxRecDepth 100000 in
theorem wn_148 : Cond.fieldLinkNest "Loomkeeper$Run" 37 "Loomkeeper$Signals" "count" "I" "Loomkeeper" ∈ lw_n := ln_in (List.mem_append_right _ (List.mem_of_getElem? (i := 148) rfl)) rfl
set_option maxRecDepth 100000 in
theorem wg_154 : Cond.fieldLink "Loomkeeper$Run" 12 "Loomkeeper$Run" "pile" "LLoomkeeper$Pile;" ∈ lw_g := lg_in (List.mem_append_right _ (List.mem_of_getElem? (i := 154) rfl)) rfl
set_option maxRecDepth 100000 in
theorem wn_155 : Cond.fieldLinkNest "Loomkeeper" 308 "Loomkeeper$Run" "pile" "LLoomkeeper$Pile;" "Loomkeeper" ∈ lw_n := ln_in (List.mem_append_right _ (List.mem_of_getElem? (i := 155) rfl)) rfl
set_option maxRecDepth 100000 in
theorem wg_156 : Cond.fieldLink "Loomkeeper$Run" 21 "Loomkeeper$Run" "kept" "LLoomkeeper$Signals;" ∈ lw_g := lg_in (List.mem_append_right _ (List.mem_of_getElem? (i := 156) rfl)) rfl
set_option maxRecDepth 100000 in
theorem wn_157 : Cond.fieldLinkNest "Loomkeeper" 323 "Loomkeeper$Run" "kept" "LLoomkeeper$Signals;" "Loomkeeper" ∈ lw_n := ln_in (List.mem_append_right _ (List.mem_of_getElem? (i := 157) rfl)) rfl
set_option maxRecDepth 100000 in
theorem wg_158 : Cond.fieldLink "Loomkeeper$Run" 25 "Loomkeeper$Run" "program" "LLoomkeeper$Program;" ∈ lw_g := lg_in (List.mem_append_right _ (List.mem_of_getElem? (i := 158) rfl)) rfl
set_option maxRecDepth 100000 in
theorem wg_159 : Cond.fieldLink "Loomkeeper$Run" 29 "Loomkeeper$Run" "history" "LLoomkeeper$History;" ∈ lw_g := lg_in (List.mem_append_right _ (List.mem_of_getElem? (i := 159) rfl)) rfl
set_option maxRecDepth 100000 in
theorem wg_160 : Cond.fieldLink "Loomkeeper$Run" 38 "Loomkeeper$Run" "taken" "I" ∈ lw_g := lg_in (List.mem_append_right _ (List.mem_of_getElem? (i := 160) rfl)) rfl
set_option maxRecDepth 100000 in
theorem wg_161 : Cond.fieldLink "Loomkeeper$Run" 41 "Loomkeeper$Run" "place" "I" ∈ lw_g := lg_in (List.mem_append_right _ (List.mem_of_getElem? (i := 161) rfl)) rfl
set_option maxRecDepth 100000 in
theorem wn_162 : Cond.fieldLinkNest "Loomkeeper" 292 "Loomkeeper$Run" "place" "I" "Loomkeeper" ∈ lw_n := ln_in (List.mem_append_right _ (List.mem_of_getElem? (i := 162) rfl)) rfl
set_option maxRecDepth 100000 in
theorem wg_163 : Cond.fieldLink "Loomkeeper$Run" 50 "Loomkeeper$Run" "value" "I" ∈ lw_g := lg_in (List.mem_append_right _ (List.mem_of_getElem? (i := 163) rfl)) rfl
set_option maxRecDepth 100000 in
theorem wn_164 : Cond.fieldLinkNest "Loomkeeper" 295 "Loomkeeper$Run" "value" "I" "Loomkeeper" ∈ lw_n := ln_in (List.mem_append_right _ (List.mem_of_getElem? (i := 164) rfl)) rfl
set_option maxRecDepth 100000 in
theorem wg_165 : Cond.fieldLink "Loomkeeper$Run" 53 "Loomkeeper$Run" "steps" "I" ∈ lw_g := lg_in (List.mem_append_right _ (List.mem_of_getElem? (i := 165) rfl)) rfl
set_option maxRecDepth 100000 in
theorem wg_166 : Cond.fieldLink "Loomkeeper$Run" 56 "Loomkeeper$Run" "waits" "I" ∈ lw_g := lg_in (List.mem_append_right _ (List.mem_of_getElem? (i := 166) rfl)) rfl
set_option maxRecDepth 100000 in
theorem wn_167 : Cond.fieldLinkNest "Loomkeeper$Flow" 55 "Loomkeeper$Run" "waits" "I" "Loomkeeper" ∈ lw_n := ln_in (List.mem_append_right _ (List.mem_of_getElem? (i := 167) rfl)) rfl
set_option maxRecDepth 100000 in
theorem wn_168 : Cond.fieldLinkNest "Loomkeeper" 298 "Loomkeeper$Run" "waits" "I" "Loomkeeper" ∈ lw_n := ln_in (List.mem_append_right _ (List.mem_of_getElem? (i := 168) rfl)) rfl
set_option maxRecDepth 100000 in
theorem wg_169 : Cond.fieldLink "Loomkeeper$Run" 59 "Loomkeeper$Run" "signal" "I" ∈ lw_g := lg_in (List.mem_append_right _ (List.mem_of_getElem? (i := 169) rfl)) rfl
set_option maxRecDepth 100000 in
theorem wg_170 : Cond.fieldLink "Loomkeeper$Run" 62 "Loomkeeper$Run" "child" "I" ∈ lw_g := lg_in (List.mem_append_right _ (List.mem_of_getElem? (i := 170) rfl)) rfl
set_option maxRecDepth 100000 in
theorem wn_171 : Cond.fieldLinkNest "Loomkeeper$Flow" 58 "Loomkeeper$Run" "child" "I" "Loomkeeper" ∈ lw_n := ln_in (List.mem_append_right _ (List.mem_of_getElem? (i := 171) rfl)) rfl
set_option maxRecDepth 100000 in
theorem wn_172 : Cond.fieldLinkNest "Loomkeeper" 397 "Loomkeeper$Run" "child" "I" "Loomkeeper" ∈ lw_n := ln_in (List.mem_append_right _ (List.mem_of_getElem? (i := 172) rfl)) rfl
set_option maxRecDepth 100000 in
theorem wg_173 : Cond.fieldLink "Loomkeeper$Run" 65 "Loomkeeper$Run" "due" "J" ∈ lw_g := lg_in (List.mem_append_right _ (List.mem_of_getElem? (i := 173) rfl)) rfl
set_option maxRecDepth 100000 in
theorem wg_174 : Cond.fieldLink "Loomkeeper$Run" 69 "Loomkeeper$Run" "shielded" "Z" ∈ lw_g := lg_in (List.mem_append_right _ (List.mem_of_getElem? (i := 174) rfl)) rfl
set_option maxRecDepth 100000 in
theorem wn_175 : Cond.fieldLinkNest "Loomkeeper" 315 "Loomkeeper$Run" "shielded" "Z" "Loomkeeper" ∈ lw_n := ln_in (List.mem_append_right _ (List.mem_of_getElem? (i := 175) rfl)) rfl
set_option maxRecDepth 100000 in
theorem wg_176 : Cond.fieldLink "Loomkeeper$Run" 73 "Loomkeeper$Run" "askedInShield" "Z" ∈ lw_g := lg_in (List.mem_append_right _ (List.mem_of_getElem? (i := 176) rfl)) rfl
set_option maxRecDepth 100000 in
theorem wg_177 : Cond.fieldLink "Loomkeeper$Run" 76 "Loomkeeper$Run" "ending" "I" ∈ lw_g := lg_in (List.mem_append_right _ (List.mem_of_getElem? (i := 177) rfl)) rfl
set_option maxRecDepth 100000 in
theorem wn_178 : Cond.fieldLinkNest "Loomkeeper" 321 "Loomkeeper$Run" "ending" "I" "Loomkeeper" ∈ lw_n := ln_in (List.mem_append_right _ (List.mem_of_getElem? (i := 178) rfl)) rfl
set_option maxRecDepth 100000 in
theorem wg_179 : Cond.fieldLink "Loomkeeper$Run" 79 "Loomkeeper$Run" "over" "Z" ∈ lw_g := lg_in (List.mem_append_right _ (List.mem_of_getElem? (i := 179) rfl)) rfl
set_option maxRecDepth 100000 in
theorem wn_180 : Cond.fieldLinkNest "Loomkeeper" 318 "Loomkeeper$Run" "over" "Z" "Loomkeeper" ∈ lw_n := ln_in (List.mem_append_right _ (List.mem_of_getElem? (i := 180) rfl)) rfl
set_option maxRecDepth 100000 in
theorem wg_181 : Cond.fieldLink "Loomkeeper$Run" 82 "Loomkeeper$Run" "wanted" "I" ∈ lw_g := lg_in (List.mem_append_right _ (List.mem_of_getElem? (i := 181) rfl)) rfl
set_option maxRecDepth 100000 in
theorem wn_182 : Cond.fieldLinkNest "Loomkeeper" 364 "Loomkeeper$Run" "wanted" "I" "Loomkeeper" ∈ lw_n := ln_in (List.mem_append_right _ (List.mem_of_getElem? (i := 182) rfl)) rfl
set_option maxRecDepth 100000 in
theorem wg_183 : Cond.fieldLink "Loomkeeper$Run" 85 "Loomkeeper$Run" "wantedNumber" "J" ∈ lw_g := lg_in (List.mem_append_right _ (List.mem_of_getElem? (i := 183) rfl)) rfl
set_option maxRecDepth 100000 in
theorem wn_184 : Cond.fieldLinkNest "Loomkeeper" 367 "Loomkeeper$Run" "wantedNumber" "J" "Loomkeeper" ∈ lw_n := ln_in (List.mem_append_right _ (List.mem_of_getElem? (i := 184) rfl)) rfl
set_option maxRecDepth 100000 in
theorem wg_185 : Cond.fieldLink "Loomkeeper$Run" 88 "Loomkeeper$Run" "leftAt" "I" ∈ lw_g := lg_in (List.mem_append_right _ (List.mem_of_getElem? (i := 185) rfl)) rfl
set_option maxRecDepth 100000 in
theorem wn_186 : Cond.fieldLinkNest "Loomkeeper" 391 "Loomkeeper$Run" "leftAt" "I" "Loomkeeper" ∈ lw_n := ln_in (List.mem_append_right _ (List.mem_of_getElem? (i := 186) rfl)) rfl
set_option maxRecDepth 100000 in
theorem wg_187 : Cond.fieldLink "Loomkeeper$Run" 91 "Loomkeeper$Run" "astray" "Z" ∈ lw_g := lg_in (List.mem_append_right _ (List.mem_of_getElem? (i := 187) rfl)) rfl
set_option maxRecDepth 100000 in
theorem wn_188 : Cond.fieldLinkNest "Loomkeeper" 133 "Loomkeeper$Run" "astray" "Z" "Loomkeeper" ∈ lw_n := ln_in (List.mem_append_right _ (List.mem_of_getElem? (i := 188) rfl)) rfl
set_option maxRecDepth 100000 in
theorem wn_189 : Cond.fieldLinkNest "Loomkeeper$Flow" 49 "Loomkeeper$Run" "astray" "Z" "Loomkeeper" ∈ lw_n := ln_in (List.mem_append_right _ (List.mem_of_getElem? (i := 189) rfl)) rfl
set_option maxRecDepth 100000 in
theorem wn_190 : Cond.fieldLinkNest "Loomkeeper$Task" 62 "Loomkeeper$Run" "astray" "Z" "Loomkeeper" ∈ lw_n := ln_in (List.mem_append_right _ (List.mem_of_getElem? (i := 190) rfl)) rfl
set_option maxRecDepth 100000 in
theorem wg_236 : Cond.fieldLink "Loomkeeper$Flow" 21 "Loomkeeper$Flow" "index" "I" ∈ lw_g := lg_in (List.mem_append_right _ (List.mem_of_getElem? (i := 236) rfl)) rfl
set_option maxRecDepth 100000 in
theorem wn_237 : Cond.fieldLinkNest "Loomkeeper$Task" 25 "Loomkeeper$Flow" "index" "I" "Loomkeeper" ∈ lw_n := ln_in (List.mem_append_right _ (List.mem_of_getElem? (i := 237) rfl)) rfl
set_option maxRecDepth 100000 in
theorem wn_238 : Cond.fieldLinkNest "Loomkeeper" 150 "Loomkeeper$Flow" "index" "I" "Loomkeeper" ∈ lw_n := ln_in (List.mem_append_right _ (List.mem_of_getElem? (i := 238) rfl)) rfl
set_option maxRecDepth 100000 in
theorem wg_239 : Cond.fieldLink "Loomkeeper$Flow" 28 "Loomkeeper$Flow" "history" "LLoomkeeper$History;" ∈ lw_g := lg_in (List.mem_append_right _ (List.mem_of_getElem? (i := 239) rfl)) rfl
set_option maxRecDepth 100000 in
theorem wn_240 : Cond.fieldLinkNest "Loomkeeper$Task" 44 "Loomkeeper$Flow" "history" "LLoomkeeper$History;" "Loomkeeper" ∈ lw_n := ln_in (List.mem_append_right _ (List.mem_of_getElem? (i := 240) rfl)) rfl
set_option maxRecDepth 100000 in
theorem wn_241 : Cond.fieldLinkNest "Loomkeeper" 179 "Loomkeeper$Flow" "history" "LLoomkeeper$History;" "Loomkeeper" ∈ lw_n := ln_in (List.mem_append_right _ (List.mem_of_getElem? (i := 241) rfl)) rfl
set_option maxRecDepth 100000 in
theorem wg_242 : Cond.fieldLink "Loomkeeper$Flow" 32 "Loomkeeper$Flow" "run" "LLoomkeeper$Run;" ∈ lw_g := lg_in (List.mem_append_right _ (List.mem_of_getElem? (i := 242) rfl)) rfl
set_option maxRecDepth 100000 in
theorem wn_243 : Cond.fieldLinkNest "Loomkeeper$Task" 58 "Loomkeeper$Flow" "run" "LLoomkeeper$Run;" "Loomkeeper" ∈ lw_n := ln_in (List.mem_append_right _ (List.mem_of_getElem? (i := 243) rfl)) rfl
set_option maxRecDepth 100000 in
theorem wn_244 : Cond.fieldLinkNest "Loomkeeper" 249 "Loomkeeper$Flow" "run" "LLoomkeeper$Run;" "Loomkeeper" ∈ lw_n := ln_in (List.mem_append_right _ (List.mem_of_getElem? (i := 244) rfl)) rfl
set_option maxRecDepth 100000 in
theorem wg_245 : Cond.fieldLink "Loomkeeper$Flow" 24 "Loomkeeper$Flow" "program" "LLoomkeeper$Program;" ∈ lw_g := lg_in (List.mem_append_right _ (List.mem_of_getElem? (i := 245) rfl)) rfl
set_option maxRecDepth 100000 in
theorem wn_246 : Cond.fieldLinkNest "Loomkeeper" 103 "Loomkeeper$Flow" "program" "LLoomkeeper$Program;" "Loomkeeper" ∈ lw_n := ln_in (List.mem_append_right _ (List.mem_of_getElem? (i := 246) rfl)) rfl
set_option maxRecDepth 100000 in
theorem wg_247 : Cond.fieldLink "Loomkeeper$Flow" 9 "Loomkeeper$Flow" "parent" "I" ∈ lw_g := lg_in (List.mem_append_right _ (List.mem_of_getElem? (i := 247) rfl)) rfl
set_option maxRecDepth 100000 in
theorem wn_248 : Cond.fieldLinkNest "Loomkeeper" 259 "Loomkeeper$Flow" "parent" "I" "Loomkeeper" ∈ lw_n := ln_in (List.mem_append_right _ (List.mem_of_getElem? (i := 248) rfl)) rfl
set_option maxRecDepth 100000 in
theorem wg_249 : Cond.fieldLink "Loomkeeper$Flow" 15 "Loomkeeper$Flow" "place" "I" ∈ lw_g := lg_in (List.mem_append_right _ (List.mem_of_getElem? (i := 249) rfl)) rfl
set_option maxRecDepth 100000 in
theorem wn_250 : Cond.fieldLinkNest "Loomkeeper" 406 "Loomkeeper$Flow" "place" "I" "Loomkeeper" ∈ lw_n := ln_in (List.mem_append_right _ (List.mem_of_getElem? (i := 250) rfl)) rfl
set_option maxRecDepth 100000 in
theorem wg_251 : Cond.fieldLink "Loomkeeper$Flow" 18 "Loomkeeper$Flow" "heir" "I" ∈ lw_g := lg_in (List.mem_append_right _ (List.mem_of_getElem? (i := 251) rfl)) rfl
set_option maxRecDepth 100000 in
theorem wn_252 : Cond.fieldLinkNest "Loomkeeper" 403 "Loomkeeper$Flow" "heir" "I" "Loomkeeper" ∈ lw_n := ln_in (List.mem_append_right _ (List.mem_of_getElem? (i := 252) rfl)) rfl
set_option maxRecDepth 100000 in
theorem wn_253 : Cond.fieldLinkNest "Loomkeeper$Task" 37 "Loomkeeper$Flow" "task" "LLoomkeeper$Task;" "Loomkeeper" ∈ lw_n := ln_in (List.mem_append_right _ (List.mem_of_getElem? (i := 253) rfl)) rfl
set_option maxRecDepth 100000 in
theorem wg_254 : Cond.fieldLink "Loomkeeper$Flow" 69 "Loomkeeper$Flow" "task" "LLoomkeeper$Task;" ∈ lw_g := lg_in (List.mem_append_right _ (List.mem_of_getElem? (i := 254) rfl)) rfl
set_option maxRecDepth 100000 in
theorem wn_255 : Cond.fieldLinkNest "Loomkeeper" 276 "Loomkeeper$Flow" "task" "LLoomkeeper$Task;" "Loomkeeper" ∈ lw_n := ln_in (List.mem_append_right _ (List.mem_of_getElem? (i := 255) rfl)) rfl
set_option maxRecDepth 100000 in
theorem wn_256 : Cond.fieldLinkNest "Loomkeeper" 394 "Loomkeeper$Flow" "through" "I" "Loomkeeper" ∈ lw_n := ln_in (List.mem_append_right _ (List.mem_of_getElem? (i := 256) rfl)) rfl
set_option maxRecDepth 100000 in
theorem wg_276 : Cond.fieldLink "Loomkeeper" 11 "Loomkeeper" "programs" "[LLoomkeeper$Program;" ∈ lw_g := lg_in (List.mem_append_right _ (List.mem_of_getElem? (i := 276) rfl)) rfl
set_option maxRecDepth 100000 in
theorem wg_277 : Cond.fieldLink "Loomkeeper" 15 "Loomkeeper" "served" "[I" ∈ lw_g := lg_in (List.mem_append_right _ (List.mem_of_getElem? (i := 277) rfl)) rfl
set_option maxRecDepth 100000 in
theorem wg_278 : Cond.fieldLink "Loomkeeper" 21 "Loomkeeper" "flows" "[LLoomkeeper$Flow;" ∈ lw_g := lg_in (List.mem_append_right _ (List.mem_of_getElem? (i := 278) rfl)) rfl
set_option maxRecDepth 100000 in
theorem wg_279 : Cond.fieldLink "Loomkeeper" 28 "Loomkeeper" "work" "Ljava/util/ArrayList;" ∈ lw_g := lg_in (List.mem_append_right _ (List.mem_of_getElem? (i := 279) rfl)) rfl
set_option maxRecDepth 100000 in
theorem wg_280 : Cond.fieldLink "Loomkeeper" 35 "Loomkeeper" "going" "LLoomkeeper$Line;" ∈ lw_g := lg_in (List.mem_append_right _ (List.mem_of_getElem? (i := 280) rfl)) rfl
set_option maxRecDepth 100000 in
theorem wg_281 : Cond.fieldLink "Loomkeeper" 39 "Loomkeeper" "later" "LLoomkeeper$Line;" ∈ lw_g := lg_in (List.mem_append_right _ (List.mem_of_getElem? (i := 281) rfl)) rfl
set_option maxRecDepth 100000 in
theorem wg_282 : Cond.fieldLink "Loomkeeper" 60 "Loomkeeper" "scratch" "LLoomkeeper$Run;" ∈ lw_g := lg_in (List.mem_append_right _ (List.mem_of_getElem? (i := 282) rfl)) rfl
set_option maxRecDepth 100000 in
theorem wg_283 : Cond.fieldLink "Loomkeeper" 96 "Loomkeeper" "flowCount" "I" ∈ lw_g := lg_in (List.mem_append_right _ (List.mem_of_getElem? (i := 283) rfl)) rfl
set_option maxRecDepth 100000 in
theorem wg_284 : Cond.fieldLink "Loomkeeper" 206 "Loomkeeper" "clock" "I" ∈ lw_g := lg_in (List.mem_append_right _ (List.mem_of_getElem? (i := 284) rfl)) rfl
set_option maxRecDepth 100000 in
theorem wg_285 : Cond.fieldLink "Loomkeeper" 203 "Loomkeeper" "tokens" "I" ∈ lw_g := lg_in (List.mem_append_right _ (List.mem_of_getElem? (i := 285) rfl)) rfl
set_option maxRecDepth 100000 in
theorem wg_286 : Cond.fieldLink "Loomkeeper" 42 "Loomkeeper" "chance" "I" ∈ lw_g := lg_in (List.mem_append_right _ (List.mem_of_getElem? (i := 286) rfl)) rfl
set_option maxRecDepth 100000 in
theorem wg_576 : Cond.fieldLink "Loomkeeper$Task" 15 "Loomkeeper$Task" "index" "I" ∈ lw_g := lg_in (List.mem_append_right _ (List.mem_of_getElem? (i := 576) rfl)) rfl
set_option maxRecDepth 100000 in
theorem wn_577 : Cond.fieldLinkNest "Loomkeeper" 304 "Loomkeeper$Task" "index" "I" "Loomkeeper" ∈ lw_n := ln_in (List.mem_append_right _ (List.mem_of_getElem? (i := 577) rfl)) rfl
set_option maxRecDepth 100000 in
theorem wg_578 : Cond.fieldLink "Loomkeeper$Task" 18 "Loomkeeper$Task" "flow" "LLoomkeeper$Flow;" ∈ lw_g := lg_in (List.mem_append_right _ (List.mem_of_getElem? (i := 578) rfl)) rfl
set_option maxRecDepth 100000 in
theorem wn_579 : Cond.fieldLinkNest "Loomkeeper" 215 "Loomkeeper$Task" "flow" "LLoomkeeper$Flow;" "Loomkeeper" ∈ lw_n := ln_in (List.mem_append_right _ (List.mem_of_getElem? (i := 579) rfl)) rfl
set_option maxRecDepth 100000 in
theorem wg_580 : Cond.fieldLink "Loomkeeper$Task" 22 "Loomkeeper$Task" "activity" "I" ∈ lw_g := lg_in (List.mem_append_right _ (List.mem_of_getElem? (i := 580) rfl)) rfl
set_option maxRecDepth 100000 in
theorem wg_581 : Cond.fieldLink "Loomkeeper$Task" 9 "Loomkeeper$Task" "state" "I" ∈ lw_g := lg_in (List.mem_append_right _ (List.mem_of_getElem? (i := 581) rfl)) rfl
set_option maxRecDepth 100000 in
theorem wn_582 : Cond.fieldLinkNest "Loomkeeper" 280 "Loomkeeper$Task" "state" "I" "Loomkeeper" ∈ lw_n := ln_in (List.mem_append_right _ (List.mem_of_getElem? (i := 582) rfl)) rfl
set_option maxRecDepth 100000 in
theorem wg_583 : Cond.fieldLink "Loomkeeper$Task" 28 "Loomkeeper$Task" "tries" "I" ∈ lw_g := lg_in (List.mem_append_right _ (List.mem_of_getElem? (i := 583) rfl)) rfl
set_option maxRecDepth 100000 in
theorem wg_584 : Cond.fieldLink "Loomkeeper$Task" 31 "Loomkeeper$Task" "token" "I" ∈ lw_g := lg_in (List.mem_append_right _ (List.mem_of_getElem? (i := 584) rfl)) rfl
set_option maxRecDepth 100000 in
theorem wn_585 : Cond.fieldLinkNest "Loomkeeper" 283 "Loomkeeper$Task" "token" "I" "Loomkeeper" ∈ lw_n := ln_in (List.mem_append_right _ (List.mem_of_getElem? (i := 585) rfl)) rfl
set_option maxRecDepth 100000 in
theorem wg_586 : Cond.fieldLink "Loomkeeper$Task" 34 "Loomkeeper$Task" "until" "I" ∈ lw_g := lg_in (List.mem_append_right _ (List.mem_of_getElem? (i := 586) rfl)) rfl
set_option maxRecDepth 100000 in
theorem wn_587 : Cond.fieldLinkNest "Loomkeeper" 235 "Loomkeeper$Task" "until" "I" "Loomkeeper" ∈ lw_n := ln_in (List.mem_append_right _ (List.mem_of_getElem? (i := 587) rfl)) rfl
set_option maxRecDepth 100000 in
theorem wg_1046 : Cond.fieldLink "LoomkeeperModel" 90 "LoomkeeperModel" "thrown" "I" ∈ lw_g := lg_in (List.mem_append_right _ (List.mem_of_getElem? (i := 1046) rfl)) rfl
set_option maxRecDepth 100000 in
theorem wg_1047 : Cond.fieldLink "LoomkeeperModel" 197 "LoomkeeperModel" "now" "I" ∈ lw_g := lg_in (List.mem_append_right _ (List.mem_of_getElem? (i := 1047) rfl)) rfl
set_option maxRecDepth 100000 in
theorem wg_1048 : Cond.fieldLink "LoomkeeperModel" 7 "LoomkeeperModel" "chance" "I" ∈ lw_g := lg_in (List.mem_append_right _ (List.mem_of_getElem? (i := 1048) rfl)) rfl
set_option maxRecDepth 100000 in
theorem wg_1049 : Cond.fieldLink "LoomkeeperModel" 13 "LoomkeeperModel" "kind" "[I" ∈ lw_g := lg_in (List.mem_append_right _ (List.mem_of_getElem? (i := 1049) rfl)) rfl
set_option maxRecDepth 100000 in
theorem wg_1050 : Cond.fieldLink "LoomkeeperModel" 17 "LoomkeeperModel" "first" "[I" ∈ lw_g := lg_in (List.mem_append_right _ (List.mem_of_getElem? (i := 1050) rfl)) rfl
set_option maxRecDepth 100000 in
theorem wg_1051 : Cond.fieldLink "LoomkeeperModel" 20 "LoomkeeperModel" "second" "[I" ∈ lw_g := lg_in (List.mem_append_right _ (List.mem_of_getElem? (i := 1051) rfl)) rfl
set_option maxRecDepth 100000 in
theorem wg_1052 : Cond.fieldLink "LoomkeeperModel" 93 "LoomkeeperModel" "workflows" "I" ∈ lw_g := lg_in (List.mem_append_right _ (List.mem_of_getElem? (i := 1052) rfl)) rfl
set_option maxRecDepth 100000 in
theorem wg_1053 : Cond.fieldLink "LoomkeeperModel" 23 "LoomkeeperModel" "program" "[I" ∈ lw_g := lg_in (List.mem_append_right _ (List.mem_of_getElem? (i := 1053) rfl)) rfl
set_option maxRecDepth 100000 in
theorem wg_1054 : Cond.fieldLink "LoomkeeperModel" 26 "LoomkeeperModel" "parent" "[I" ∈ lw_g := lg_in (List.mem_append_right _ (List.mem_of_getElem? (i := 1054) rfl)) rfl
set_option maxRecDepth 100000 in
theorem wg_1055 : Cond.fieldLink "LoomkeeperModel" 29 "LoomkeeperModel" "origin" "[I" ∈ lw_g := lg_in (List.mem_append_right _ (List.mem_of_getElem? (i := 1055) rfl)) rfl
set_option maxRecDepth 100000 in
theorem wg_1056 : Cond.fieldLink "LoomkeeperModel" 32 "LoomkeeperModel" "ended" "[I" ∈ lw_g := lg_in (List.mem_append_right _ (List.mem_of_getElem? (i := 1056) rfl)) rfl
set_option maxRecDepth 100000 in
theorem wg_1057 : Cond.fieldLink "LoomkeeperModel" 35 "LoomkeeperModel" "events" "[I" ∈ lw_g := lg_in (List.mem_append_right _ (List.mem_of_getElem? (i := 1057) rfl)) rfl
set_option maxRecDepth 100000 in
theorem wg_1058 : Cond.fieldLink "LoomkeeperModel" 38 "LoomkeeperModel" "gone" "[I" ∈ lw_g := lg_in (List.mem_append_right _ (List.mem_of_getElem? (i := 1058) rfl)) rfl
set_option maxRecDepth 100000 in
theorem wg_1059 : Cond.fieldLink "LoomkeeperModel" 41 "LoomkeeperModel" "latest" "[I" ∈ lw_g := lg_in (List.mem_append_right _ (List.mem_of_getElem? (i := 1059) rfl)) rfl
set_option maxRecDepth 100000 in
theorem wg_1060 : Cond.fieldLink "LoomkeeperModel" 44 "LoomkeeperModel" "event" "[I" ∈ lw_g := lg_in (List.mem_append_right _ (List.mem_of_getElem? (i := 1060) rfl)) rfl
set_option maxRecDepth 100000 in
theorem wg_1061 : Cond.fieldLink "LoomkeeperModel" 47 "LoomkeeperModel" "number" "[J" ∈ lw_g := lg_in (List.mem_append_right _ (List.mem_of_getElem? (i := 1061) rfl)) rfl
set_option maxRecDepth 100000 in
theorem wg_1062 : Cond.fieldLink "LoomkeeperModel" 100 "LoomkeeperModel" "tasks" "I" ∈ lw_g := lg_in (List.mem_append_right _ (List.mem_of_getElem? (i := 1062) rfl)) rfl
set_option maxRecDepth 100000 in
theorem wg_1063 : Cond.fieldLink "LoomkeeperModel" 51 "LoomkeeperModel" "owner" "[I" ∈ lw_g := lg_in (List.mem_append_right _ (List.mem_of_getElem? (i := 1063) rfl)) rfl
set_option maxRecDepth 100000 in
theorem wg_1064 : Cond.fieldLink "LoomkeeperModel" 54 "LoomkeeperModel" "activity" "[I" ∈ lw_g := lg_in (List.mem_append_right _ (List.mem_of_getElem? (i := 1064) rfl)) rfl
set_option maxRecDepth 100000 in
theorem wg_1065 : Cond.fieldLink "LoomkeeperModel" 57 "LoomkeeperModel" "how" "[I" ∈ lw_g := lg_in (List.mem_append_right _ (List.mem_of_getElem? (i := 1065) rfl)) rfl
set_option maxRecDepth 100000 in
theorem wg_1066 : Cond.fieldLink "LoomkeeperModel" 60 "LoomkeeperModel" "tries" "[I" ∈ lw_g := lg_in (List.mem_append_right _ (List.mem_of_getElem? (i := 1066) rfl)) rfl
set_option maxRecDepth 100000 in
theorem wg_1067 : Cond.fieldLink "LoomkeeperModel" 63 "LoomkeeperModel" "token" "[I" ∈ lw_g := lg_in (List.mem_append_right _ (List.mem_of_getElem? (i := 1067) rfl)) rfl
set_option maxRecDepth 100000 in
theorem wg_1068 : Cond.fieldLink "LoomkeeperModel" 66 "LoomkeeperModel" "until" "[I" ∈ lw_g := lg_in (List.mem_append_right _ (List.mem_of_getElem? (i := 1068) rfl)) rfl
set_option maxRecDepth 100000 in
theorem wg_1069 : Cond.fieldLink "LoomkeeperModel" 282 "LoomkeeperModel" "tokens" "I" ∈ lw_g := lg_in (List.mem_append_right _ (List.mem_of_getElem? (i := 1069) rfl)) rfl
set_option maxRecDepth 100000 in
theorem wg_1070 : Cond.fieldLink "LoomkeeperModel" 279 "LoomkeeperModel" "served" "I" ∈ lw_g := lg_in (List.mem_append_right _ (List.mem_of_getElem? (i := 1070) rfl)) rfl
set_option maxRecDepth 100000 in
theorem wg_1071 : Cond.fieldLink "LoomkeeperModel" 69 "LoomkeeperModel" "servedAt" "[I" ∈ lw_g := lg_in (List.mem_append_right _ (List.mem_of_getElem? (i := 1071) rfl)) rfl
set_option maxRecDepth 100000 in
theorem wg_1072 : Cond.fieldLink "LoomkeeperModel" 103 "LoomkeeperModel" "fits" "Z" ∈ lw_g := lg_in (List.mem_append_right _ (List.mem_of_getElem? (i := 1072) rfl)) rfl
set_option maxRecDepth 100000 in
theorem wg_1073 : Cond.fieldLink "LoomkeeperModel" 107 "LoomkeeperModel" "at" "I" ∈ lw_g := lg_in (List.mem_append_right _ (List.mem_of_getElem? (i := 1073) rfl)) rfl
set_option maxRecDepth 100000 in
theorem wg_1074 : Cond.fieldLink "LoomkeeperModel" 110 "LoomkeeperModel" "place" "I" ∈ lw_g := lg_in (List.mem_append_right _ (List.mem_of_getElem? (i := 1074) rfl)) rfl
set_option maxRecDepth 100000 in
theorem wg_1075 : Cond.fieldLink "LoomkeeperModel" 113 "LoomkeeperModel" "value" "I" ∈ lw_g := lg_in (List.mem_append_right _ (List.mem_of_getElem? (i := 1075) rfl)) rfl
set_option maxRecDepth 100000 in
theorem wg_1076 : Cond.fieldLink "LoomkeeperModel" 116 "LoomkeeperModel" "waits" "I" ∈ lw_g := lg_in (List.mem_append_right _ (List.mem_of_getElem? (i := 1076) rfl)) rfl
set_option maxRecDepth 100000 in
theorem wg_1077 : Cond.fieldLink "LoomkeeperModel" 119 "LoomkeeperModel" "waitsFor" "I" ∈ lw_g := lg_in (List.mem_append_right _ (List.mem_of_getElem? (i := 1077) rfl)) rfl
set_option maxRecDepth 100000 in
theorem wg_1078 : Cond.fieldLink "LoomkeeperModel" 122 "LoomkeeperModel" "piled" "I" ∈ lw_g := lg_in (List.mem_append_right _ (List.mem_of_getElem? (i := 1078) rfl)) rfl
set_option maxRecDepth 100000 in
theorem wg_1079 : Cond.fieldLink "LoomkeeperModel" 72 "LoomkeeperModel" "pile" "[I" ∈ lw_g := lg_in (List.mem_append_right _ (List.mem_of_getElem? (i := 1079) rfl)) rfl
set_option maxRecDepth 100000 in
theorem wg_1080 : Cond.fieldLink "LoomkeeperModel" 125 "LoomkeeperModel" "shielded" "Z" ∈ lw_g := lg_in (List.mem_append_right _ (List.mem_of_getElem? (i := 1080) rfl)) rfl
set_option maxRecDepth 100000 in
theorem wg_1081 : Cond.fieldLink "LoomkeeperModel" 128 "LoomkeeperModel" "asked" "Z" ∈ lw_g := lg_in (List.mem_append_right _ (List.mem_of_getElem? (i := 1081) rfl)) rfl
set_option maxRecDepth 100000 in
theorem wg_1082 : Cond.fieldLink "LoomkeeperModel" 131 "LoomkeeperModel" "ends" "I" ∈ lw_g := lg_in (List.mem_append_right _ (List.mem_of_getElem? (i := 1082) rfl)) rfl
set_option maxRecDepth 100000 in
theorem wg_1083 : Cond.fieldLink "LoomkeeperModel" 134 "LoomkeeperModel" "over" "I" ∈ lw_g := lg_in (List.mem_append_right _ (List.mem_of_getElem? (i := 1083) rfl)) rfl
set_option maxRecDepth 100000 in
theorem wg_1084 : Cond.fieldLink "LoomkeeperModel" 137 "LoomkeeperModel" "made" "I" ∈ lw_g := lg_in (List.mem_append_right _ (List.mem_of_getElem? (i := 1084) rfl)) rfl
set_option maxRecDepth 100000 in
theorem wg_1085 : Cond.fieldLink "LoomkeeperModel" 140 "LoomkeeperModel" "kept" "I" ∈ lw_g := lg_in (List.mem_append_right _ (List.mem_of_getElem? (i := 1085) rfl)) rfl
set_option maxRecDepth 100000 in
theorem wg_1086 : Cond.fieldLink "LoomkeeperModel" 75 "LoomkeeperModel" "signal" "[I" ∈ lw_g := lg_in (List.mem_append_right _ (List.mem_of_getElem? (i := 1086) rfl)) rfl
set_option maxRecDepth 100000 in
theorem wg_1087 : Cond.fieldLink "LoomkeeperModel" 78 "LoomkeeperModel" "with" "[I" ∈ lw_g := lg_in (List.mem_append_right _ (List.mem_of_getElem? (i := 1087) rfl)) rfl
set_option maxRecDepth 100000 in
theorem wg_1088 : Cond.fieldLink "LoomkeeperModel" 81 "LoomkeeperModel" "stack" "[I" ∈ lw_g := lg_in (List.mem_append_right _ (List.mem_of_getElem? (i := 1088) rfl)) rfl
set_option maxRecDepth 100000 in
theorem wg_1089 : Cond.fieldLink "LoomkeeperModel" 226 "LoomkeeperModel" "queued" "I" ∈ lw_g := lg_in (List.mem_append_right _ (List.mem_of_getElem? (i := 1089) rfl)) rfl
set_option maxRecDepth 100000 in
theorem wg_1090 : Cond.fieldLink "LoomkeeperModel" 84 "LoomkeeperModel" "queue" "[I" ∈ lw_g := lg_in (List.mem_append_right _ (List.mem_of_getElem? (i := 1090) rfl)) rfl
set_option maxRecDepth 100000 in
theorem wg_1091 : Cond.fieldLink "LoomkeeperModel" 159 "LoomkeeperModel" "wanted" "I" ∈ lw_g := lg_in (List.mem_append_right _ (List.mem_of_getElem? (i := 1091) rfl)) rfl
set_option maxRecDepth 100000 in
theorem wg_1092 : Cond.fieldLink "LoomkeeperModel" 87 "LoomkeeperModel" "want" "[I" ∈ lw_g := lg_in (List.mem_append_right _ (List.mem_of_getElem? (i := 1092) rfl)) rfl
set_option maxRecDepth 100000 in
theorem wg_1093 : Cond.fieldLink "LoomkeeperModel" 156 "LoomkeeperModel" "lives" "Z" ∈ lw_g := lg_in (List.mem_append_right _ (List.mem_of_getElem? (i := 1093) rfl)) rfl
set_option maxRecDepth 100000 in
theorem wg_1094 : Cond.fieldLink "LoomkeeperModel" 172 "LoomkeeperModel" "begun" "I" ∈ lw_g := lg_in (List.mem_append_right _ (List.mem_of_getElem? (i := 1094) rfl)) rfl
set_option maxRecDepth 100000 in
theorem wg_1095 : Cond.fieldLink "LoomkeeperModel" 204 "LoomkeeperModel" "due" "I" ∈ lw_g := lg_in (List.mem_append_right _ (List.mem_of_getElem? (i := 1095) rfl)) rfl
set_option maxRecDepth 100000 in
theorem wg_30 : Cond.code yX8_init prog_1_method_1_code 4 (none : Option Jvm.ClassFile.FieldType) ∈ lw_g := lg_in (List.mem_append_right _ (List.mem_of_getElem? (i := 30) rfl)) rfl
set_option maxRecDepth 100000 in
theorem wg_28 : Cond.methodLink "LoomkeeperLaw" 70 yX8_init ∈ lw_g := lg_in (List.mem_append_right _ (List.mem_of_getElem? (i := 28) rfl)) rfl
set_option maxRecDepth 100000 in
theorem wg_29 : Cond.instanceMethod yX8_init ∈ lw_g := lg_in (List.mem_append_right _ (List.mem_of_getElem? (i := 29) rfl)) rfl
set_option maxRecDepth 100000 in
theorem wg_42 : Cond.code yJx4a65c_init_da8c8 prog_26_method_2_code 1 (none : Option Jvm.ClassFile.FieldType) ∈ lw_g := lg_in (List.mem_append_right _ (List.mem_of_getElem? (i := 42) rfl)) rfl
set_option maxRecDepth 100000 in
theorem wg_40 : Cond.methodLink "Loomkeeper" 27 yJx4a65c_init_da8c8 ∈ lw_g := lg_in (List.mem_append_right _ (List.mem_of_getElem? (i := 40) rfl)) rfl
set_option maxRecDepth 100000 in
theorem wg_41 : Cond.instanceMethod yJx4a65c_init_da8c8 ∈ lw_g := lg_in (List.mem_append_right _ (List.mem_of_getElem? (i := 41) rfl)) rfl
set_option maxRecDepth 100000 in
theorem wg_45 : Cond.code yJxc12de_init_da8c8 prog_25_method_1_code 1 (none : Option Jvm.ClassFile.FieldType) ∈ lw_g := lg_in (List.mem_append_right _ (List.mem_of_getElem? (i := 45) rfl)) rfl
set_option maxRecDepth 100000 in
theorem wg_43 : Cond.methodLink "java/util/ArrayList" 1 yJxc12de_init_da8c8 ∈ lw_g := lg_in (List.mem_append_right _ (List.mem_of_getElem? (i := 43) rfl)) rfl
set_option maxRecDepth 100000 in
theorem wg_3 : Cond.initialized "java/util/AbstractList" ∈ lw_g := lg_in (List.mem_append_right _ (List.mem_of_getElem? (i := 3) rfl)) rfl
set_option maxRecDepth 100000 in
theorem wg_44 : Cond.instanceMethod yJxc12de_init_da8c8 ∈ lw_g := lg_in (List.mem_append_right _ (List.mem_of_getElem? (i := 44) rfl)) rfl
set_option maxRecDepth 100000 in
theorem wg_48 : Cond.code yJxa1e45_init_da8c8 prog_24_method_1_code 1 (none : Option Jvm.ClassFile.FieldType) ∈ lw_g := lg_in (List.mem_append_right _ (List.mem_of_getElem? (i := 48) rfl)) rfl
set_option maxRecDepth 100000 in
theorem wg_46 : Cond.methodLink "java/util/AbstractList" 1 yJxa1e45_init_da8c8 ∈ lw_g := lg_in (List.mem_append_right _ (List.mem_of_getElem? (i := 46) rfl)) rfl
set_option maxRecDepth 100000 in
theorem wg_2 : Cond.initialized "java/util/AbstractCollection" ∈ lw_g := lg_in (List.mem_append_right _ (List.mem_of_getElem? (i := 2) rfl)) rfl
set_option maxRecDepth 100000 in
theorem wg_47 : Cond.instanceMethod yJxa1e45_init_da8c8 ∈ lw_g := lg_in (List.mem_append_right _ (List.mem_of_getElem? (i := 47) rfl)) rfl
set_option maxRecDepth 100000 in
theorem wg_69 : Cond.code yX2_init prog_4_method_1_code 1 (none : Option Jvm.ClassFile.FieldType) ∈ lw_g := lg_in (List.mem_append_right _ (List.mem_of_getElem? (i := 69) rfl)) rfl
set_option maxRecDepth 100000 in
theorem wn_67 : Cond.methodLinkNest "Loomkeeper" 34 yX2_init "Loomkeeper" ∈ lw_n := ln_in (List.mem_append_right _ (List.mem_of_getElem? (i := 67) rfl)) rfl
set_option maxRecDepth 100000 in
theorem wg_68 : Cond.instanceMethod yX2_init ∈ lw_g := lg_in (List.mem_append_right _ (List.mem_of_getElem? (i := 68) rfl)) rfl
set_option maxRecDepth 100000 in
theorem wg_85 : Cond.code yX4_init prog_6_method_1_code 2 (none : Option Jvm.ClassFile.FieldType) ∈ lw_g := lg_in (List.mem_append_right _ (List.mem_of_getElem? (i := 85) rfl)) rfl
set_option maxRecDepth 100000 in
theorem wg_83 : Cond.methodLink "Loomkeeper" 46 yX4_init ∈ lw_g := lg_in (List.mem_append_right _ (List.mem_of_getElem? (i := 83) rfl)) rfl
set_option maxRecDepth 100000 in
theorem wg_84 : Cond.instanceMethod yX4_init ∈ lw_g := lg_in (List.mem_append_right _ (List.mem_of_getElem? (i := 84) rfl)) rfl
set_option maxRecDepth 100000 in
theorem wg_105 : Cond.code yX1_init prog_3_method_1_code 1 (none : Option Jvm.ClassFile.FieldType) ∈ lw_g := lg_in (List.mem_append_right _ (List.mem_of_getElem? (i := 105) rfl)) rfl
set_option maxRecDepth 100000 in
theorem wn_103 : Cond.methodLinkNest "Loomkeeper" 51 yX1_init "Loomkeeper" ∈ lw_n := ln_in (List.mem_append_right _ (List.mem_of_getElem? (i := 103) rfl)) rfl
set_option maxRecDepth 100000 in
theorem wg_104 : Cond.instanceMethod yX1_init ∈ lw_g := lg_in (List.mem_append_right _ (List.mem_of_getElem? (i := 104) rfl)) rfl
set_option maxRecDepth 100000 in
theorem wg_124 : Cond.code yX5_init prog_7_method_1_code 3 (none : Option Jvm.ClassFile.FieldType) ∈ lw_g := lg_in (List.mem_append_right _ (List.mem_of_getElem? (i := 124) rfl)) rfl
set_option maxRecDepth 100000 in
theorem wg_122 : Cond.methodLink "Loomkeeper" 54 yX5_init ∈ lw_g := lg_in (List.mem_append_right _ (List.mem_of_getElem? (i := 122) rfl)) rfl
set_option maxRecDepth 100000 in
theorem wg_123 : Cond.instanceMethod yX5_init ∈ lw_g := lg_in (List.mem_append_right _ (List.mem_of_getElem? (i := 123) rfl)) rfl
set_option maxRecDepth 100000 in
theorem wg_130 : Cond.code yX3_init prog_5_method_1_code 1 (none : Option Jvm.ClassFile.FieldType) ∈ lw_g := lg_in (List.mem_append_right _ (List.mem_of_getElem? (i := 130) rfl)) rfl
set_option maxRecDepth 100000 in
theorem wn_128 : Cond.methodLinkNest "Loomkeeper$Run" 11 yX3_init "Loomkeeper" ∈ lw_n := ln_in (List.mem_append_right _ (List.mem_of_getElem? (i := 128) rfl)) rfl
set_option maxRecDepth 100000 in
theorem wg_129 : Cond.instanceMethod yX3_init ∈ lw_g := lg_in (List.mem_append_right _ (List.mem_of_getElem? (i := 129) rfl)) rfl
set_option maxRecDepth 100000 in
theorem wg_144 : Cond.code yX6_init prog_8_method_1_code 1 (none : Option Jvm.ClassFile.FieldType) ∈ lw_g := lg_in (List.mem_append_right _ (List.mem_of_getElem? (i := 144) rfl)) rfl
set_option maxRecDepth 100000 in
theorem wn_142 : Cond.methodLinkNest "Loomkeeper$Run" 20 yX6_init "Loomkeeper" ∈ lw_n := ln_in (List.mem_append_right _ (List.mem_of_getElem? (i := 142) rfl)) rfl
set_option maxRecDepth 100000 in
theorem wg_143 : Cond.instanceMethod yX6_init ∈ lw_g := lg_in (List.mem_append_right _ (List.mem_of_getElem? (i := 143) rfl)) rfl
set_option maxRecDepth 100000 in
theorem wg_234 : Cond.code yX0_init prog_2_method_1_code 5 (none : Option Jvm.ClassFile.FieldType) ∈ lw_g := lg_in (List.mem_append_right _ (List.mem_of_getElem? (i := 234) rfl)) rfl
set_option maxRecDepth 100000 in
theorem wg_232 : Cond.methodLink "Loomkeeper" 57 yX0_init ∈ lw_g := lg_in (List.mem_append_right _ (List.mem_of_getElem? (i := 232) rfl)) rfl
set_option maxRecDepth 100000 in
theorem wg_233 : Cond.instanceMethod yX0_init ∈ lw_g := lg_in (List.mem_append_right _ (List.mem_of_getElem? (i := 233) rfl)) rfl
set_option maxRecDepth 100000 in
theorem wg_313 : Cond.code yX8_crash prog_1_method_8_code 4 (some .int) ∈ lw_g := lg_in (List.mem_append_right _ (List.mem_of_getElem? (i := 313) rfl)) rfl
set_option maxRecDepth 100000 in
theorem wg_310 : Cond.methodLink "LoomkeeperLaw" 98 yX8_crash ∈ lw_g := lg_in (List.mem_append_right _ (List.mem_of_getElem? (i := 310) rfl)) rfl
set_option maxRecDepth 100000 in
theorem wg_312 : Cond.selects "Loomkeeper" yX8_crash yX8_crash ∈ lw_g := lg_in (List.mem_append_right _ (List.mem_of_getElem? (i := 312) rfl)) rfl
set_option maxRecDepth 100000 in
theorem wg_311 : Cond.instanceMethod yX8_crash ∈ lw_g := lg_in (List.mem_append_right _ (List.mem_of_getElem? (i := 311) rfl)) rfl
set_option maxRecDepth 100000 in
theorem wg_317 : Cond.code yX8_flowAt prog_1_method_28_code 3 (some (.object "Loomkeeper$Flow")) ∈ lw_g := lg_in (List.mem_append_right _ (List.mem_of_getElem? (i := 317) rfl)) rfl
set_option maxRecDepth 100000 in
theorem wg_314 : Cond.methodLink "Loomkeeper" 99 yX8_flowAt ∈ lw_g := lg_in (List.mem_append_right _ (List.mem_of_getElem? (i := 314) rfl)) rfl
set_option maxRecDepth 100000 in
theorem ws_0 : Cond.selects RX8 yX8_flowAt yX8_flowAt ∈ lw_g := lg_in (List.mem_append_left _ (List.mem_of_getElem? (i := 0) rfl)) rfl
set_option maxRecDepth 100000 in
theorem wg_316 : Cond.instanceMethod yX8_flowAt ∈ lw_g := lg_in (List.mem_append_right _ (List.mem_of_getElem? (i := 316) rfl)) rfl
set_option maxRecDepth 100000 in
theorem wg_321 : Cond.code yX0_hasEnded prog_2_method_2_code 1 (some .boolean) ∈ lw_g := lg_in (List.mem_append_right _ (List.mem_of_getElem? (i := 321) rfl)) rfl
set_option maxRecDepth 100000 in
theorem wg_318 : Cond.methodLink "Loomkeeper" 107 yX0_hasEnded ∈ lw_g := lg_in (List.mem_append_right _ (List.mem_of_getElem? (i := 318) rfl)) rfl
set_option maxRecDepth 100000 in
theorem wg_320 : Cond.selects "Loomkeeper$Flow" yX0_hasEnded yX0_hasEnded ∈ lw_g := lg_in (List.mem_append_right _ (List.mem_of_getElem? (i := 320) rfl)) rfl
set_option maxRecDepth 100000 in
theorem wg_319 : Cond.instanceMethod yX0_hasEnded ∈ lw_g := lg_in (List.mem_append_right _ (List.mem_of_getElem? (i := 319) rfl)) rfl
set_option maxRecDepth 100000 in
theorem wg_325 : Cond.code yX1_ending prog_3_method_6_code 1 (some .int) ∈ lw_g := lg_in (List.mem_append_right _ (List.mem_of_getElem? (i := 325) rfl)) rfl
set_option maxRecDepth 100000 in
theorem wg_322 : Cond.methodLink "Loomkeeper$Flow" 36 yX1_ending ∈ lw_g := lg_in (List.mem_append_right _ (List.mem_of_getElem? (i := 322) rfl)) rfl
set_option maxRecDepth 100000 in
theorem wg_324 : Cond.selects "Loomkeeper$History" yX1_ending yX1_ending ∈ lw_g := lg_in (List.mem_append_right _ (List.mem_of_getElem? (i := 324) rfl)) rfl
set_option maxRecDepth 100000 in
theorem wg_323 : Cond.instanceMethod yX1_ending ∈ lw_g := lg_in (List.mem_append_right _ (List.mem_of_getElem? (i := 323) rfl)) rfl
set_option maxRecDepth 100000 in
theorem wg_329 : Cond.code yX1_kindAt prog_3_method_4_code 2 (some .int) ∈ lw_g := lg_in (List.mem_append_right _ (List.mem_of_getElem? (i := 329) rfl)) rfl
set_option maxRecDepth 100000 in
theorem wg_326 : Cond.methodLink "Loomkeeper$History" 23 yX1_kindAt ∈ lw_g := lg_in (List.mem_append_right _ (List.mem_of_getElem? (i := 326) rfl)) rfl
set_option maxRecDepth 100000 in
theorem wg_328 : Cond.selects "Loomkeeper$History" yX1_kindAt yX1_kindAt ∈ lw_g := lg_in (List.mem_append_right _ (List.mem_of_getElem? (i := 328) rfl)) rfl
set_option maxRecDepth 100000 in
theorem wg_327 : Cond.instanceMethod yX1_kindAt ∈ lw_g := lg_in (List.mem_append_right _ (List.mem_of_getElem? (i := 327) rfl)) rfl
set_option maxRecDepth 100000 in
theorem wg_333 : Cond.code yX1_numberAt prog_3_method_5_code 2 (some .long) ∈ lw_g := lg_in (List.mem_append_right _ (List.mem_of_getElem? (i := 333) rfl)) rfl
set_option maxRecDepth 100000 in
theorem wg_330 : Cond.methodLink "Loomkeeper$History" 27 yX1_numberAt ∈ lw_g := lg_in (List.mem_append_right _ (List.mem_of_getElem? (i := 330) rfl)) rfl
set_option maxRecDepth 100000 in
theorem wg_332 : Cond.selects "Loomkeeper$History" yX1_numberAt yX1_numberAt ∈ lw_g := lg_in (List.mem_append_right _ (List.mem_of_getElem? (i := 332) rfl)) rfl
set_option maxRecDepth 100000 in
theorem wg_331 : Cond.instanceMethod yX1_numberAt ∈ lw_g := lg_in (List.mem_append_right _ (List.mem_of_getElem? (i := 331) rfl)) rfl
set_option maxRecDepth 100000 in
theorem wg_337 : Cond.code yJ9_floorMod_f86c9 prog_19_method_52_code 6 (some .long) ∈ lw_g := lg_in (List.mem_append_right _ (List.mem_of_getElem? (i := 337) rfl)) rfl
set_option maxRecDepth 100000 in
theorem wg_335 : Cond.methodLink "Loomkeeper$History" 33 yJ9_floorMod_f86c9 ∈ lw_g := lg_in (List.mem_append_right _ (List.mem_of_getElem? (i := 335) rfl)) rfl
set_option maxRecDepth 100000 in
theorem wg_18 : Cond.initialized "java/lang/Math" ∈ lw_g := lg_in (List.mem_append_right _ (List.mem_of_getElem? (i := 18) rfl)) rfl
set_option maxRecDepth 100000 in
theorem wg_336 : Cond.static yJ9_floorMod_f86c9 ∈ lw_g := lg_in (List.mem_append_right _ (List.mem_of_getElem? (i := 336) rfl)) rfl
set_option maxRecDepth 100000 in
theorem wg_341 : Cond.code yX0_findAgain prog_2_method_6_code 1 (none : Option Jvm.ClassFile.FieldType) ∈ lw_g := lg_in (List.mem_append_right _ (List.mem_of_getElem? (i := 341) rfl)) rfl
set_option maxRecDepth 100000 in
theorem wg_338 : Cond.methodLink "Loomkeeper" 193 yX0_findAgain ∈ lw_g := lg_in (List.mem_append_right _ (List.mem_of_getElem? (i := 338) rfl)) rfl
set_option maxRecDepth 100000 in
theorem wg_340 : Cond.selects "Loomkeeper$Flow" yX0_findAgain yX0_findAgain ∈ lw_g := lg_in (List.mem_append_right _ (List.mem_of_getElem? (i := 340) rfl)) rfl
set_option maxRecDepth 100000 in
theorem wg_339 : Cond.instanceMethod yX0_findAgain ∈ lw_g := lg_in (List.mem_append_right _ (List.mem_of_getElem? (i := 339) rfl)) rfl
set_option maxRecDepth 100000 in
theorem wg_345 : Cond.code yX5_begin prog_7_method_2_code 3 (none : Option Jvm.ClassFile.FieldType) ∈ lw_g := lg_in (List.mem_append_right _ (List.mem_of_getElem? (i := 345) rfl)) rfl
set_option maxRecDepth 100000 in
theorem wg_342 : Cond.methodLink "Loomkeeper$Flow" 61 yX5_begin ∈ lw_g := lg_in (List.mem_append_right _ (List.mem_of_getElem? (i := 342) rfl)) rfl
set_option maxRecDepth 100000 in
theorem wg_344 : Cond.selects "Loomkeeper$Run" yX5_begin yX5_begin ∈ lw_g := lg_in (List.mem_append_right _ (List.mem_of_getElem? (i := 344) rfl)) rfl
set_option maxRecDepth 100000 in
theorem wg_343 : Cond.instanceMethod yX5_begin ∈ lw_g := lg_in (List.mem_append_right _ (List.mem_of_getElem? (i := 343) rfl)) rfl
set_option maxRecDepth 100000 in
theorem wg_346 : Cond.methodLink "Loomkeeper$Run" 44 yX1_numberAt ∈ lw_g := lg_in (List.mem_append_right _ (List.mem_of_getElem? (i := 346) rfl)) rfl
set_option maxRecDepth 100000 in
theorem wg_350 : Cond.code yX1_size prog_3_method_3_code 1 (some .int) ∈ lw_g := lg_in (List.mem_append_right _ (List.mem_of_getElem? (i := 350) rfl)) rfl
set_option maxRecDepth 100000 in
theorem wg_347 : Cond.methodLink "Loomkeeper$Flow" 46 yX1_size ∈ lw_g := lg_in (List.mem_append_right _ (List.mem_of_getElem? (i := 347) rfl)) rfl
set_option maxRecDepth 100000 in
theorem wg_349 : Cond.selects "Loomkeeper$History" yX1_size yX1_size ∈ lw_g := lg_in (List.mem_append_right _ (List.mem_of_getElem? (i := 349) rfl)) rfl
set_option maxRecDepth 100000 in
theorem wg_348 : Cond.instanceMethod yX1_size ∈ lw_g := lg_in (List.mem_append_right _ (List.mem_of_getElem? (i := 348) rfl)) rfl
set_option maxRecDepth 100000 in
theorem wg_354 : Cond.code yX5_advance prog_7_method_7_code 5 (none : Option Jvm.ClassFile.FieldType) ∈ lw_g := lg_in (List.mem_append_right _ (List.mem_of_getElem? (i := 354) rfl)) rfl
set_option maxRecDepth 100000 in
theorem wg_351 : Cond.methodLink "Loomkeeper$Flow" 65 yX5_advance ∈ lw_g := lg_in (List.mem_append_right _ (List.mem_of_getElem? (i := 351) rfl)) rfl
set_option maxRecDepth 100000 in
theorem wg_353 : Cond.selects "Loomkeeper$Run" yX5_advance yX5_advance ∈ lw_g := lg_in (List.mem_append_right _ (List.mem_of_getElem? (i := 353) rfl)) rfl
set_option maxRecDepth 100000 in
theorem wg_352 : Cond.instanceMethod yX5_advance ∈ lw_g := lg_in (List.mem_append_right _ (List.mem_of_getElem? (i := 352) rfl)) rfl
set_option maxRecDepth 100000 in
theorem wg_359 : Cond.code yX5_takeWanted prog_7_method_11_code 6 (none : Option Jvm.ClassFile.FieldType) ∈ lw_g := lg_in (List.mem_append_right _ (List.mem_of_getElem? (i := 359) rfl)) rfl
set_option maxRecDepth 100000 in
theorem wg_356 : Cond.methodLink "Loomkeeper$Run" 95 yX5_takeWanted ∈ lw_g := lg_in (List.mem_append_right _ (List.mem_of_getElem? (i := 356) rfl)) rfl
set_option maxRecDepth 100000 in
theorem ws_1 : Cond.selects RX5 yX5_takeWanted yX5_takeWanted ∈ lw_g := lg_in (List.mem_append_left _ (List.mem_of_getElem? (i := 1) rfl)) rfl
set_option maxRecDepth 100000 in
theorem wg_358 : Cond.instanceMethod yX5_takeWanted ∈ lw_g := lg_in (List.mem_append_right _ (List.mem_of_getElem? (i := 358) rfl)) rfl
set_option maxRecDepth 100000 in
theorem wg_360 : Cond.methodLink "Loomkeeper$Run" 118 yX1_kindAt ∈ lw_g := lg_in (List.mem_append_right _ (List.mem_of_getElem? (i := 360) rfl)) rfl
set_option maxRecDepth 100000 in
theorem wg_364 : Cond.code yX5_failNow prog_7_method_10_code 1 (none : Option Jvm.ClassFile.FieldType) ∈ lw_g := lg_in (List.mem_append_right _ (List.mem_of_getElem? (i := 364) rfl)) rfl
set_option maxRecDepth 100000 in
theorem wg_361 : Cond.methodLink "Loomkeeper$Run" 122 yX5_failNow ∈ lw_g := lg_in (List.mem_append_right _ (List.mem_of_getElem? (i := 361) rfl)) rfl
set_option maxRecDepth 100000 in
theorem ws_2 : Cond.selects RX5 yX5_failNow yX5_failNow ∈ lw_g := lg_in (List.mem_append_left _ (List.mem_of_getElem? (i := 2) rfl)) rfl
set_option maxRecDepth 100000 in
theorem wg_363 : Cond.instanceMethod yX5_failNow ∈ lw_g := lg_in (List.mem_append_right _ (List.mem_of_getElem? (i := 363) rfl)) rfl
set_option maxRecDepth 100000 in
theorem wg_368 : Cond.code yX5_follow prog_7_method_12_code 4 (none : Option Jvm.ClassFile.FieldType) ∈ lw_g := lg_in (List.mem_append_right _ (List.mem_of_getElem? (i := 368) rfl)) rfl
set_option maxRecDepth 100000 in
theorem wg_365 : Cond.methodLink "Loomkeeper$Run" 125 yX5_follow ∈ lw_g := lg_in (List.mem_append_right _ (List.mem_of_getElem? (i := 365) rfl)) rfl
set_option maxRecDepth 100000 in
theorem ws_3 : Cond.selects RX5 yX5_follow yX5_follow ∈ lw_g := lg_in (List.mem_append_left _ (List.mem_of_getElem? (i := 3) rfl)) rfl
set_option maxRecDepth 100000 in
theorem wg_367 : Cond.instanceMethod yX5_follow ∈ lw_g := lg_in (List.mem_append_right _ (List.mem_of_getElem? (i := 367) rfl)) rfl
set_option maxRecDepth 100000 in
theorem wg_375 : Cond.code yX5_want prog_7_method_8_code 4 (none : Option Jvm.ClassFile.FieldType) ∈ lw_g := lg_in (List.mem_append_right _ (List.mem_of_getElem? (i := 375) rfl)) rfl
set_option maxRecDepth 100000 in
theorem wg_372 : Cond.methodLink "Loomkeeper$Run" 114 yX5_want ∈ lw_g := lg_in (List.mem_append_right _ (List.mem_of_getElem? (i := 372) rfl)) rfl
set_option maxRecDepth 100000 in
theorem ws_4 : Cond.selects RX5 yX5_want yX5_want ∈ lw_g := lg_in (List.mem_append_left _ (List.mem_of_getElem? (i := 4) rfl)) rfl
set_option maxRecDepth 100000 in
theorem wg_374 : Cond.instanceMethod yX5_want ∈ lw_g := lg_in (List.mem_append_right _ (List.mem_of_getElem? (i := 374) rfl)) rfl
set_option maxRecDepth 100000 in
theorem wg_379 : Cond.code yX5_takeAwaited prog_7_method_13_code 5 (none : Option Jvm.ClassFile.FieldType) ∈ lw_g := lg_in (List.mem_append_right _ (List.mem_of_getElem? (i := 379) rfl)) rfl
set_option maxRecDepth 100000 in
theorem wg_376 : Cond.methodLink "Loomkeeper$Run" 99 yX5_takeAwaited ∈ lw_g := lg_in (List.mem_append_right _ (List.mem_of_getElem? (i := 376) rfl)) rfl
set_option maxRecDepth 100000 in
theorem ws_5 : Cond.selects RX5 yX5_takeAwaited yX5_takeAwaited ∈ lw_g := lg_in (List.mem_append_left _ (List.mem_of_getElem? (i := 5) rfl)) rfl
set_option maxRecDepth 100000 in
theorem wg_378 : Cond.instanceMethod yX5_takeAwaited ∈ lw_g := lg_in (List.mem_append_right _ (List.mem_of_getElem? (i := 378) rfl)) rfl
set_option maxRecDepth 100000 in
theorem wg_383 : Cond.code yX5_receive prog_7_method_14_code 3 (none : Option Jvm.ClassFile.FieldType) ∈ lw_g := lg_in (List.mem_append_right _ (List.mem_of_getElem? (i := 383) rfl)) rfl
set_option maxRecDepth 100000 in
theorem wg_380 : Cond.methodLink "Loomkeeper$Run" 132 yX5_receive ∈ lw_g := lg_in (List.mem_append_right _ (List.mem_of_getElem? (i := 380) rfl)) rfl
set_option maxRecDepth 100000 in
theorem ws_6 : Cond.selects RX5 yX5_receive yX5_receive ∈ lw_g := lg_in (List.mem_append_left _ (List.mem_of_getElem? (i := 6) rfl)) rfl
set_option maxRecDepth 100000 in
theorem wg_382 : Cond.instanceMethod yX5_receive ∈ lw_g := lg_in (List.mem_append_right _ (List.mem_of_getElem? (i := 382) rfl)) rfl
set_option maxRecDepth 100000 in
theorem wg_387 : Cond.code yX6_keep prog_8_method_3_code 2 (none : Option Jvm.ClassFile.FieldType) ∈ lw_g := lg_in (List.mem_append_right _ (List.mem_of_getElem? (i := 387) rfl)) rfl
set_option maxRecDepth 100000 in
theorem wg_384 : Cond.methodLink "Loomkeeper$Run" 143 yX6_keep ∈ lw_g := lg_in (List.mem_append_right _ (List.mem_of_getElem? (i := 384) rfl)) rfl
set_option maxRecDepth 100000 in
theorem wg_386 : Cond.selects "Loomkeeper$Signals" yX6_keep yX6_keep ∈ lw_g := lg_in (List.mem_append_right _ (List.mem_of_getElem? (i := 386) rfl)) rfl
set_option maxRecDepth 100000 in
theorem wg_385 : Cond.instanceMethod yX6_keep ∈ lw_g := lg_in (List.mem_append_right _ (List.mem_of_getElem? (i := 385) rfl)) rfl
set_option maxRecDepth 100000 in
theorem wg_391 : Cond.code yX5_beAsked prog_7_method_15_code 1 (none : Option Jvm.ClassFile.FieldType) ∈ lw_g := lg_in (List.mem_append_right _ (List.mem_of_getElem? (i := 391) rfl)) rfl
set_option maxRecDepth 100000 in
theorem wg_388 : Cond.methodLink "Loomkeeper$Run" 136 yX5_beAsked ∈ lw_g := lg_in (List.mem_append_right _ (List.mem_of_getElem? (i := 388) rfl)) rfl
set_option maxRecDepth 100000 in
theorem ws_7 : Cond.selects RX5 yX5_beAsked yX5_beAsked ∈ lw_g := lg_in (List.mem_append_left _ (List.mem_of_getElem? (i := 7) rfl)) rfl
set_option maxRecDepth 100000 in
theorem wg_390 : Cond.instanceMethod yX5_beAsked ∈ lw_g := lg_in (List.mem_append_right _ (List.mem_of_getElem? (i := 390) rfl)) rfl
set_option maxRecDepth 100000 in
theorem wg_395 : Cond.code yX5_takeEnded prog_7_method_16_code 3 (none : Option Jvm.ClassFile.FieldType) ∈ lw_g := lg_in (List.mem_append_right _ (List.mem_of_getElem? (i := 395) rfl)) rfl
set_option maxRecDepth 100000 in
theorem wg_392 : Cond.methodLink "Loomkeeper$Run" 139 yX5_takeEnded ∈ lw_g := lg_in (List.mem_append_right _ (List.mem_of_getElem? (i := 392) rfl)) rfl
set_option maxRecDepth 100000 in
theorem ws_8 : Cond.selects RX5 yX5_takeEnded yX5_takeEnded ∈ lw_g := lg_in (List.mem_append_left _ (List.mem_of_getElem? (i := 8) rfl)) rfl
set_option maxRecDepth 100000 in
theorem wg_394 : Cond.instanceMethod yX5_takeEnded ∈ lw_g := lg_in (List.mem_append_right _ (List.mem_of_getElem? (i := 394) rfl)) rfl
set_option maxRecDepth 100000 in
theorem wg_396 : Cond.methodLink "Loomkeeper$Run" 146 yJ9_floorMod_f86c9 ∈ lw_g := lg_in (List.mem_append_right _ (List.mem_of_getElem? (i := 396) rfl)) rfl
set_option maxRecDepth 100000 in
theorem wg_399 : Cond.code yJ9_floorDiv_f86c9 prog_19_method_49_code 6 (some .long) ∈ lw_g := lg_in (List.mem_append_right _ (List.mem_of_getElem? (i := 399) rfl)) rfl
set_option maxRecDepth 100000 in
theorem wg_397 : Cond.methodLink "Loomkeeper$Run" 152 yJ9_floorDiv_f86c9 ∈ lw_g := lg_in (List.mem_append_right _ (List.mem_of_getElem? (i := 397) rfl)) rfl
set_option maxRecDepth 100000 in
theorem wg_398 : Cond.static yJ9_floorDiv_f86c9 ∈ lw_g := lg_in (List.mem_append_right _ (List.mem_of_getElem? (i := 398) rfl)) rfl
set_option maxRecDepth 100000 in
theorem wg_403 : Cond.code yX5_undo prog_7_method_9_code 2 (none : Option Jvm.ClassFile.FieldType) ∈ lw_g := lg_in (List.mem_append_right _ (List.mem_of_getElem? (i := 403) rfl)) rfl
set_option maxRecDepth 100000 in
theorem wg_400 : Cond.methodLink "Loomkeeper$Run" 102 yX5_undo ∈ lw_g := lg_in (List.mem_append_right _ (List.mem_of_getElem? (i := 400) rfl)) rfl
set_option maxRecDepth 100000 in
theorem ws_9 : Cond.selects RX5 yX5_undo yX5_undo ∈ lw_g := lg_in (List.mem_append_left _ (List.mem_of_getElem? (i := 9) rfl)) rfl
set_option maxRecDepth 100000 in
theorem wg_402 : Cond.instanceMethod yX5_undo ∈ lw_g := lg_in (List.mem_append_right _ (List.mem_of_getElem? (i := 402) rfl)) rfl
set_option maxRecDepth 100000 in
theorem wg_407 : Cond.code yX3_pop prog_5_method_5_code 2 (some .int) ∈ lw_g := lg_in (List.mem_append_right _ (List.mem_of_getElem? (i := 407) rfl)) rfl
set_option maxRecDepth 100000 in
theorem wg_404 : Cond.methodLink "Loomkeeper$Run" 108 yX3_pop ∈ lw_g := lg_in (List.mem_append_right _ (List.mem_of_getElem? (i := 404) rfl)) rfl
set_option maxRecDepth 100000 in
theorem wg_406 : Cond.selects "Loomkeeper$Pile" yX3_pop yX3_pop ∈ lw_g := lg_in (List.mem_append_right _ (List.mem_of_getElem? (i := 406) rfl)) rfl
set_option maxRecDepth 100000 in
theorem wg_405 : Cond.instanceMethod yX3_pop ∈ lw_g := lg_in (List.mem_append_right _ (List.mem_of_getElem? (i := 405) rfl)) rfl
set_option maxRecDepth 100000 in
theorem wg_411 : Cond.code yX5_step prog_7_method_17_code 4 (none : Option Jvm.ClassFile.FieldType) ∈ lw_g := lg_in (List.mem_append_right _ (List.mem_of_getElem? (i := 411) rfl)) rfl
set_option maxRecDepth 100000 in
theorem wg_408 : Cond.methodLink "Loomkeeper$Run" 105 yX5_step ∈ lw_g := lg_in (List.mem_append_right _ (List.mem_of_getElem? (i := 408) rfl)) rfl
set_option maxRecDepth 100000 in
theorem ws_10 : Cond.selects RX5 yX5_step yX5_step ∈ lw_g := lg_in (List.mem_append_left _ (List.mem_of_getElem? (i := 10) rfl)) rfl
set_option maxRecDepth 100000 in
theorem wg_410 : Cond.instanceMethod yX5_step ∈ lw_g := lg_in (List.mem_append_right _ (List.mem_of_getElem? (i := 410) rfl)) rfl
set_option maxRecDepth 100000 in
theorem wg_415 : Cond.code yX4_operation prog_6_method_3_code 2 (some .int) ∈ lw_g := lg_in (List.mem_append_right _ (List.mem_of_getElem? (i := 415) rfl)) rfl
set_option maxRecDepth 100000 in
theorem wg_412 : Cond.methodLink "Loomkeeper$Run" 155 yX4_operation ∈ lw_g := lg_in (List.mem_append_right _ (List.mem_of_getElem? (i := 412) rfl)) rfl
set_option maxRecDepth 100000 in
theorem wg_414 : Cond.selects "Loomkeeper$Program" yX4_operation yX4_operation ∈ lw_g := lg_in (List.mem_append_right _ (List.mem_of_getElem? (i := 414) rfl)) rfl
set_option maxRecDepth 100000 in
theorem wg_413 : Cond.instanceMethod yX4_operation ∈ lw_g := lg_in (List.mem_append_right _ (List.mem_of_getElem? (i := 413) rfl)) rfl
set_option maxRecDepth 100000 in
theorem wg_419 : Cond.code yX4_first prog_6_method_4_code 2 (some .int) ∈ lw_g := lg_in (List.mem_append_right _ (List.mem_of_getElem? (i := 419) rfl)) rfl
set_option maxRecDepth 100000 in
theorem wg_416 : Cond.methodLink "Loomkeeper$Run" 160 yX4_first ∈ lw_g := lg_in (List.mem_append_right _ (List.mem_of_getElem? (i := 416) rfl)) rfl
set_option maxRecDepth 100000 in
theorem wg_418 : Cond.selects "Loomkeeper$Program" yX4_first yX4_first ∈ lw_g := lg_in (List.mem_append_right _ (List.mem_of_getElem? (i := 418) rfl)) rfl
set_option maxRecDepth 100000 in
theorem wg_417 : Cond.instanceMethod yX4_first ∈ lw_g := lg_in (List.mem_append_right _ (List.mem_of_getElem? (i := 417) rfl)) rfl
set_option maxRecDepth 100000 in
theorem wg_423 : Cond.code yX4_second prog_6_method_5_code 2 (some .int) ∈ lw_g := lg_in (List.mem_append_right _ (List.mem_of_getElem? (i := 423) rfl)) rfl
set_option maxRecDepth 100000 in
theorem wg_420 : Cond.methodLink "Loomkeeper$Run" 163 yX4_second ∈ lw_g := lg_in (List.mem_append_right _ (List.mem_of_getElem? (i := 420) rfl)) rfl
set_option maxRecDepth 100000 in
theorem wg_422 : Cond.selects "Loomkeeper$Program" yX4_second yX4_second ∈ lw_g := lg_in (List.mem_append_right _ (List.mem_of_getElem? (i := 422) rfl)) rfl
set_option maxRecDepth 100000 in
theorem wg_421 : Cond.instanceMethod yX4_second ∈ lw_g := lg_in (List.mem_append_right _ (List.mem_of_getElem? (i := 421) rfl)) rfl
set_option maxRecDepth 100000 in
theorem wg_427 : Cond.code yX5_isRefused prog_7_method_19_code 3 (some .boolean) ∈ lw_g := lg_in (List.mem_append_right _ (List.mem_of_getElem? (i := 427) rfl)) rfl
set_option maxRecDepth 100000 in
theorem wg_424 : Cond.methodLink "Loomkeeper$Run" 166 yX5_isRefused ∈ lw_g := lg_in (List.mem_append_right _ (List.mem_of_getElem? (i := 424) rfl)) rfl
set_option maxRecDepth 100000 in
theorem ws_11 : Cond.selects RX5 yX5_isRefused yX5_isRefused ∈ lw_g := lg_in (List.mem_append_left _ (List.mem_of_getElem? (i := 11) rfl)) rfl
set_option maxRecDepth 100000 in
theorem wg_426 : Cond.instanceMethod yX5_isRefused ∈ lw_g := lg_in (List.mem_append_right _ (List.mem_of_getElem? (i := 426) rfl)) rfl
set_option maxRecDepth 100000 in
theorem wg_431 : Cond.code yX3_isFull prog_5_method_3_code 1 (some .boolean) ∈ lw_g := lg_in (List.mem_append_right _ (List.mem_of_getElem? (i := 431) rfl)) rfl
set_option maxRecDepth 100000 in
theorem wg_428 : Cond.methodLink "Loomkeeper$Run" 187 yX3_isFull ∈ lw_g := lg_in (List.mem_append_right _ (List.mem_of_getElem? (i := 428) rfl)) rfl
set_option maxRecDepth 100000 in
theorem wg_430 : Cond.selects "Loomkeeper$Pile" yX3_isFull yX3_isFull ∈ lw_g := lg_in (List.mem_append_right _ (List.mem_of_getElem? (i := 430) rfl)) rfl
set_option maxRecDepth 100000 in
theorem wg_429 : Cond.instanceMethod yX3_isFull ∈ lw_g := lg_in (List.mem_append_right _ (List.mem_of_getElem? (i := 429) rfl)) rfl
set_option maxRecDepth 100000 in
theorem wg_435 : Cond.code yX6_find prog_8_method_4_code 3 (some .int) ∈ lw_g := lg_in (List.mem_append_right _ (List.mem_of_getElem? (i := 435) rfl)) rfl
set_option maxRecDepth 100000 in
theorem wg_432 : Cond.methodLink "Loomkeeper$Run" 191 yX6_find ∈ lw_g := lg_in (List.mem_append_right _ (List.mem_of_getElem? (i := 432) rfl)) rfl
set_option maxRecDepth 100000 in
theorem wg_434 : Cond.selects "Loomkeeper$Signals" yX6_find yX6_find ∈ lw_g := lg_in (List.mem_append_right _ (List.mem_of_getElem? (i := 434) rfl)) rfl
set_option maxRecDepth 100000 in
theorem wg_433 : Cond.instanceMethod yX6_find ∈ lw_g := lg_in (List.mem_append_right _ (List.mem_of_getElem? (i := 433) rfl)) rfl
set_option maxRecDepth 100000 in
theorem wg_438 : Cond.code yJ9_max_7cf53 prog_19_method_65_code 2 (some .int) ∈ lw_g := lg_in (List.mem_append_right _ (List.mem_of_getElem? (i := 438) rfl)) rfl
set_option maxRecDepth 100000 in
theorem wg_436 : Cond.methodLink "Loomkeeper$Run" 170 yJ9_max_7cf53 ∈ lw_g := lg_in (List.mem_append_right _ (List.mem_of_getElem? (i := 436) rfl)) rfl
set_option maxRecDepth 100000 in
theorem wg_437 : Cond.static yJ9_max_7cf53 ∈ lw_g := lg_in (List.mem_append_right _ (List.mem_of_getElem? (i := 437) rfl)) rfl
set_option maxRecDepth 100000 in
theorem wg_442 : Cond.code yX5_await prog_7_method_20_code 3 (none : Option Jvm.ClassFile.FieldType) ∈ lw_g := lg_in (List.mem_append_right _ (List.mem_of_getElem? (i := 442) rfl)) rfl
set_option maxRecDepth 100000 in
theorem wg_439 : Cond.methodLink "Loomkeeper$Run" 174 yX5_await ∈ lw_g := lg_in (List.mem_append_right _ (List.mem_of_getElem? (i := 439) rfl)) rfl
set_option maxRecDepth 100000 in
theorem ws_12 : Cond.selects RX5 yX5_await yX5_await ∈ lw_g := lg_in (List.mem_append_left _ (List.mem_of_getElem? (i := 12) rfl)) rfl
set_option maxRecDepth 100000 in
theorem wg_441 : Cond.instanceMethod yX5_await ∈ lw_g := lg_in (List.mem_append_right _ (List.mem_of_getElem? (i := 441) rfl)) rfl
set_option maxRecDepth 100000 in
theorem wg_446 : Cond.code yX6_use prog_8_method_5_code 4 (some .int) ∈ lw_g := lg_in (List.mem_append_right _ (List.mem_of_getElem? (i := 446) rfl)) rfl
set_option maxRecDepth 100000 in
theorem wg_443 : Cond.methodLink "Loomkeeper$Run" 194 yX6_use ∈ lw_g := lg_in (List.mem_append_right _ (List.mem_of_getElem? (i := 443) rfl)) rfl
set_option maxRecDepth 100000 in
theorem wg_445 : Cond.selects "Loomkeeper$Signals" yX6_use yX6_use ∈ lw_g := lg_in (List.mem_append_right _ (List.mem_of_getElem? (i := 445) rfl)) rfl
set_option maxRecDepth 100000 in
theorem wg_444 : Cond.instanceMethod yX6_use ∈ lw_g := lg_in (List.mem_append_right _ (List.mem_of_getElem? (i := 444) rfl)) rfl
set_option maxRecDepth 100000 in
theorem wg_450 : Cond.code yX5_select prog_7_method_21_code 4 (none : Option Jvm.ClassFile.FieldType) ∈ lw_g := lg_in (List.mem_append_right _ (List.mem_of_getElem? (i := 450) rfl)) rfl
set_option maxRecDepth 100000 in
theorem wg_447 : Cond.methodLink "Loomkeeper$Run" 177 yX5_select ∈ lw_g := lg_in (List.mem_append_right _ (List.mem_of_getElem? (i := 447) rfl)) rfl
set_option maxRecDepth 100000 in
theorem ws_13 : Cond.selects RX5 yX5_select yX5_select ∈ lw_g := lg_in (List.mem_append_left _ (List.mem_of_getElem? (i := 13) rfl)) rfl
set_option maxRecDepth 100000 in
theorem wg_449 : Cond.instanceMethod yX5_select ∈ lw_g := lg_in (List.mem_append_right _ (List.mem_of_getElem? (i := 449) rfl)) rfl
set_option maxRecDepth 100000 in
theorem wg_454 : Cond.code yX5_stepWithoutEvent prog_7_method_18_code 3 (none : Option Jvm.ClassFile.FieldType) ∈ lw_g := lg_in (List.mem_append_right _ (List.mem_of_getElem? (i := 454) rfl)) rfl
set_option maxRecDepth 100000 in
theorem wg_451 : Cond.methodLink "Loomkeeper$Run" 181 yX5_stepWithoutEvent ∈ lw_g := lg_in (List.mem_append_right _ (List.mem_of_getElem? (i := 451) rfl)) rfl
set_option maxRecDepth 100000 in
theorem ws_14 : Cond.selects RX5 yX5_stepWithoutEvent yX5_stepWithoutEvent ∈ lw_g := lg_in (List.mem_append_left _ (List.mem_of_getElem? (i := 14) rfl)) rfl
set_option maxRecDepth 100000 in
theorem wg_453 : Cond.instanceMethod yX5_stepWithoutEvent ∈ lw_g := lg_in (List.mem_append_right _ (List.mem_of_getElem? (i := 453) rfl)) rfl
set_option maxRecDepth 100000 in
theorem wg_458 : Cond.code yX3_push prog_5_method_4_code 2 (none : Option Jvm.ClassFile.FieldType) ∈ lw_g := lg_in (List.mem_append_right _ (List.mem_of_getElem? (i := 458) rfl)) rfl
set_option maxRecDepth 100000 in
theorem wg_455 : Cond.methodLink "Loomkeeper$Run" 184 yX3_push ∈ lw_g := lg_in (List.mem_append_right _ (List.mem_of_getElem? (i := 455) rfl)) rfl
set_option maxRecDepth 100000 in
theorem wg_457 : Cond.selects "Loomkeeper$Pile" yX3_push yX3_push ∈ lw_g := lg_in (List.mem_append_right _ (List.mem_of_getElem? (i := 457) rfl)) rfl
set_option maxRecDepth 100000 in
theorem wg_456 : Cond.instanceMethod yX3_push ∈ lw_g := lg_in (List.mem_append_right _ (List.mem_of_getElem? (i := 456) rfl)) rfl
set_option maxRecDepth 100000 in
theorem wg_462 : Cond.code yX8_poll prog_1_method_9_code 4 (some .int) ∈ lw_g := lg_in (List.mem_append_right _ (List.mem_of_getElem? (i := 462) rfl)) rfl
set_option maxRecDepth 100000 in
theorem wg_459 : Cond.methodLink "LoomkeeperLaw" 103 yX8_poll ∈ lw_g := lg_in (List.mem_append_right _ (List.mem_of_getElem? (i := 459) rfl)) rfl
set_option maxRecDepth 100000 in
theorem wg_461 : Cond.selects "Loomkeeper" yX8_poll yX8_poll ∈ lw_g := lg_in (List.mem_append_right _ (List.mem_of_getElem? (i := 461) rfl)) rfl
set_option maxRecDepth 100000 in
theorem wg_460 : Cond.instanceMethod yX8_poll ∈ lw_g := lg_in (List.mem_append_right _ (List.mem_of_getElem? (i := 460) rfl)) rfl
set_option maxRecDepth 100000 in
theorem wg_466 : Cond.code yX8_movingTask prog_1_method_30_code 5 (some (.object "Loomkeeper$Task")) ∈ lw_g := lg_in (List.mem_append_right _ (List.mem_of_getElem? (i := 466) rfl)) rfl
set_option maxRecDepth 100000 in
theorem wg_463 : Cond.methodLink "Loomkeeper" 195 yX8_movingTask ∈ lw_g := lg_in (List.mem_append_right _ (List.mem_of_getElem? (i := 463) rfl)) rfl
set_option maxRecDepth 100000 in
theorem ws_15 : Cond.selects RX8 yX8_movingTask yX8_movingTask ∈ lw_g := lg_in (List.mem_append_left _ (List.mem_of_getElem? (i := 15) rfl)) rfl
set_option maxRecDepth 100000 in
theorem wg_465 : Cond.instanceMethod yX8_movingTask ∈ lw_g := lg_in (List.mem_append_right _ (List.mem_of_getElem? (i := 465) rfl)) rfl
set_option maxRecDepth 100000 in
theorem wg_470 : Cond.code yX8_isAhead prog_1_method_47_code 7 (some .boolean) ∈ lw_g := lg_in (List.mem_append_right _ (List.mem_of_getElem? (i := 470) rfl)) rfl
set_option maxRecDepth 100000 in
theorem wg_467 : Cond.methodLink "Loomkeeper" 199 yX8_isAhead ∈ lw_g := lg_in (List.mem_append_right _ (List.mem_of_getElem? (i := 467) rfl)) rfl
set_option maxRecDepth 100000 in
theorem ws_16 : Cond.selects RX8 yX8_isAhead yX8_isAhead ∈ lw_g := lg_in (List.mem_append_left _ (List.mem_of_getElem? (i := 16) rfl)) rfl
set_option maxRecDepth 100000 in
theorem wg_469 : Cond.instanceMethod yX8_isAhead ∈ lw_g := lg_in (List.mem_append_right _ (List.mem_of_getElem? (i := 469) rfl)) rfl
set_option maxRecDepth 100000 in
theorem wg_474 : Cond.code yX8_servedAt prog_1_method_48_code 2 (some .int) ∈ lw_g := lg_in (List.mem_append_right _ (List.mem_of_getElem? (i := 474) rfl)) rfl
set_option maxRecDepth 100000 in
theorem wg_471 : Cond.methodLink "Loomkeeper" 417 yX8_servedAt ∈ lw_g := lg_in (List.mem_append_right _ (List.mem_of_getElem? (i := 471) rfl)) rfl
set_option maxRecDepth 100000 in
theorem ws_17 : Cond.selects RX8 yX8_servedAt yX8_servedAt ∈ lw_g := lg_in (List.mem_append_left _ (List.mem_of_getElem? (i := 17) rfl)) rfl
set_option maxRecDepth 100000 in
theorem wg_473 : Cond.instanceMethod yX8_servedAt ∈ lw_g := lg_in (List.mem_append_right _ (List.mem_of_getElem? (i := 473) rfl)) rfl
set_option maxRecDepth 100000 in
theorem wg_478 : Cond.code yX7_run prog_9_method_3_code 3 (none : Option Jvm.ClassFile.FieldType) ∈ lw_g := lg_in (List.mem_append_right _ (List.mem_of_getElem? (i := 478) rfl)) rfl
set_option maxRecDepth 100000 in
theorem wg_475 : Cond.methodLink "Loomkeeper" 209 yX7_run ∈ lw_g := lg_in (List.mem_append_right _ (List.mem_of_getElem? (i := 475) rfl)) rfl
set_option maxRecDepth 100000 in
theorem wg_477 : Cond.selects "Loomkeeper$Task" yX7_run yX7_run ∈ lw_g := lg_in (List.mem_append_right _ (List.mem_of_getElem? (i := 477) rfl)) rfl
set_option maxRecDepth 100000 in
theorem wg_476 : Cond.instanceMethod yX7_run ∈ lw_g := lg_in (List.mem_append_right _ (List.mem_of_getElem? (i := 476) rfl)) rfl
set_option maxRecDepth 100000 in
theorem wg_482 : Cond.code yX8_serve prog_1_method_49_code 2 (none : Option Jvm.ClassFile.FieldType) ∈ lw_g := lg_in (List.mem_append_right _ (List.mem_of_getElem? (i := 482) rfl)) rfl
set_option maxRecDepth 100000 in
theorem wg_479 : Cond.methodLink "Loomkeeper" 220 yX8_serve ∈ lw_g := lg_in (List.mem_append_right _ (List.mem_of_getElem? (i := 479) rfl)) rfl
set_option maxRecDepth 100000 in
theorem ws_18 : Cond.selects RX8 yX8_serve yX8_serve ∈ lw_g := lg_in (List.mem_append_left _ (List.mem_of_getElem? (i := 18) rfl)) rfl
set_option maxRecDepth 100000 in
theorem wg_481 : Cond.instanceMethod yX8_serve ∈ lw_g := lg_in (List.mem_append_right _ (List.mem_of_getElem? (i := 481) rfl)) rfl
set_option maxRecDepth 100000 in
theorem wg_486 : Cond.code yX8_fail prog_1_method_11_code 3 (some .boolean) ∈ lw_g := lg_in (List.mem_append_right _ (List.mem_of_getElem? (i := 486) rfl)) rfl
set_option maxRecDepth 100000 in
theorem wg_483 : Cond.methodLink "LoomkeeperLaw" 110 yX8_fail ∈ lw_g := lg_in (List.mem_append_right _ (List.mem_of_getElem? (i := 483) rfl)) rfl
set_option maxRecDepth 100000 in
theorem wg_485 : Cond.selects "Loomkeeper" yX8_fail yX8_fail ∈ lw_g := lg_in (List.mem_append_right _ (List.mem_of_getElem? (i := 485) rfl)) rfl
set_option maxRecDepth 100000 in
theorem wg_484 : Cond.instanceMethod yX8_fail ∈ lw_g := lg_in (List.mem_append_right _ (List.mem_of_getElem? (i := 484) rfl)) rfl
set_option maxRecDepth 100000 in
theorem wg_490 : Cond.code yX8_runningTask prog_1_method_31_code 4 (some (.object "Loomkeeper$Task")) ∈ lw_g := lg_in (List.mem_append_right _ (List.mem_of_getElem? (i := 490) rfl)) rfl
set_option maxRecDepth 100000 in
theorem wg_487 : Cond.methodLink "Loomkeeper" 225 yX8_runningTask ∈ lw_g := lg_in (List.mem_append_right _ (List.mem_of_getElem? (i := 487) rfl)) rfl
set_option maxRecDepth 100000 in
theorem ws_19 : Cond.selects RX8 yX8_runningTask yX8_runningTask ∈ lw_g := lg_in (List.mem_append_left _ (List.mem_of_getElem? (i := 19) rfl)) rfl
set_option maxRecDepth 100000 in
theorem wg_489 : Cond.instanceMethod yX8_runningTask ∈ lw_g := lg_in (List.mem_append_right _ (List.mem_of_getElem? (i := 489) rfl)) rfl
set_option maxRecDepth 100000 in
theorem wg_494 : Cond.code yX7_loseTry prog_9_method_6_code 2 (none : Option Jvm.ClassFile.FieldType) ∈ lw_g := lg_in (List.mem_append_right _ (List.mem_of_getElem? (i := 494) rfl)) rfl
set_option maxRecDepth 100000 in
theorem wg_491 : Cond.methodLink "Loomkeeper" 232 yX7_loseTry ∈ lw_g := lg_in (List.mem_append_right _ (List.mem_of_getElem? (i := 491) rfl)) rfl
set_option maxRecDepth 100000 in
theorem wg_493 : Cond.selects "Loomkeeper$Task" yX7_loseTry yX7_loseTry ∈ lw_g := lg_in (List.mem_append_right _ (List.mem_of_getElem? (i := 493) rfl)) rfl
set_option maxRecDepth 100000 in
theorem wg_492 : Cond.instanceMethod yX7_loseTry ∈ lw_g := lg_in (List.mem_append_right _ (List.mem_of_getElem? (i := 492) rfl)) rfl
set_option maxRecDepth 100000 in
theorem wg_498 : Cond.code yX7_finish prog_9_method_5_code 3 (none : Option Jvm.ClassFile.FieldType) ∈ lw_g := lg_in (List.mem_append_right _ (List.mem_of_getElem? (i := 498) rfl)) rfl
set_option maxRecDepth 100000 in
theorem wg_495 : Cond.methodLink "Loomkeeper$Task" 54 yX7_finish ∈ lw_g := lg_in (List.mem_append_right _ (List.mem_of_getElem? (i := 495) rfl)) rfl
set_option maxRecDepth 100000 in
theorem wg_497 : Cond.selects "Loomkeeper$Task" yX7_finish yX7_finish ∈ lw_g := lg_in (List.mem_append_right _ (List.mem_of_getElem? (i := 497) rfl)) rfl
set_option maxRecDepth 100000 in
theorem wg_496 : Cond.instanceMethod yX7_finish ∈ lw_g := lg_in (List.mem_append_right _ (List.mem_of_getElem? (i := 496) rfl)) rfl
set_option maxRecDepth 100000 in
theorem wg_502 : Cond.code yX7_close prog_9_method_4_code 1 (none : Option Jvm.ClassFile.FieldType) ∈ lw_g := lg_in (List.mem_append_right _ (List.mem_of_getElem? (i := 502) rfl)) rfl
set_option maxRecDepth 100000 in
theorem wg_499 : Cond.methodLink "Loomkeeper$Task" 41 yX7_close ∈ lw_g := lg_in (List.mem_append_right _ (List.mem_of_getElem? (i := 499) rfl)) rfl
set_option maxRecDepth 100000 in
theorem wg_501 : Cond.selects "Loomkeeper$Task" yX7_close yX7_close ∈ lw_g := lg_in (List.mem_append_right _ (List.mem_of_getElem? (i := 501) rfl)) rfl
set_option maxRecDepth 100000 in
theorem wg_500 : Cond.instanceMethod yX7_close ∈ lw_g := lg_in (List.mem_append_right _ (List.mem_of_getElem? (i := 500) rfl)) rfl
set_option maxRecDepth 100000 in
theorem wg_506 : Cond.code yX1_add prog_3_method_2_code 4 (none : Option Jvm.ClassFile.FieldType) ∈ lw_g := lg_in (List.mem_append_right _ (List.mem_of_getElem? (i := 506) rfl)) rfl
set_option maxRecDepth 100000 in
theorem wg_503 : Cond.methodLink "Loomkeeper$Task" 48 yX1_add ∈ lw_g := lg_in (List.mem_append_right _ (List.mem_of_getElem? (i := 503) rfl)) rfl
set_option maxRecDepth 100000 in
theorem wg_505 : Cond.selects "Loomkeeper$History" yX1_add yX1_add ∈ lw_g := lg_in (List.mem_append_right _ (List.mem_of_getElem? (i := 505) rfl)) rfl
set_option maxRecDepth 100000 in
theorem wg_504 : Cond.instanceMethod yX1_add ∈ lw_g := lg_in (List.mem_append_right _ (List.mem_of_getElem? (i := 504) rfl)) rfl
set_option maxRecDepth 100000 in
theorem wg_510 : Cond.code yX8_goOn prog_1_method_37_code 5 (none : Option Jvm.ClassFile.FieldType) ∈ lw_g := lg_in (List.mem_append_right _ (List.mem_of_getElem? (i := 510) rfl)) rfl
set_option maxRecDepth 100000 in
theorem wg_507 : Cond.methodLink "Loomkeeper" 111 yX8_goOn ∈ lw_g := lg_in (List.mem_append_right _ (List.mem_of_getElem? (i := 507) rfl)) rfl
set_option maxRecDepth 100000 in
theorem ws_20 : Cond.selects RX8 yX8_goOn yX8_goOn ∈ lw_g := lg_in (List.mem_append_left _ (List.mem_of_getElem? (i := 20) rfl)) rfl
set_option maxRecDepth 100000 in
theorem wg_509 : Cond.instanceMethod yX8_goOn ∈ lw_g := lg_in (List.mem_append_right _ (List.mem_of_getElem? (i := 509) rfl)) rfl
set_option maxRecDepth 100000 in
theorem wg_514 : Cond.code yX2_addLast prog_4_method_3_code 2 (none : Option Jvm.ClassFile.FieldType) ∈ lw_g := lg_in (List.mem_append_right _ (List.mem_of_getElem? (i := 514) rfl)) rfl
set_option maxRecDepth 100000 in
theorem wg_511 : Cond.methodLink "Loomkeeper" 337 yX2_addLast ∈ lw_g := lg_in (List.mem_append_right _ (List.mem_of_getElem? (i := 511) rfl)) rfl
set_option maxRecDepth 100000 in
theorem wg_513 : Cond.selects "Loomkeeper$Line" yX2_addLast yX2_addLast ∈ lw_g := lg_in (List.mem_append_right _ (List.mem_of_getElem? (i := 513) rfl)) rfl
set_option maxRecDepth 100000 in
theorem wg_512 : Cond.instanceMethod yX2_addLast ∈ lw_g := lg_in (List.mem_append_right _ (List.mem_of_getElem? (i := 512) rfl)) rfl
set_option maxRecDepth 100000 in
theorem wg_519 : Cond.code yX2_isEmpty prog_4_method_2_code 1 (some .boolean) ∈ lw_g := lg_in (List.mem_append_right _ (List.mem_of_getElem? (i := 519) rfl)) rfl
set_option maxRecDepth 100000 in
theorem wg_516 : Cond.methodLink "Loomkeeper" 341 yX2_isEmpty ∈ lw_g := lg_in (List.mem_append_right _ (List.mem_of_getElem? (i := 516) rfl)) rfl
set_option maxRecDepth 100000 in
theorem wg_518 : Cond.selects "Loomkeeper$Line" yX2_isEmpty yX2_isEmpty ∈ lw_g := lg_in (List.mem_append_right _ (List.mem_of_getElem? (i := 518) rfl)) rfl
set_option maxRecDepth 100000 in
theorem wg_517 : Cond.instanceMethod yX2_isEmpty ∈ lw_g := lg_in (List.mem_append_right _ (List.mem_of_getElem? (i := 517) rfl)) rfl
set_option maxRecDepth 100000 in
theorem wg_523 : Cond.code yX2_removeFirst prog_4_method_6_code 2 (some (.object "Loomkeeper$Flow")) ∈ lw_g := lg_in (List.mem_append_right _ (List.mem_of_getElem? (i := 523) rfl)) rfl
set_option maxRecDepth 100000 in
theorem wg_520 : Cond.methodLink "Loomkeeper" 344 yX2_removeFirst ∈ lw_g := lg_in (List.mem_append_right _ (List.mem_of_getElem? (i := 520) rfl)) rfl
set_option maxRecDepth 100000 in
theorem wg_522 : Cond.selects "Loomkeeper$Line" yX2_removeFirst yX2_removeFirst ∈ lw_g := lg_in (List.mem_append_right _ (List.mem_of_getElem? (i := 522) rfl)) rfl
set_option maxRecDepth 100000 in
theorem wg_521 : Cond.instanceMethod yX2_removeFirst ∈ lw_g := lg_in (List.mem_append_right _ (List.mem_of_getElem? (i := 521) rfl)) rfl
set_option maxRecDepth 100000 in
theorem wg_527 : Cond.code yX2_last prog_4_method_4_code 2 (some (.object "Loomkeeper$Flow")) ∈ lw_g := lg_in (List.mem_append_right _ (List.mem_of_getElem? (i := 527) rfl)) rfl
set_option maxRecDepth 100000 in
theorem wg_524 : Cond.methodLink "Loomkeeper" 348 yX2_last ∈ lw_g := lg_in (List.mem_append_right _ (List.mem_of_getElem? (i := 524) rfl)) rfl
set_option maxRecDepth 100000 in
theorem wg_526 : Cond.selects "Loomkeeper$Line" yX2_last yX2_last ∈ lw_g := lg_in (List.mem_append_right _ (List.mem_of_getElem? (i := 526) rfl)) rfl
set_option maxRecDepth 100000 in
theorem wg_525 : Cond.instanceMethod yX2_last ∈ lw_g := lg_in (List.mem_append_right _ (List.mem_of_getElem? (i := 525) rfl)) rfl
set_option maxRecDepth 100000 in
theorem wg_528 : Cond.methodLink "Loomkeeper" 183 yX1_size ∈ lw_g := lg_in (List.mem_append_right _ (List.mem_of_getElem? (i := 528) rfl)) rfl
set_option maxRecDepth 100000 in
theorem wg_529 : Cond.methodLink "Loomkeeper" 289 yX5_advance ∈ lw_g := lg_in (List.mem_append_right _ (List.mem_of_getElem? (i := 529) rfl)) rfl
set_option maxRecDepth 100000 in
theorem wg_533 : Cond.code yX0_letGo prog_2_method_7_code 2 (none : Option Jvm.ClassFile.FieldType) ∈ lw_g := lg_in (List.mem_append_right _ (List.mem_of_getElem? (i := 533) rfl)) rfl
set_option maxRecDepth 100000 in
theorem wg_530 : Cond.methodLink "Loomkeeper" 351 yX0_letGo ∈ lw_g := lg_in (List.mem_append_right _ (List.mem_of_getElem? (i := 530) rfl)) rfl
set_option maxRecDepth 100000 in
theorem wg_532 : Cond.selects "Loomkeeper$Flow" yX0_letGo yX0_letGo ∈ lw_g := lg_in (List.mem_append_right _ (List.mem_of_getElem? (i := 532) rfl)) rfl
set_option maxRecDepth 100000 in
theorem wg_531 : Cond.instanceMethod yX0_letGo ∈ lw_g := lg_in (List.mem_append_right _ (List.mem_of_getElem? (i := 531) rfl)) rfl
set_option maxRecDepth 100000 in
theorem wg_537 : Cond.code yX5_waitsForActivity prog_7_method_4_code 1 (some .boolean) ∈ lw_g := lg_in (List.mem_append_right _ (List.mem_of_getElem? (i := 537) rfl)) rfl
set_option maxRecDepth 100000 in
theorem wg_534 : Cond.methodLink "Loomkeeper$Flow" 73 yX5_waitsForActivity ∈ lw_g := lg_in (List.mem_append_right _ (List.mem_of_getElem? (i := 534) rfl)) rfl
set_option maxRecDepth 100000 in
theorem wg_536 : Cond.selects "Loomkeeper$Run" yX5_waitsForActivity yX5_waitsForActivity ∈ lw_g := lg_in (List.mem_append_right _ (List.mem_of_getElem? (i := 536) rfl)) rfl
set_option maxRecDepth 100000 in
theorem wg_535 : Cond.instanceMethod yX5_waitsForActivity ∈ lw_g := lg_in (List.mem_append_right _ (List.mem_of_getElem? (i := 535) rfl)) rfl
set_option maxRecDepth 100000 in
theorem wg_538 : Cond.methodLink "Loomkeeper$Flow" 76 yX7_close ∈ lw_g := lg_in (List.mem_append_right _ (List.mem_of_getElem? (i := 538) rfl)) rfl
set_option maxRecDepth 100000 in
theorem wg_542 : Cond.code yX5_wantsEvent prog_7_method_3_code 1 (some .boolean) ∈ lw_g := lg_in (List.mem_append_right _ (List.mem_of_getElem? (i := 542) rfl)) rfl
set_option maxRecDepth 100000 in
theorem wg_539 : Cond.methodLink "Loomkeeper" 354 yX5_wantsEvent ∈ lw_g := lg_in (List.mem_append_right _ (List.mem_of_getElem? (i := 539) rfl)) rfl
set_option maxRecDepth 100000 in
theorem wg_541 : Cond.selects "Loomkeeper$Run" yX5_wantsEvent yX5_wantsEvent ∈ lw_g := lg_in (List.mem_append_right _ (List.mem_of_getElem? (i := 541) rfl)) rfl
set_option maxRecDepth 100000 in
theorem wg_540 : Cond.instanceMethod yX5_wantsEvent ∈ lw_g := lg_in (List.mem_append_right _ (List.mem_of_getElem? (i := 540) rfl)) rfl
set_option maxRecDepth 100000 in
theorem wg_546 : Cond.code yX8_make prog_1_method_38_code 6 (some (.object "Loomkeeper$Flow")) ∈ lw_g := lg_in (List.mem_append_right _ (List.mem_of_getElem? (i := 546) rfl)) rfl
set_option maxRecDepth 100000 in
theorem wg_543 : Cond.methodLink "Loomkeeper" 357 yX8_make ∈ lw_g := lg_in (List.mem_append_right _ (List.mem_of_getElem? (i := 543) rfl)) rfl
set_option maxRecDepth 100000 in
theorem ws_21 : Cond.selects RX8 yX8_make yX8_make ∈ lw_g := lg_in (List.mem_append_left _ (List.mem_of_getElem? (i := 21) rfl)) rfl
set_option maxRecDepth 100000 in
theorem wg_545 : Cond.instanceMethod yX8_make ∈ lw_g := lg_in (List.mem_append_right _ (List.mem_of_getElem? (i := 545) rfl)) rfl
set_option maxRecDepth 100000 in
theorem wg_550 : Cond.code yX8_launch prog_1_method_42_code 5 (some (.object "Loomkeeper$Flow")) ∈ lw_g := lg_in (List.mem_append_right _ (List.mem_of_getElem? (i := 550) rfl)) rfl
set_option maxRecDepth 100000 in
theorem wg_547 : Cond.methodLink "Loomkeeper" 371 yX8_launch ∈ lw_g := lg_in (List.mem_append_right _ (List.mem_of_getElem? (i := 547) rfl)) rfl
set_option maxRecDepth 100000 in
theorem ws_22 : Cond.selects RX8 yX8_launch yX8_launch ∈ lw_g := lg_in (List.mem_append_left _ (List.mem_of_getElem? (i := 22) rfl)) rfl
set_option maxRecDepth 100000 in
theorem wg_549 : Cond.instanceMethod yX8_launch ∈ lw_g := lg_in (List.mem_append_right _ (List.mem_of_getElem? (i := 549) rfl)) rfl
set_option maxRecDepth 100000 in
theorem wg_554 : Cond.code yX8_programAt prog_1_method_27_code 2 (some (.object "Loomkeeper$Program")) ∈ lw_g := lg_in (List.mem_append_right _ (List.mem_of_getElem? (i := 554) rfl)) rfl
set_option maxRecDepth 100000 in
theorem wg_551 : Cond.methodLink "Loomkeeper" 64 yX8_programAt ∈ lw_g := lg_in (List.mem_append_right _ (List.mem_of_getElem? (i := 551) rfl)) rfl
set_option maxRecDepth 100000 in
theorem ws_23 : Cond.selects RX8 yX8_programAt yX8_programAt ∈ lw_g := lg_in (List.mem_append_left _ (List.mem_of_getElem? (i := 23) rfl)) rfl
set_option maxRecDepth 100000 in
theorem wg_553 : Cond.instanceMethod yX8_programAt ∈ lw_g := lg_in (List.mem_append_right _ (List.mem_of_getElem? (i := 553) rfl)) rfl
set_option maxRecDepth 100000 in
theorem wg_558 : Cond.code yX8_open prog_1_method_43_code 6 (some (.object "Loomkeeper$Flow")) ∈ lw_g := lg_in (List.mem_append_right _ (List.mem_of_getElem? (i := 558) rfl)) rfl
set_option maxRecDepth 100000 in
theorem wg_555 : Cond.methodLink "Loomkeeper" 141 yX8_open ∈ lw_g := lg_in (List.mem_append_right _ (List.mem_of_getElem? (i := 555) rfl)) rfl
set_option maxRecDepth 100000 in
theorem ws_24 : Cond.selects RX8 yX8_open yX8_open ∈ lw_g := lg_in (List.mem_append_left _ (List.mem_of_getElem? (i := 24) rfl)) rfl
set_option maxRecDepth 100000 in
theorem wg_557 : Cond.instanceMethod yX8_open ∈ lw_g := lg_in (List.mem_append_right _ (List.mem_of_getElem? (i := 557) rfl)) rfl
set_option maxRecDepth 100000 in
theorem wg_559 : Cond.methodLink "Loomkeeper" 333 yX1_add ∈ lw_g := lg_in (List.mem_append_right _ (List.mem_of_getElem? (i := 559) rfl)) rfl
set_option maxRecDepth 100000 in
theorem wg_560 : Cond.methodLink "Loomkeeper" 286 yX5_begin ∈ lw_g := lg_in (List.mem_append_right _ (List.mem_of_getElem? (i := 560) rfl)) rfl
set_option maxRecDepth 100000 in
theorem wg_565 : Cond.code yX8_schedule prog_1_method_46_code 4 (none : Option Jvm.ClassFile.FieldType) ∈ lw_g := lg_in (List.mem_append_right _ (List.mem_of_getElem? (i := 565) rfl)) rfl
set_option maxRecDepth 100000 in
theorem wg_562 : Cond.methodLink "Loomkeeper" 377 yX8_schedule ∈ lw_g := lg_in (List.mem_append_right _ (List.mem_of_getElem? (i := 562) rfl)) rfl
set_option maxRecDepth 100000 in
theorem ws_25 : Cond.selects RX8 yX8_schedule yX8_schedule ∈ lw_g := lg_in (List.mem_append_left _ (List.mem_of_getElem? (i := 25) rfl)) rfl
set_option maxRecDepth 100000 in
theorem wg_564 : Cond.instanceMethod yX8_schedule ∈ lw_g := lg_in (List.mem_append_right _ (List.mem_of_getElem? (i := 564) rfl)) rfl
set_option maxRecDepth 100000 in
theorem wg_571 : Cond.code yJx4a65c_size_8abf5 prog_26_method_8_code 1 (some .int) ∈ lw_g := lg_in (List.mem_append_right _ (List.mem_of_getElem? (i := 571) rfl)) rfl
set_option maxRecDepth 100000 in
theorem wg_568 : Cond.methodLink "Loomkeeper" 264 yJx4a65c_size_8abf5 ∈ lw_g := lg_in (List.mem_append_right _ (List.mem_of_getElem? (i := 568) rfl)) rfl
set_option maxRecDepth 100000 in
theorem wg_570 : Cond.selects "java/util/ArrayList" yJx4a65c_size_8abf5 yJx4a65c_size_8abf5 ∈ lw_g := lg_in (List.mem_append_right _ (List.mem_of_getElem? (i := 570) rfl)) rfl
set_option maxRecDepth 100000 in
theorem wg_569 : Cond.instanceMethod yJx4a65c_size_8abf5 ∈ lw_g := lg_in (List.mem_append_right _ (List.mem_of_getElem? (i := 569) rfl)) rfl
set_option maxRecDepth 100000 in
theorem wg_574 : Cond.code yX7_init prog_9_method_1_code 4 (none : Option Jvm.ClassFile.FieldType) ∈ lw_g := lg_in (List.mem_append_right _ (List.mem_of_getElem? (i := 574) rfl)) rfl
set_option maxRecDepth 100000 in
theorem wg_572 : Cond.methodLink "Loomkeeper" 411 yX7_init ∈ lw_g := lg_in (List.mem_append_right _ (List.mem_of_getElem? (i := 572) rfl)) rfl
set_option maxRecDepth 100000 in
theorem wg_573 : Cond.instanceMethod yX7_init ∈ lw_g := lg_in (List.mem_append_right _ (List.mem_of_getElem? (i := 573) rfl)) rfl
set_option maxRecDepth 100000 in
theorem wg_606 : Cond.code yJx4a65c_add_9ea2d prog_26_method_25_code 2 (some .boolean) ∈ lw_g := lg_in (List.mem_append_right _ (List.mem_of_getElem? (i := 606) rfl)) rfl
set_option maxRecDepth 100000 in
theorem wg_603 : Cond.methodLink "Loomkeeper" 414 yJx4a65c_add_9ea2d ∈ lw_g := lg_in (List.mem_append_right _ (List.mem_of_getElem? (i := 603) rfl)) rfl
set_option maxRecDepth 100000 in
theorem wg_605 : Cond.selects "java/util/ArrayList" yJx4a65c_add_9ea2d yJx4a65c_add_9ea2d ∈ lw_g := lg_in (List.mem_append_right _ (List.mem_of_getElem? (i := 605) rfl)) rfl
set_option maxRecDepth 100000 in
theorem wg_604 : Cond.instanceMethod yJx4a65c_add_9ea2d ∈ lw_g := lg_in (List.mem_append_right _ (List.mem_of_getElem? (i := 604) rfl)) rfl
set_option maxRecDepth 100000 in
theorem wg_610 : Cond.code yJx4a65c_add_72be8 prog_26_method_24_code 4 (none : Option Jvm.ClassFile.FieldType) ∈ lw_g := lg_in (List.mem_append_right _ (List.mem_of_getElem? (i := 610) rfl)) rfl
set_option maxRecDepth 100000 in
theorem wg_607 : Cond.methodLink "java/util/ArrayList" 131 yJx4a65c_add_72be8 ∈ lw_g := lg_in (List.mem_append_right _ (List.mem_of_getElem? (i := 607) rfl)) rfl
set_option maxRecDepth 100000 in
theorem ws_26 : Cond.selects RJx4a65c yJx4a65c_add_72be8 yJx4a65c_add_72be8 ∈ lw_g := lg_in (List.mem_append_left _ (List.mem_of_getElem? (i := 26) rfl)) rfl
set_option maxRecDepth 100000 in
theorem wg_609 : Cond.instanceMethod yJx4a65c_add_72be8 ∈ lw_g := lg_in (List.mem_append_right _ (List.mem_of_getElem? (i := 609) rfl)) rfl
set_option maxRecDepth 100000 in
theorem wg_614 : Cond.code yJx4a65c_grow_d5877 prog_26_method_7_code 1 (some (.array (.object "java/lang/Object"))) ∈ lw_g := lg_in (List.mem_append_right _ (List.mem_of_getElem? (i := 614) rfl)) rfl
set_option maxRecDepth 100000 in
theorem wg_611 : Cond.methodLink "java/util/ArrayList" 129 yJx4a65c_grow_d5877 ∈ lw_g := lg_in (List.mem_append_right _ (List.mem_of_getElem? (i := 611) rfl)) rfl
set_option maxRecDepth 100000 in
theorem ws_27 : Cond.selects RJx4a65c yJx4a65c_grow_d5877 yJx4a65c_grow_d5877 ∈ lw_g := lg_in (List.mem_append_left _ (List.mem_of_getElem? (i := 27) rfl)) rfl
set_option maxRecDepth 100000 in
theorem wg_613 : Cond.instanceMethod yJx4a65c_grow_d5877 ∈ lw_g := lg_in (List.mem_append_right _ (List.mem_of_getElem? (i := 613) rfl)) rfl
set_option maxRecDepth 100000 in
theorem wg_618 : Cond.code yJx4a65c_grow_92f84 prog_26_method_6_code 4 (some (.array (.object "java/lang/Object"))) ∈ lw_g := lg_in (List.mem_append_right _ (List.mem_of_getElem? (i := 618) rfl)) rfl
set_option maxRecDepth 100000 in
theorem wg_615 : Cond.methodLink "java/util/ArrayList" 69 yJx4a65c_grow_92f84 ∈ lw_g := lg_in (List.mem_append_right _ (List.mem_of_getElem? (i := 615) rfl)) rfl
set_option maxRecDepth 100000 in
theorem ws_28 : Cond.selects RJx4a65c yJx4a65c_grow_92f84 yJx4a65c_grow_92f84 ∈ lw_g := lg_in (List.mem_append_left _ (List.mem_of_getElem? (i := 28) rfl)) rfl
set_option maxRecDepth 100000 in
theorem wg_617 : Cond.instanceMethod yJx4a65c_grow_92f84 ∈ lw_g := lg_in (List.mem_append_right _ (List.mem_of_getElem? (i := 617) rfl)) rfl
set_option maxRecDepth 100000 in
theorem wg_621 : Cond.code yJ8_newLength_cabcc prog_33_method_27_code 4 (some .int) ∈ lw_g := lg_in (List.mem_append_right _ (List.mem_of_getElem? (i := 621) rfl)) rfl
set_option maxRecDepth 100000 in
theorem wg_619 : Cond.methodLink "java/util/ArrayList" 73 yJ8_newLength_cabcc ∈ lw_g := lg_in (List.mem_append_right _ (List.mem_of_getElem? (i := 619) rfl)) rfl
set_option maxRecDepth 100000 in
theorem wg_20 : Cond.initialized "jdk/internal/util/ArraysSupport" ∈ lw_g := lg_in (List.mem_append_right _ (List.mem_of_getElem? (i := 20) rfl)) rfl
set_option maxRecDepth 100000 in
theorem wg_620 : Cond.static yJ8_newLength_cabcc ∈ lw_g := lg_in (List.mem_append_right _ (List.mem_of_getElem? (i := 620) rfl)) rfl
set_option maxRecDepth 100000 in
theorem wg_622 : Cond.methodLink "jdk/internal/util/ArraysSupport" 194 yJ9_max_7cf53 ∈ lw_g := lg_in (List.mem_append_right _ (List.mem_of_getElem? (i := 622) rfl)) rfl
set_option maxRecDepth 100000 in
theorem wg_626 : Cond.code yJ8_hugeLength_7cf53 prog_33_method_28_code 3 (some .int) ∈ lw_g := lg_in (List.mem_append_right _ (List.mem_of_getElem? (i := 626) rfl)) rfl
set_option maxRecDepth 100000 in
theorem wg_624 : Cond.methodLink "jdk/internal/util/ArraysSupport" 201 yJ8_hugeLength_7cf53 ∈ lw_g := lg_in (List.mem_append_right _ (List.mem_of_getElem? (i := 624) rfl)) rfl
set_option maxRecDepth 100000 in
theorem wg_625 : Cond.static yJ8_hugeLength_7cf53 ∈ lw_g := lg_in (List.mem_append_right _ (List.mem_of_getElem? (i := 625) rfl)) rfl
set_option maxRecDepth 100000 in
theorem wg_629 : Cond.code yJ7_copyOf_1904c prog_27_method_119_code 2 (some (.array (.object "java/lang/Object"))) ∈ lw_g := lg_in (List.mem_append_right _ (List.mem_of_getElem? (i := 629) rfl)) rfl
set_option maxRecDepth 100000 in
theorem wg_627 : Cond.methodLink "java/util/ArrayList" 66 yJ7_copyOf_1904c ∈ lw_g := lg_in (List.mem_append_right _ (List.mem_of_getElem? (i := 627) rfl)) rfl
set_option maxRecDepth 100000 in
theorem wg_21 : Cond.initialized "java/util/Arrays" ∈ lw_g := lg_in (List.mem_append_right _ (List.mem_of_getElem? (i := 21) rfl)) rfl
set_option maxRecDepth 100000 in
theorem wg_628 : Cond.static yJ7_copyOf_1904c ∈ lw_g := lg_in (List.mem_append_right _ (List.mem_of_getElem? (i := 628) rfl)) rfl
set_option maxRecDepth 100000 in
theorem wg_650 : Cond.code yJ7_copyOf_6403c prog_27_method_120_code 4 (some (.array (.object "java/lang/Object"))) ∈ lw_g := lg_in (List.mem_append_right _ (List.mem_of_getElem? (i := 650) rfl)) rfl
set_option maxRecDepth 100000 in
theorem wg_648 : Cond.methodLink "java/util/Arrays" 300 yJ7_copyOf_6403c ∈ lw_g := lg_in (List.mem_append_right _ (List.mem_of_getElem? (i := 648) rfl)) rfl
set_option maxRecDepth 100000 in
theorem wg_649 : Cond.static yJ7_copyOf_6403c ∈ lw_g := lg_in (List.mem_append_right _ (List.mem_of_getElem? (i := 649) rfl)) rfl
set_option maxRecDepth 100000 in
theorem wg_656 : Cond.code yJ9_min_7cf53 prog_19_method_69_code 2 (some .int) ∈ lw_g := lg_in (List.mem_append_right _ (List.mem_of_getElem? (i := 656) rfl)) rfl
set_option maxRecDepth 100000 in
theorem wg_654 : Cond.methodLink "java/util/Arrays" 304 yJ9_min_7cf53 ∈ lw_g := lg_in (List.mem_append_right _ (List.mem_of_getElem? (i := 654) rfl)) rfl
set_option maxRecDepth 100000 in
theorem wg_655 : Cond.static yJ9_min_7cf53 ∈ lw_g := lg_in (List.mem_append_right _ (List.mem_of_getElem? (i := 655) rfl)) rfl
set_option maxRecDepth 100000 in
theorem wg_660 : Cond.methodLink "java/util/ArrayList" 79 yJ9_max_7cf53 ∈ lw_g := lg_in (List.mem_append_right _ (List.mem_of_getElem? (i := 660) rfl)) rfl
set_option maxRecDepth 100000 in
theorem wg_665 : Cond.code yX8_draw prog_1_method_52_code 2 (some .int) ∈ lw_g := lg_in (List.mem_append_right _ (List.mem_of_getElem? (i := 665) rfl)) rfl
set_option maxRecDepth 100000 in
theorem wg_662 : Cond.methodLink "Loomkeeper" 381 yX8_draw ∈ lw_g := lg_in (List.mem_append_right _ (List.mem_of_getElem? (i := 662) rfl)) rfl
set_option maxRecDepth 100000 in
theorem ws_29 : Cond.selects RX8 yX8_draw yX8_draw ∈ lw_g := lg_in (List.mem_append_left _ (List.mem_of_getElem? (i := 29) rfl)) rfl
set_option maxRecDepth 100000 in
theorem wg_664 : Cond.instanceMethod yX8_draw ∈ lw_g := lg_in (List.mem_append_right _ (List.mem_of_getElem? (i := 664) rfl)) rfl
set_option maxRecDepth 100000 in
theorem wg_670 : Cond.code yX8_tellParent prog_1_method_41_code 5 (none : Option Jvm.ClassFile.FieldType) ∈ lw_g := lg_in (List.mem_append_right _ (List.mem_of_getElem? (i := 670) rfl)) rfl
set_option maxRecDepth 100000 in
theorem wg_667 : Cond.methodLink "Loomkeeper" 384 yX8_tellParent ∈ lw_g := lg_in (List.mem_append_right _ (List.mem_of_getElem? (i := 667) rfl)) rfl
set_option maxRecDepth 100000 in
theorem ws_30 : Cond.selects RX8 yX8_tellParent yX8_tellParent ∈ lw_g := lg_in (List.mem_append_left _ (List.mem_of_getElem? (i := 30) rfl)) rfl
set_option maxRecDepth 100000 in
theorem wg_669 : Cond.instanceMethod yX8_tellParent ∈ lw_g := lg_in (List.mem_append_right _ (List.mem_of_getElem? (i := 669) rfl)) rfl
set_option maxRecDepth 100000 in
theorem wg_671 : Cond.methodLink "Loomkeeper" 246 yX1_ending ∈ lw_g := lg_in (List.mem_append_right _ (List.mem_of_getElem? (i := 671) rfl)) rfl
set_option maxRecDepth 100000 in
theorem wg_675 : Cond.code yX0_waitsForChild prog_2_method_5_code 2 (some .boolean) ∈ lw_g := lg_in (List.mem_append_right _ (List.mem_of_getElem? (i := 675) rfl)) rfl
set_option maxRecDepth 100000 in
theorem wg_672 : Cond.methodLink "Loomkeeper" 407 yX0_waitsForChild ∈ lw_g := lg_in (List.mem_append_right _ (List.mem_of_getElem? (i := 672) rfl)) rfl
set_option maxRecDepth 100000 in
theorem wg_674 : Cond.selects "Loomkeeper$Flow" yX0_waitsForChild yX0_waitsForChild ∈ lw_g := lg_in (List.mem_append_right _ (List.mem_of_getElem? (i := 674) rfl)) rfl
set_option maxRecDepth 100000 in
theorem wg_673 : Cond.instanceMethod yX0_waitsForChild ∈ lw_g := lg_in (List.mem_append_right _ (List.mem_of_getElem? (i := 673) rfl)) rfl
set_option maxRecDepth 100000 in
theorem wg_679 : Cond.code yX8_leave prog_1_method_39_code 4 (none : Option Jvm.ClassFile.FieldType) ∈ lw_g := lg_in (List.mem_append_right _ (List.mem_of_getElem? (i := 679) rfl)) rfl
set_option maxRecDepth 100000 in
theorem wg_676 : Cond.methodLink "Loomkeeper" 361 yX8_leave ∈ lw_g := lg_in (List.mem_append_right _ (List.mem_of_getElem? (i := 676) rfl)) rfl
set_option maxRecDepth 100000 in
theorem ws_31 : Cond.selects RX8 yX8_leave yX8_leave ∈ lw_g := lg_in (List.mem_append_left _ (List.mem_of_getElem? (i := 31) rfl)) rfl
set_option maxRecDepth 100000 in
theorem wg_678 : Cond.instanceMethod yX8_leave ∈ lw_g := lg_in (List.mem_append_right _ (List.mem_of_getElem? (i := 678) rfl)) rfl
set_option maxRecDepth 100000 in
theorem wg_683 : Cond.code yX2_removeLast prog_4_method_5_code 1 (none : Option Jvm.ClassFile.FieldType) ∈ lw_g := lg_in (List.mem_append_right _ (List.mem_of_getElem? (i := 683) rfl)) rfl
set_option maxRecDepth 100000 in
theorem wg_680 : Cond.methodLink "Loomkeeper" 388 yX2_removeLast ∈ lw_g := lg_in (List.mem_append_right _ (List.mem_of_getElem? (i := 680) rfl)) rfl
set_option maxRecDepth 100000 in
theorem wg_682 : Cond.selects "Loomkeeper$Line" yX2_removeLast yX2_removeLast ∈ lw_g := lg_in (List.mem_append_right _ (List.mem_of_getElem? (i := 682) rfl)) rfl
set_option maxRecDepth 100000 in
theorem wg_681 : Cond.instanceMethod yX2_removeLast ∈ lw_g := lg_in (List.mem_append_right _ (List.mem_of_getElem? (i := 681) rfl)) rfl
set_option maxRecDepth 100000 in
theorem wg_687 : Cond.code yX8_holder prog_1_method_40_code 4 (some (.object "Loomkeeper$Flow")) ∈ lw_g := lg_in (List.mem_append_right _ (List.mem_of_getElem? (i := 687) rfl)) rfl
set_option maxRecDepth 100000 in
theorem wg_684 : Cond.methodLink "Loomkeeper" 400 yX8_holder ∈ lw_g := lg_in (List.mem_append_right _ (List.mem_of_getElem? (i := 684) rfl)) rfl
set_option maxRecDepth 100000 in
theorem ws_32 : Cond.selects RX8 yX8_holder yX8_holder ∈ lw_g := lg_in (List.mem_append_left _ (List.mem_of_getElem? (i := 32) rfl)) rfl
set_option maxRecDepth 100000 in
theorem wg_686 : Cond.instanceMethod yX8_holder ∈ lw_g := lg_in (List.mem_append_right _ (List.mem_of_getElem? (i := 686) rfl)) rfl
set_option maxRecDepth 100000 in
theorem wg_691 : Cond.code yX0_canReceive prog_2_method_4_code 1 (some .boolean) ∈ lw_g := lg_in (List.mem_append_right _ (List.mem_of_getElem? (i := 691) rfl)) rfl
set_option maxRecDepth 100000 in
theorem wg_688 : Cond.methodLink "Loomkeeper" 330 yX0_canReceive ∈ lw_g := lg_in (List.mem_append_right _ (List.mem_of_getElem? (i := 688) rfl)) rfl
set_option maxRecDepth 100000 in
theorem wg_690 : Cond.selects "Loomkeeper$Flow" yX0_canReceive yX0_canReceive ∈ lw_g := lg_in (List.mem_append_right _ (List.mem_of_getElem? (i := 690) rfl)) rfl
set_option maxRecDepth 100000 in
theorem wg_689 : Cond.instanceMethod yX0_canReceive ∈ lw_g := lg_in (List.mem_append_right _ (List.mem_of_getElem? (i := 689) rfl)) rfl
set_option maxRecDepth 100000 in
theorem wg_692 : Cond.methodLink "Loomkeeper$Flow" 42 yX0_hasEnded ∈ lw_g := lg_in (List.mem_append_right _ (List.mem_of_getElem? (i := 692) rfl)) rfl
set_option maxRecDepth 100000 in
theorem wg_696 : Cond.code yX8_beat prog_1_method_12_code 3 (some .boolean) ∈ lw_g := lg_in (List.mem_append_right _ (List.mem_of_getElem? (i := 696) rfl)) rfl
set_option maxRecDepth 100000 in
theorem wg_693 : Cond.methodLink "LoomkeeperLaw" 114 yX8_beat ∈ lw_g := lg_in (List.mem_append_right _ (List.mem_of_getElem? (i := 693) rfl)) rfl
set_option maxRecDepth 100000 in
theorem wg_695 : Cond.selects "Loomkeeper" yX8_beat yX8_beat ∈ lw_g := lg_in (List.mem_append_right _ (List.mem_of_getElem? (i := 695) rfl)) rfl
set_option maxRecDepth 100000 in
theorem wg_694 : Cond.instanceMethod yX8_beat ∈ lw_g := lg_in (List.mem_append_right _ (List.mem_of_getElem? (i := 694) rfl)) rfl
set_option maxRecDepth 100000 in
theorem wg_700 : Cond.code yX8_workflows prog_1_method_14_code 1 (some .int) ∈ lw_g := lg_in (List.mem_append_right _ (List.mem_of_getElem? (i := 700) rfl)) rfl
set_option maxRecDepth 100000 in
theorem wg_697 : Cond.methodLink "LoomkeeperLaw" 124 yX8_workflows ∈ lw_g := lg_in (List.mem_append_right _ (List.mem_of_getElem? (i := 697) rfl)) rfl
set_option maxRecDepth 100000 in
theorem wg_699 : Cond.selects "Loomkeeper" yX8_workflows yX8_workflows ∈ lw_g := lg_in (List.mem_append_right _ (List.mem_of_getElem? (i := 699) rfl)) rfl
set_option maxRecDepth 100000 in
theorem wg_698 : Cond.instanceMethod yX8_workflows ∈ lw_g := lg_in (List.mem_append_right _ (List.mem_of_getElem? (i := 698) rfl)) rfl
set_option maxRecDepth 100000 in
theorem wg_704 : Cond.code yX8_tasks prog_1_method_22_code 1 (some .int) ∈ lw_g := lg_in (List.mem_append_right _ (List.mem_of_getElem? (i := 704) rfl)) rfl
set_option maxRecDepth 100000 in
theorem wg_701 : Cond.methodLink "LoomkeeperLaw" 149 yX8_tasks ∈ lw_g := lg_in (List.mem_append_right _ (List.mem_of_getElem? (i := 701) rfl)) rfl
set_option maxRecDepth 100000 in
theorem wg_703 : Cond.selects "Loomkeeper" yX8_tasks yX8_tasks ∈ lw_g := lg_in (List.mem_append_right _ (List.mem_of_getElem? (i := 703) rfl)) rfl
