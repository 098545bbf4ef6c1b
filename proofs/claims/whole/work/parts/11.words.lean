theorem lk_X1_9 : Cond.fieldLink RX1 9 "DimensionLines$Drawing" "positions" "[I" ∈ UW := uw_t 25 (by decide +kernel) rfl
theorem lk_X4_66 : Cond.fieldLink RX4 66 "DimensionLines$Drawing" "positions" "[I" ∈ UW := uw_t 26 (by decide +kernel) rfl
theorem lk_X3_93 : Cond.fieldLink RX3 93 "DimensionLines$Drawing" "positions" "[I" ∈ UW := uw_t 27 (by decide +kernel) rfl
theorem lk_X5_105 : Cond.fieldLink RX5 105 "DimensionLines$Drawing" "positions" "[I" ∈ UW := uw_t 28 (by decide +kernel) rfl
theorem lk_X1_15 : Cond.fieldLink RX1 15 "DimensionLines$Drawing" "first" "[I" ∈ UW := uw_t 29 (by decide +kernel) rfl
theorem lk_X3_96 : Cond.fieldLink RX3 96 "DimensionLines$Drawing" "first" "[I" ∈ UW := uw_t 30 (by decide +kernel) rfl
theorem lk_X0_81 : Cond.fieldLink RX0 81 "DimensionLines$Drawing" "first" "[I" ∈ UW := uw_t 31 (by decide +kernel) rfl
theorem lk_X5_175 : Cond.fieldLink RX5 175 "DimensionLines$Drawing" "first" "[I" ∈ UW := uw_t 32 (by decide +kernel) rfl
theorem lk_X1_18 : Cond.fieldLink RX1 18 "DimensionLines$Drawing" "second" "[I" ∈ UW := uw_t 33 (by decide +kernel) rfl
theorem lk_X3_99 : Cond.fieldLink RX3 99 "DimensionLines$Drawing" "second" "[I" ∈ UW := uw_t 34 (by decide +kernel) rfl
theorem lk_X0_84 : Cond.fieldLink RX0 84 "DimensionLines$Drawing" "second" "[I" ∈ UW := uw_t 35 (by decide +kernel) rfl
theorem lk_X5_178 : Cond.fieldLink RX5 178 "DimensionLines$Drawing" "second" "[I" ∈ UW := uw_t 36 (by decide +kernel) rfl
theorem lk_X1_21 : Cond.fieldLink RX1 21 "DimensionLines$Drawing" "minus" "[I" ∈ UW := uw_t 37 (by decide +kernel) rfl
theorem lk_X4_86 : Cond.fieldLink RX4 86 "DimensionLines$Drawing" "minus" "[I" ∈ UW := uw_t 38 (by decide +kernel) rfl
theorem lk_X0_101 : Cond.fieldLink RX0 101 "DimensionLines$Drawing" "minus" "[I" ∈ UW := uw_t 39 (by decide +kernel) rfl
theorem lk_X5_140 : Cond.fieldLink RX5 140 "DimensionLines$Drawing" "minus" "[I" ∈ UW := uw_t 40 (by decide +kernel) rfl
theorem lk_X1_24 : Cond.fieldLink RX1 24 "DimensionLines$Drawing" "plus" "[I" ∈ UW := uw_t 41 (by decide +kernel) rfl
theorem lk_X4_80 : Cond.fieldLink RX4 80 "DimensionLines$Drawing" "plus" "[I" ∈ UW := uw_t 42 (by decide +kernel) rfl
theorem lk_X0_98 : Cond.fieldLink RX0 98 "DimensionLines$Drawing" "plus" "[I" ∈ UW := uw_t 43 (by decide +kernel) rfl
theorem lk_X5_143 : Cond.fieldLink RX5 143 "DimensionLines$Drawing" "plus" "[I" ∈ UW := uw_t 44 (by decide +kernel) rfl
theorem lk_X1_27 : Cond.fieldLink RX1 27 "DimensionLines$Drawing" "chainOf" "[I" ∈ UW := uw_t 45 (by decide +kernel) rfl
theorem lk_X3_80 : Cond.fieldLink RX3 80 "DimensionLines$Drawing" "chainOf" "[I" ∈ UW := uw_t 46 (by decide +kernel) rfl
theorem lk_X4_89 : Cond.fieldLink RX4 89 "DimensionLines$Drawing" "chainOf" "[I" ∈ UW := uw_t 47 (by decide +kernel) rfl
theorem lk_X5_146 : Cond.fieldLink RX5 146 "DimensionLines$Drawing" "chainOf" "[I" ∈ UW := uw_t 48 (by decide +kernel) rfl
theorem lk_X1_30 : Cond.fieldLink RX1 30 "DimensionLines$Drawing" "least" "[I" ∈ UW := uw_t 49 (by decide +kernel) rfl
theorem lk_X3_106 : Cond.fieldLink RX3 106 "DimensionLines$Drawing" "least" "[I" ∈ UW := uw_t 50 (by decide +kernel) rfl
theorem lk_X5_149 : Cond.fieldLink RX5 149 "DimensionLines$Drawing" "least" "[I" ∈ UW := uw_t 51 (by decide +kernel) rfl
theorem lk_X1_33 : Cond.fieldLink RX1 33 "DimensionLines$Drawing" "pointCount" "I" ∈ UW := uw_t 52 (by decide +kernel) rfl
theorem lk_X0_56 : Cond.fieldLink RX0 56 "DimensionLines$Drawing" "pointCount" "I" ∈ UW := uw_t 53 (by decide +kernel) rfl
theorem lk_X4_38 : Cond.fieldLink RX4 38 "DimensionLines$Drawing" "pointCount" "I" ∈ UW := uw_t 54 (by decide +kernel) rfl
theorem lk_X5_96 : Cond.fieldLink RX5 96 "DimensionLines$Drawing" "pointCount" "I" ∈ UW := uw_t 55 (by decide +kernel) rfl
theorem lk_X3_134 : Cond.fieldLink RX3 134 "DimensionLines$Drawing" "pointCount" "I" ∈ UW := uw_t 56 (by decide +kernel) rfl
theorem lk_X1_37 : Cond.fieldLink RX1 37 "DimensionLines$Drawing" "dimensionCount" "I" ∈ UW := uw_t 57 (by decide +kernel) rfl
theorem lk_X3_61 : Cond.fieldLink RX3 61 "DimensionLines$Drawing" "dimensionCount" "I" ∈ UW := uw_t 58 (by decide +kernel) rfl
theorem lk_X4_41 : Cond.fieldLink RX4 41 "DimensionLines$Drawing" "dimensionCount" "I" ∈ UW := uw_t 59 (by decide +kernel) rfl
theorem lk_X5_89 : Cond.fieldLink RX5 89 "DimensionLines$Drawing" "dimensionCount" "I" ∈ UW := uw_t 60 (by decide +kernel) rfl
theorem lk_X0_97 : Cond.fieldLink RX0 97 "DimensionLines$Drawing" "dimensionCount" "I" ∈ UW := uw_t 61 (by decide +kernel) rfl
theorem lk_X1_40 : Cond.fieldLink RX1 40 "DimensionLines$Drawing" "letter" "I" ∈ UW := uw_t 62 (by decide +kernel) rfl
theorem lk_X3_87 : Cond.fieldLink RX3 87 "DimensionLines$Drawing" "letter" "I" ∈ UW := uw_t 63 (by decide +kernel) rfl
theorem lk_X5_152 : Cond.fieldLink RX5 152 "DimensionLines$Drawing" "letter" "I" ∈ UW := uw_t 64 (by decide +kernel) rfl
theorem lk_X1_43 : Cond.fieldLink RX1 43 "DimensionLines$Drawing" "arrow" "I" ∈ UW := uw_t 65 (by decide +kernel) rfl
theorem lk_X5_155 : Cond.fieldLink RX5 155 "DimensionLines$Drawing" "arrow" "I" ∈ UW := uw_t 66 (by decide +kernel) rfl
theorem lk_X2_11 : Cond.fieldLink RX2 11 "DimensionLines$History" "states" "[LDimensionLines$Drawing;" ∈ UW := uw_t 100 (by decide +kernel) rfl
theorem lk_X2_17 : Cond.fieldLink RX2 17 "DimensionLines$History" "latest" "I" ∈ UW := uw_t 101 (by decide +kernel) rfl
theorem lk_X2_21 : Cond.fieldLink RX2 21 "DimensionLines$History" "kept" "I" ∈ UW := uw_t 102 (by decide +kernel) rfl
theorem lk_X5_254 : Cond.fieldLink RX5 254 "DimensionLines$History" "kept" "I" ∈ UW := uw_t 103 (by decide +kernel) rfl
theorem lk_X4_9 : Cond.fieldLink RX4 9 "DimensionLines$TextReader" "text" "[I" ∈ UW := uw_t 119 (by decide +kernel) rfl
theorem lk_X4_18 : Cond.fieldLink RX4 18 "DimensionLines$TextReader" "result" "LDimensionLines$Drawing;" ∈ UW := uw_t 120 (by decide +kernel) rfl
theorem lk_X5_82 : Cond.fieldLink RX5 82 "DimensionLines$TextReader" "result" "LDimensionLines$Drawing;" ∈ UW := uw_t 121 (by decide +kernel) rfl
theorem lk_X4_22 : Cond.fieldLink RX4 22 "DimensionLines$TextReader" "length" "I" ∈ UW := uw_t 122 (by decide +kernel) rfl
theorem lk_X5_58 : Cond.fieldLink RX5 58 "DimensionLines$TextReader" "length" "I" ∈ UW := uw_t 123 (by decide +kernel) rfl
theorem lk_X4_26 : Cond.fieldLink RX4 26 "DimensionLines$TextReader" "fault" "I" ∈ UW := uw_t 124 (by decide +kernel) rfl
theorem lk_X5_73 : Cond.fieldLink RX5 73 "DimensionLines$TextReader" "fault" "I" ∈ UW := uw_t 125 (by decide +kernel) rfl
theorem lk_X4_29 : Cond.fieldLink RX4 29 "DimensionLines$TextReader" "faultIndex" "I" ∈ UW := uw_t 126 (by decide +kernel) rfl
theorem lk_X5_76 : Cond.fieldLink RX5 76 "DimensionLines$TextReader" "faultIndex" "I" ∈ UW := uw_t 127 (by decide +kernel) rfl
theorem lk_X4_32 : Cond.fieldLink RX4 32 "DimensionLines$TextReader" "cursor" "I" ∈ UW := uw_t 128 (by decide +kernel) rfl
theorem lk_X4_35 : Cond.fieldLink RX4 35 "DimensionLines$TextReader" "numberStart" "I" ∈ UW := uw_t 129 (by decide +kernel) rfl
theorem lk_X3_9 : Cond.fieldLink RX3 9 "DimensionLines$Lanes" "form" "[I" ∈ UW := uw_t 151 (by decide +kernel) rfl
theorem lk_X5_184 : Cond.fieldLink RX5 184 "DimensionLines$Lanes" "form" "[I" ∈ UW := uw_t 152 (by decide +kernel) rfl
theorem lk_X3_15 : Cond.fieldLink RX3 15 "DimensionLines$Lanes" "begin" "[I" ∈ UW := uw_t 153 (by decide +kernel) rfl
theorem lk_X5_187 : Cond.fieldLink RX5 187 "DimensionLines$Lanes" "begin" "[I" ∈ UW := uw_t 154 (by decide +kernel) rfl
theorem lk_X3_18 : Cond.fieldLink RX3 18 "DimensionLines$Lanes" "end" "[I" ∈ UW := uw_t 155 (by decide +kernel) rfl
theorem lk_X5_190 : Cond.fieldLink RX5 190 "DimensionLines$Lanes" "end" "[I" ∈ UW := uw_t 156 (by decide +kernel) rfl
theorem lk_X3_21 : Cond.fieldLink RX3 21 "DimensionLines$Lanes" "lane" "[I" ∈ UW := uw_t 157 (by decide +kernel) rfl
theorem lk_X5_193 : Cond.fieldLink RX5 193 "DimensionLines$Lanes" "lane" "[I" ∈ UW := uw_t 158 (by decide +kernel) rfl
theorem lk_X3_24 : Cond.fieldLink RX3 24 "DimensionLines$Lanes" "crossed" "[I" ∈ UW := uw_t 159 (by decide +kernel) rfl
theorem lk_X5_200 : Cond.fieldLink RX5 200 "DimensionLines$Lanes" "crossed" "[I" ∈ UW := uw_t 160 (by decide +kernel) rfl
theorem lk_X3_27 : Cond.fieldLink RX3 27 "DimensionLines$Lanes" "crossings" "[I" ∈ UW := uw_t 161 (by decide +kernel) rfl
theorem lk_X5_165 : Cond.fieldLink RX5 165 "DimensionLines$Lanes" "crossings" "[I" ∈ UW := uw_t 162 (by decide +kernel) rfl
theorem lk_X3_30 : Cond.fieldLink RX3 30 "DimensionLines$Lanes" "unitCount" "I" ∈ UW := uw_t 163 (by decide +kernel) rfl
theorem lk_X5_263 : Cond.fieldLink RX5 263 "DimensionLines$Lanes" "unitCount" "I" ∈ UW := uw_t 164 (by decide +kernel) rfl
theorem lk_X3_34 : Cond.fieldLink RX3 34 "DimensionLines$Lanes" "laneCount" "I" ∈ UW := uw_t 165 (by decide +kernel) rfl
theorem lk_X5_251 : Cond.fieldLink RX5 251 "DimensionLines$Lanes" "laneCount" "I" ∈ UW := uw_t 166 (by decide +kernel) rfl
theorem lk_X3_37 : Cond.fieldLink RX3 37 "DimensionLines$Lanes" "crossingCount" "I" ∈ UW := uw_t 167 (by decide +kernel) rfl
theorem lk_X5_266 : Cond.fieldLink RX5 266 "DimensionLines$Lanes" "crossingCount" "I" ∈ UW := uw_t 168 (by decide +kernel) rfl
theorem lk_X3_40 : Cond.fieldLink RX3 40 "DimensionLines$Lanes" "top" "[I" ∈ UW := uw_t 169 (by decide +kernel) rfl
theorem lk_X3_43 : Cond.fieldLink RX3 43 "DimensionLines$Lanes" "leader" "[I" ∈ UW := uw_t 170 (by decide +kernel) rfl
theorem lk_X3_46 : Cond.fieldLink RX3 46 "DimensionLines$Lanes" "spanBegin" "[I" ∈ UW := uw_t 171 (by decide +kernel) rfl
theorem lk_X3_49 : Cond.fieldLink RX3 49 "DimensionLines$Lanes" "spanEnd" "[I" ∈ UW := uw_t 172 (by decide +kernel) rfl
theorem lk_X3_52 : Cond.fieldLink RX3 52 "DimensionLines$Lanes" "leastOfUnit" "[I" ∈ UW := uw_t 173 (by decide +kernel) rfl
theorem lk_X3_55 : Cond.fieldLink RX3 55 "DimensionLines$Lanes" "order" "[I" ∈ UW := uw_t 174 (by decide +kernel) rfl
theorem lk_X3_58 : Cond.fieldLink RX3 58 "DimensionLines$Lanes" "dimensionCount" "I" ∈ UW := uw_t 175 (by decide +kernel) rfl
theorem lk_X0_11 : Cond.fieldLink RX0 11 "DimensionLines$Bounds" "greatest" "[[I" ∈ UW := uw_t 217 (by decide +kernel) rfl
theorem lk_X5_206 : Cond.fieldLink RX5 206 "DimensionLines$Bounds" "greatest" "[[I" ∈ UW := uw_t 218 (by decide +kernel) rfl
theorem lk_X0_16 : Cond.fieldLink RX0 16 "DimensionLines$Bounds" "group" "[I" ∈ UW := uw_t 219 (by decide +kernel) rfl
theorem lk_X5_172 : Cond.fieldLink RX5 172 "DimensionLines$Bounds" "group" "[I" ∈ UW := uw_t 220 (by decide +kernel) rfl
theorem lk_X0_20 : Cond.fieldLink RX0 20 "DimensionLines$Bounds" "superfluous" "[Z" ∈ UW := uw_t 221 (by decide +kernel) rfl
theorem lk_X5_196 : Cond.fieldLink RX5 196 "DimensionLines$Bounds" "superfluous" "[Z" ∈ UW := uw_t 222 (by decide +kernel) rfl
theorem lk_X0_24 : Cond.fieldLink RX0 24 "DimensionLines$Bounds" "groupCount" "I" ∈ UW := uw_t 223 (by decide +kernel) rfl
theorem lk_X5_269 : Cond.fieldLink RX5 269 "DimensionLines$Bounds" "groupCount" "I" ∈ UW := uw_t 224 (by decide +kernel) rfl
theorem lk_X0_28 : Cond.fieldLink RX0 28 "DimensionLines$Bounds" "superfluousCount" "I" ∈ UW := uw_t 225 (by decide +kernel) rfl
theorem lk_X5_272 : Cond.fieldLink RX5 272 "DimensionLines$Bounds" "superfluousCount" "I" ∈ UW := uw_t 226 (by decide +kernel) rfl
theorem lk_X0_31 : Cond.fieldLink RX0 31 "DimensionLines$Bounds" "dimensionCount" "I" ∈ UW := uw_t 227 (by decide +kernel) rfl
theorem lk_X0_34 : Cond.fieldLink RX0 34 "DimensionLines$Bounds" "removed" "[Z" ∈ UW := uw_t 228 (by decide +kernel) rfl
theorem lk_X0_37 : Cond.fieldLink RX0 37 "DimensionLines$Bounds" "ways" "[I" ∈ UW := uw_t 229 (by decide +kernel) rfl
theorem lk_X0_40 : Cond.fieldLink RX0 40 "DimensionLines$Bounds" "stepFrom" "[I" ∈ UW := uw_t 230 (by decide +kernel) rfl
theorem lk_X0_43 : Cond.fieldLink RX0 43 "DimensionLines$Bounds" "stepTo" "[I" ∈ UW := uw_t 231 (by decide +kernel) rfl
theorem lk_X0_46 : Cond.fieldLink RX0 46 "DimensionLines$Bounds" "stepLength" "[I" ∈ UW := uw_t 232 (by decide +kernel) rfl
theorem lk_X5_10 : Cond.fieldLink RX5 10 "DimensionLines" "drawing" "LDimensionLines$Drawing;" ∈ UW := uw_t 257 (by decide +kernel) rfl
theorem lk_X5_19 : Cond.fieldLink RX5 19 "DimensionLines" "history" "LDimensionLines$History;" ∈ UW := uw_t 258 (by decide +kernel) rfl
theorem lk_X5_26 : Cond.fieldLink RX5 26 "DimensionLines" "reader" "LDimensionLines$TextReader;" ∈ UW := uw_t 259 (by decide +kernel) rfl
theorem lk_X5_33 : Cond.fieldLink RX5 33 "DimensionLines" "lanes" "LDimensionLines$Lanes;" ∈ UW := uw_t 260 (by decide +kernel) rfl
theorem lk_X5_37 : Cond.fieldLink RX5 37 "DimensionLines" "lanesIf" "LDimensionLines$Lanes;" ∈ UW := uw_t 261 (by decide +kernel) rfl
theorem lk_X5_43 : Cond.fieldLink RX5 43 "DimensionLines" "bounds" "LDimensionLines$Bounds;" ∈ UW := uw_t 262 (by decide +kernel) rfl
theorem lk_X5_47 : Cond.fieldLink RX5 47 "DimensionLines" "lanesFresh" "Z" ∈ UW := uw_t 263 (by decide +kernel) rfl
theorem lk_X5_51 : Cond.fieldLink RX5 51 "DimensionLines" "boundsFresh" "Z" ∈ UW := uw_t 264 (by decide +kernel) rfl
theorem lk_X6_7 : Cond.fieldLink RX6 7 "DimensionLinesModel" "page" "[I" ∈ UW := uw_t 714 (by decide +kernel) rfl
theorem lk_X6_38 : Cond.fieldLink RX6 38 "DimensionLinesModel" "backMany" "I" ∈ UW := uw_t 715 (by decide +kernel) rfl
theorem lk_X6_13 : Cond.fieldLink RX6 13 "DimensionLinesModel" "text" "[I" ∈ UW := uw_t 716 (by decide +kernel) rfl
theorem lk_X6_102 : Cond.fieldLink RX6 102 "DimensionLinesModel" "typed" "I" ∈ UW := uw_t 717 (by decide +kernel) rfl
theorem lk_X6_112 : Cond.fieldLink RX6 112 "DimensionLinesModel" "fault" "I" ∈ UW := uw_t 718 (by decide +kernel) rfl
theorem lk_X6_115 : Cond.fieldLink RX6 115 "DimensionLinesModel" "faultAt" "I" ∈ UW := uw_t 719 (by decide +kernel) rfl
theorem lk_X6_105 : Cond.fieldLink RX6 105 "DimensionLinesModel" "spot" "I" ∈ UW := uw_t 720 (by decide +kernel) rfl
theorem lk_X6_118 : Cond.fieldLink RX6 118 "DimensionLinesModel" "number" "I" ∈ UW := uw_t 721 (by decide +kernel) rfl
theorem lk_X6_16 : Cond.fieldLink RX6 16 "DimensionLinesModel" "unit" "[I" ∈ UW := uw_t 722 (by decide +kernel) rfl
theorem lk_X6_19 : Cond.fieldLink RX6 19 "DimensionLinesModel" "spanFrom" "[I" ∈ UW := uw_t 723 (by decide +kernel) rfl
theorem lk_X6_22 : Cond.fieldLink RX6 22 "DimensionLinesModel" "spanTo" "[I" ∈ UW := uw_t 724 (by decide +kernel) rfl
theorem lk_X6_25 : Cond.fieldLink RX6 25 "DimensionLinesModel" "leastLane" "[I" ∈ UW := uw_t 725 (by decide +kernel) rfl
theorem lk_X6_28 : Cond.fieldLink RX6 28 "DimensionLinesModel" "lane" "[I" ∈ UW := uw_t 726 (by decide +kernel) rfl
theorem lk_X6_31 : Cond.fieldLink RX6 31 "DimensionLinesModel" "isPlaced" "[Z" ∈ UW := uw_t 727 (by decide +kernel) rfl
theorem lk_X6_35 : Cond.fieldLink RX6 35 "DimensionLinesModel" "greatest" "[I" ∈ UW := uw_t 728 (by decide +kernel) rfl
theorem lk_X6_263 : Cond.fieldLink RX6 263 "DimensionLinesModel" "hash" "J" ∈ UW := uw_t 729 (by decide +kernel) rfl
theorem lm_L_9 : MM RL 9 yX5_init := uw_t 13 (by decide +kernel) rfl
theorem lm_X5_1 : MM RX5 1 objectInit := uw_t 16 (by decide +kernel) rfl
theorem lm_X5_9 : Cond.methodLinkNest RX5 9 yX1_init "DimensionLines" ∈ NWs := uw_nest 21 (by decide +kernel) rfl
theorem lm_X1_3 : MM RX1 3 objectInit := uw_t 24 (by decide +kernel) rfl
theorem lm_X5_18 : MM RX5 18 yX2_init := uw_t 93 (by decide +kernel) rfl
theorem lm_X2_3 : MM RX2 3 objectInit := uw_t 96 (by decide +kernel) rfl
theorem lm_X2_24 : Cond.methodLinkNest RX2 24 yX1_init "DimensionLines" ∈ NWs := uw_nest 99 (by decide +kernel) rfl
theorem lm_X5_25 : Cond.methodLinkNest RX5 25 yX4_init "DimensionLines" ∈ NWs := uw_nest 113 (by decide +kernel) rfl
theorem lm_X4_3 : MM RX4 3 objectInit := uw_t 116 (by decide +kernel) rfl
theorem lm_X4_17 : Cond.methodLinkNest RX4 17 yX1_init "DimensionLines" ∈ NWs := uw_nest 118 (by decide +kernel) rfl
theorem lm_X5_32 : Cond.methodLinkNest RX5 32 yX3_init "DimensionLines" ∈ NWs := uw_nest 147 (by decide +kernel) rfl
theorem lm_X3_3 : MM RX3 3 objectInit := uw_t 150 (by decide +kernel) rfl
theorem lm_X5_42 : Cond.methodLinkNest RX5 42 yX0_init "DimensionLines" ∈ NWs := uw_nest 211 (by decide +kernel) rfl
theorem lm_X0_3 : MM RX0 3 objectInit := uw_t 214 (by decide +kernel) rfl
theorem lm_L_13 : MM RL 13 yX5_type := uw_t 282 (by decide +kernel) rfl
theorem lm_X5_54 : MM RX5 54 yX5_isWithin := uw_t 286 (by decide +kernel) rfl
theorem lm_X5_62 : MM RX5 62 yX4_append := uw_t 289 (by decide +kernel) rfl
theorem lm_L_18 : MM RL 18 yX5_clearText := uw_t 293 (by decide +kernel) rfl
theorem lm_X5_66 : MM RX5 66 yX4_empty := uw_t 297 (by decide +kernel) rfl
theorem lm_L_23 : MM RL 23 yX5_load := uw_t 301 (by decide +kernel) rfl
theorem lm_X5_70 : MM RX5 70 yX4_read := uw_t 305 (by decide +kernel) rfl
theorem lm_X4_44 : MM RX4 44 yX4_expect := uw_t 309 (by decide +kernel) rfl
theorem lm_X4_51 : MM RX4 51 yX4_accept := uw_t 313 (by decide +kernel) rfl
theorem lm_X4_96 : MM RX4 96 yX4_next := uw_t 317 (by decide +kernel) rfl
theorem lm_X4_58 : MM RX4 58 yX4_fail := uw_t 321 (by decide +kernel) rfl
theorem lm_X4_48 : MM RX4 48 yX4_readPosition := uw_t 325 (by decide +kernel) rfl
theorem lm_X4_62 : MM RX4 62 yX4_readNumber := uw_t 329 (by decide +kernel) rfl
theorem lm_X4_92 : MM RX4 92 yX4_isDigitNext := uw_t 333 (by decide +kernel) rfl
theorem lm_X4_100 : Cond.methodLinkNest RX4 100 yX5_isWithin "DimensionLines" ∈ NWs := uw_nest 337 (by decide +kernel) rfl
theorem lm_X4_69 : MM RX4 69 yX4_demand := uw_t 338 (by decide +kernel) rfl
theorem lm_X4_55 : MM RX4 55 yX4_readDimension := uw_t 342 (by decide +kernel) rfl
theorem lm_X4_73 : MM RX4 73 yX1_hasPoint := uw_t 346 (by decide +kernel) rfl
theorem lm_X4_76 : MM RX4 76 yX1_append := uw_t 350 (by decide +kernel) rfl
theorem lm_X4_83 : MM RX4 83 yX4_readUpTo := uw_t 354 (by decide +kernel) rfl
theorem lm_X5_79 : MM RX5 79 yX5_beginChange := uw_t 358 (by decide +kernel) rfl
theorem lm_X5_305 : MM RX5 305 yX2_record := uw_t 362 (by decide +kernel) rfl
theorem lm_X2_25 : MM RX2 25 yX1_copyFrom := uw_t 366 (by decide +kernel) rfl
theorem lm_X1_46 : MM RX1 46 yX1_copyContentFrom := uw_t 370 (by decide +kernel) rfl
theorem lm_X1_50 : MM RX1 50 arraycopyName := uw_t 374 (by decide +kernel) rfl
theorem lm_X2_29 : MM RX2 29 Lib.Math.min.name := uw_t 377 (by decide +kernel) rfl
theorem lm_X5_260 : MM RX5 260 yX5_forgetWhatWasWorkedOut := uw_t 380 (by decide +kernel) rfl
theorem lm_X5_85 : MM RX5 85 yX1_copyContentFrom := uw_t 384 (by decide +kernel) rfl
theorem lm_L_27 : MM RL 27 yX5_faultKind := uw_t 385 (by decide +kernel) rfl
theorem lm_L_31 : MM RL 31 yX5_addPoint := uw_t 389 (by decide +kernel) rfl
theorem lm_X5_92 : MM RX5 92 yX1_hasPointAt := uw_t 393 (by decide +kernel) rfl
theorem lm_X1_56 : MM RX1 56 yX1_countPointsBefore := uw_t 397 (by decide +kernel) rfl
theorem lm_X5_99 : MM RX5 99 yX1_insertPoint := uw_t 401 (by decide +kernel) rfl
theorem lm_X1_64 : MM RX1 64 yX1_shiftPoint := uw_t 405 (by decide +kernel) rfl
theorem lm_X1_68 : MM RX1 68 yX1_renumberEnds := uw_t 409 (by decide +kernel) rfl
theorem lm_X1_76 : MM RX1 76 yX1_renumbered := uw_t 413 (by decide +kernel) rfl
theorem lm_X1_80 : MM RX1 80 Lib.Math.min.name := uw_t 416 (by decide +kernel) rfl
theorem lm_X1_85 : MM RX1 85 Lib.Math.max.name := uw_t 417 (by decide +kernel) rfl
theorem lm_L_35 : MM RL 35 yX5_movePoint := uw_t 420 (by decide +kernel) rfl
theorem lm_X5_102 : MM RX5 102 yX1_hasPoint := uw_t 424 (by decide +kernel) rfl
theorem lm_X5_109 : MM RX5 109 yX1_shiftPoint := uw_t 425 (by decide +kernel) rfl
theorem lm_L_40 : MM RL 40 yX5_dropPoint := uw_t 426 (by decide +kernel) rfl
theorem lm_X5_113 : MM RX5 113 yX1_countDimensionsAt := uw_t 430 (by decide +kernel) rfl
theorem lm_X1_60 : MM RX1 60 yX1_isEnd := uw_t 434 (by decide +kernel) rfl
theorem lm_X5_116 : MM RX5 116 yX1_removePoint := uw_t 438 (by decide +kernel) rfl
theorem lm_X1_72 : MM RX1 72 yX1_closeGap := uw_t 442 (by decide +kernel) rfl
theorem lm_L_44 : MM RL 44 yX5_add := uw_t 445 (by decide +kernel) rfl
theorem lm_X5_120 : MM RX5 120 yX5_areTwoPoints := uw_t 449 (by decide +kernel) rfl
theorem lm_X5_124 : MM RX5 124 Lib.Math.min.name := uw_t 453 (by decide +kernel) rfl
theorem lm_X5_129 : MM RX5 129 Lib.Math.max.name := uw_t 454 (by decide +kernel) rfl
theorem lm_X5_132 : MM RX5 132 yX1_append := uw_t 455 (by decide +kernel) rfl
theorem lm_L_48 : MM RL 48 yX5_drop := uw_t 456 (by decide +kernel) rfl
theorem lm_X5_134 : MM RX5 134 yX1_hasDimension := uw_t 460 (by decide +kernel) rfl
theorem lm_X5_137 : MM RX5 137 yX1_removeDimension := uw_t 464 (by decide +kernel) rfl
theorem lm_L_52 : MM RL 52 yX5_setTolerance := uw_t 468 (by decide +kernel) rfl
theorem lm_L_57 : MM RL 57 yX5_setChain := uw_t 472 (by decide +kernel) rfl
theorem lm_L_61 : MM RL 61 yX5_setLeast := uw_t 476 (by decide +kernel) rfl
theorem lm_L_65 : MM RL 65 yX5_setLetter := uw_t 480 (by decide +kernel) rfl
theorem lm_L_69 : MM RL 69 yX5_setArrow := uw_t 484 (by decide +kernel) rfl
theorem lm_L_73 : MM RL 73 yX5_point := uw_t 488 (by decide +kernel) rfl
theorem lm_X5_158 : MM RX5 158 yX5_laidLanes := uw_t 492 (by decide +kernel) rfl
theorem lm_X5_247 : MM RX5 247 yX3_layOut := uw_t 496 (by decide +kernel) rfl
theorem lm_X3_64 : MM RX3 64 yX3_measure := uw_t 500 (by decide +kernel) rfl
theorem lm_X3_83 : MM RX3 83 yX1_valueOf := uw_t 504 (by decide +kernel) rfl
theorem lm_X3_90 : MM RX3 90 yX3_digitsOf := uw_t 508 (by decide +kernel) rfl
theorem lm_X3_68 : MM RX3 68 yX3_joinUnit := uw_t 511 (by decide +kernel) rfl
theorem lm_X3_102 : MM RX3 102 yX3_leaderOf := uw_t 515 (by decide +kernel) rfl
theorem lm_X3_109 : MM RX3 109 Lib.Math.min.name := uw_t 518 (by decide +kernel) rfl
theorem lm_X3_115 : MM RX3 115 Lib.Math.max.name := uw_t 519 (by decide +kernel) rfl
theorem lm_X3_72 : MM RX3 72 yX3_place := uw_t 520 (by decide +kernel) rfl
theorem lm_X3_118 : MM RX3 118 yX3_comesBefore := uw_t 524 (by decide +kernel) rfl
theorem lm_X3_122 : MM RX3 122 yX3_lowestLaneFor := uw_t 528 (by decide +kernel) rfl
theorem lm_X3_125 : MM RX3 125 yX3_isTaken := uw_t 532 (by decide +kernel) rfl
theorem lm_X3_76 : MM RX3 76 yX3_drawWitnessLines := uw_t 536 (by decide +kernel) rfl
theorem lm_X3_128 : MM RX3 128 yJ7_fill_53178 := uw_t 540 (by decide +kernel) rfl
theorem lm_X3_137 : MM RX3 137 yX1_isEnd := uw_t 543 (by decide +kernel) rfl
theorem lm_X3_140 : MM RX3 140 yX3_countCrossings := uw_t 544 (by decide +kernel) rfl
theorem lm_X5_162 : MM RX5 162 yX3_topOf := uw_t 548 (by decide +kernel) rfl
theorem lm_X5_168 : MM RX5 168 yX5_knownBounds := uw_t 552 (by decide +kernel) rfl
theorem lm_X5_308 : MM RX5 308 yX0_workOut := uw_t 556 (by decide +kernel) rfl
theorem lm_X0_49 : MM RX0 49 yX0_listSteps := uw_t 560 (by decide +kernel) rfl
theorem lm_X0_87 : MM RX0 87 yX1_valueOf := uw_t 564 (by decide +kernel) rfl
theorem lm_X0_53 : MM RX0 53 yX0_removeNone := uw_t 565 (by decide +kernel) rfl
theorem lm_X0_61 : MM RX0 61 yX0_findWays := uw_t 569 (by decide +kernel) rfl
theorem lm_X0_104 : MM RX0 104 yJ7_fill_53178 := uw_t 574 (by decide +kernel) rfl
theorem lm_X0_65 : MM RX0 65 yX0_formGroups := uw_t 575 (by decide +kernel) rfl
theorem lm_X0_110 : MM RX0 110 yX0_areBound := uw_t 579 (by decide +kernel) rfl
theorem lm_X0_69 : MM RX0 69 yX0_isSuperfluous := uw_t 583 (by decide +kernel) rfl
theorem lm_L_77 : MM RL 77 yX5_dimension := uw_t 587 (by decide +kernel) rfl
theorem lm_X5_181 : MM RX5 181 yX1_valueOf := uw_t 591 (by decide +kernel) rfl
theorem lm_L_81 : MM RL 81 yX5_at := uw_t 592 (by decide +kernel) rfl
theorem lm_L_85 : MM RL 85 yX5_distance := uw_t 596 (by decide +kernel) rfl
theorem lm_X5_203 : MM RX5 203 yX0_areBound := uw_t 600 (by decide +kernel) rfl
theorem lm_L_90 : MM RL 90 yX5_ifExact := uw_t 601 (by decide +kernel) rfl
theorem lm_X5_210 : MM RX5 210 yX0_gain := uw_t 605 (by decide +kernel) rfl
theorem lm_X0_74 : MM RX0 74 yX0_greatestIfExact := uw_t 609 (by decide +kernel) rfl
theorem lm_X0_91 : MM RX0 91 Lib.Math.min.name := uw_t 613 (by decide +kernel) rfl
theorem lm_L_94 : MM RL 94 yX5_critical := uw_t 614 (by decide +kernel) rfl
theorem lm_X5_214 : MM RX5 214 yX0_bestToMakeExact := uw_t 618 (by decide +kernel) rfl
theorem lm_X0_78 : MM RX0 78 yX0_gain := uw_t 622 (by decide +kernel) rfl
theorem lm_L_98 : MM RL 98 yX5_needed := uw_t 623 (by decide +kernel) rfl
theorem lm_X5_218 : MM RX5 218 yX0_countLeft := uw_t 627 (by decide +kernel) rfl
theorem lm_L_102 : MM RL 102 yX5_chain := uw_t 631 (by decide +kernel) rfl
theorem lm_X5_221 : MM RX5 221 yX1_countOfChain := uw_t 635 (by decide +kernel) rfl
theorem lm_X5_224 : MM RX5 224 yX1_beginOfChain := uw_t 639 (by decide +kernel) rfl
theorem lm_X5_227 : MM RX5 227 yX1_endOfChain := uw_t 643 (by decide +kernel) rfl
theorem lm_X5_230 : MM RX5 230 yX1_isClosed := uw_t 647 (by decide +kernel) rfl
theorem lm_X1_91 : MM RX1 91 yX1_countOfChain := uw_t 651 (by decide +kernel) rfl
theorem lm_X1_94 : MM RX1 94 yX1_beginOfChain := uw_t 652 (by decide +kernel) rfl
theorem lm_X1_97 : MM RX1 97 yX1_nextInChain := uw_t 653 (by decide +kernel) rfl
theorem lm_X5_233 : MM RX5 233 yX1_sumOfValues := uw_t 657 (by decide +kernel) rfl
theorem lm_X1_88 : MM RX1 88 yX1_valueOf := uw_t 661 (by decide +kernel) rfl
theorem lm_X5_236 : MM RX5 236 yX1_sumOfChain := uw_t 662 (by decide +kernel) rfl
theorem lm_X5_240 : MM RX5 240 yX1_smallestOver := uw_t 666 (by decide +kernel) rfl
theorem lm_X1_100 : MM RX1 100 yX1_endOfChain := uw_t 670 (by decide +kernel) rfl
theorem lm_X5_243 : MM RX5 243 yX3_laneOfChain := uw_t 671 (by decide +kernel) rfl
theorem lm_L_106 : MM RL 106 yX5_ifArrow := uw_t 675 (by decide +kernel) rfl
theorem lm_L_110 : MM RL 110 yX5_undo := uw_t 679 (by decide +kernel) rfl
theorem lm_X5_257 : MM RX5 257 yX2_restore := uw_t 683 (by decide +kernel) rfl
theorem lm_L_114 : MM RL 114 yX5_count := uw_t 687 (by decide +kernel) rfl
theorem lm_L_118 : MM RL 118 yX5_digest := uw_t 691 (by decide +kernel) rfl
theorem lm_X5_279 : MM RX5 279 yX5_count := uw_t 697 (by decide +kernel) rfl
theorem lm_X5_282 : MM RX5 282 yX5_point := uw_t 698 (by decide +kernel) rfl
theorem lm_X5_285 : MM RX5 285 yX5_dimension := uw_t 699 (by decide +kernel) rfl
theorem lm_X5_288 : MM RX5 288 yX5_hashOfPairs := uw_t 700 (by decide +kernel) rfl
theorem lm_X5_298 : MM RX5 298 yX5_distance := uw_t 704 (by decide +kernel) rfl
theorem lm_X5_302 : MM RX5 302 yX5_critical := uw_t 705 (by decide +kernel) rfl
theorem lm_X5_292 : MM RX5 292 yX5_chain := uw_t 706 (by decide +kernel) rfl
theorem lm_X5_295 : MM RX5 295 yX5_needed := uw_t 707 (by decide +kernel) rfl
theorem lm_L_12 : MM RL 12 yX6_init := uw_t 710 (by decide +kernel) rfl
theorem lm_X6_1 : MM RX6 1 objectInit := uw_t 713 (by decide +kernel) rfl
theorem lm_L_113 : MM RL 113 yX6_undo := uw_t 763 (by decide +kernel) rfl
theorem lm_X6_42 : MM RX6 42 yX6_copies := uw_t 767 (by decide +kernel) rfl
theorem lm_L_34 : MM RL 34 yX6_addPoint := uw_t 771 (by decide +kernel) rfl
theorem lm_X6_46 : MM RX6 46 yX6_in := uw_t 775 (by decide +kernel) rfl
theorem lm_X6_68 : MM RX6 68 yX6_pointWith := uw_t 778 (by decide +kernel) rfl
theorem lm_X6_54 : MM RX6 54 yX6_position := uw_t 782 (by decide +kernel) rfl
theorem lm_X6_71 : MM RX6 71 yX6_records := uw_t 786 (by decide +kernel) rfl
theorem lm_X6_74 : MM RX6 74 yX6_comes := uw_t 790 (by decide +kernel) rfl
theorem lm_X6_50 : MM RX6 50 yX6_of := uw_t 794 (by decide +kernel) rfl
theorem lm_X6_64 : MM RX6 64 yX6_sets := uw_t 798 (by decide +kernel) rfl
theorem lm_L_39 : MM RL 39 yX6_movePoint := uw_t 802 (by decide +kernel) rfl
theorem lm_X6_77 : MM RX6 77 yX6_isPoint := uw_t 806 (by decide +kernel) rfl
theorem lm_X6_81 : MM RX6 81 yX6_goes := uw_t 810 (by decide +kernel) rfl
theorem lm_L_43 : MM RL 43 yX6_dropPoint := uw_t 814 (by decide +kernel) rfl
theorem lm_X6_85 : MM RX6 85 yX6_ends := uw_t 818 (by decide +kernel) rfl
theorem lm_L_47 : MM RL 47 yX6_add := uw_t 822 (by decide +kernel) rfl
theorem lm_X6_88 : MM RX6 88 yX6_lays := uw_t 826 (by decide +kernel) rfl
theorem lm_L_51 : MM RL 51 yX6_drop := uw_t 830 (by decide +kernel) rfl
theorem lm_X6_92 : MM RX6 92 yX6_isDimension := uw_t 834 (by decide +kernel) rfl
theorem lm_L_56 : MM RL 56 yX6_setTolerance := uw_t 838 (by decide +kernel) rfl
theorem lm_L_60 : MM RL 60 yX6_setChain := uw_t 842 (by decide +kernel) rfl
theorem lm_X6_95 : MM RX6 95 yX6_becomes := uw_t 846 (by decide +kernel) rfl
theorem lm_L_64 : MM RL 64 yX6_setLeast := uw_t 850 (by decide +kernel) rfl
theorem lm_L_68 : MM RL 68 yX6_setLetter := uw_t 854 (by decide +kernel) rfl
theorem lm_X6_99 : MM RX6 99 yX6_setting := uw_t 858 (by decide +kernel) rfl
theorem lm_L_72 : MM RL 72 yX6_setArrow := uw_t 862 (by decide +kernel) rfl
theorem lm_L_17 : MM RL 17 yX6_type := uw_t 866 (by decide +kernel) rfl
theorem lm_L_22 : MM RL 22 yX6_clearText := uw_t 870 (by decide +kernel) rfl
theorem lm_L_26 : MM RL 26 yX6_load := uw_t 874 (by decide +kernel) rfl
theorem lm_X6_145 : MM RX6 145 yX6_readsAll := uw_t 878 (by decide +kernel) rfl
theorem lm_X6_139 : MM RX6 139 yX6_readsPositions := uw_t 882 (by decide +kernel) rfl
theorem lm_X6_129 : MM RX6 129 yX6_reads := uw_t 886 (by decide +kernel) rfl
theorem lm_X6_108 : MM RX6 108 yX6_here := uw_t 890 (by decide +kernel) rfl
theorem lm_X6_125 : MM RX6 125 yX6_fails := uw_t 894 (by decide +kernel) rfl
theorem lm_X6_132 : MM RX6 132 yX6_readsNumber := uw_t 898 (by decide +kernel) rfl
theorem lm_X6_121 : MM RX6 121 yX6_isDigit := uw_t 902 (by decide +kernel) rfl
theorem lm_X6_142 : MM RX6 142 yX6_readsDimension := uw_t 906 (by decide +kernel) rfl
theorem lm_X6_135 : MM RX6 135 yX6_readsBehind := uw_t 910 (by decide +kernel) rfl
theorem lm_L_30 : MM RL 30 yX6_faultKind := uw_t 914 (by decide +kernel) rfl
theorem lm_L_76 : MM RL 76 yX6_point := uw_t 918 (by decide +kernel) rfl
theorem lm_X6_197 : MM RX6 197 yX6_laysDistances := uw_t 922 (by decide +kernel) rfl
theorem lm_X6_148 : MM RX6 148 yX6_value := uw_t 927 (by decide +kernel) rfl
theorem lm_X6_58 : MM RX6 58 yX6_to := uw_t 931 (by decide +kernel) rfl
theorem lm_X6_61 : MM RX6 61 yX6_from := uw_t 935 (by decide +kernel) rfl
theorem lm_X6_194 : MM RX6 194 yX6_bounds := uw_t 939 (by decide +kernel) rfl
theorem lm_X6_209 : MM RX6 209 yX6_group := uw_t 943 (by decide +kernel) rfl
theorem lm_X6_200 : MM RX6 200 yX6_areBound := uw_t 947 (by decide +kernel) rfl
theorem lm_X6_203 : MM RX6 203 yX6_groupOfFirst := uw_t 951 (by decide +kernel) rfl
theorem lm_X6_206 : MM RX6 206 yX6_isFirst := uw_t 955 (by decide +kernel) rfl
theorem lm_X6_212 : MM RX6 212 yX6_laysLanes := uw_t 959 (by decide +kernel) rfl
theorem lm_X6_172 : MM RX6 172 yX6_laysUnits := uw_t 963 (by decide +kernel) rfl
theorem lm_X6_157 : MM RX6 157 yX6_unitOf := uw_t 967 (by decide +kernel) rfl
theorem lm_X6_175 : MM RX6 175 yX6_nextUnit := uw_t 971 (by decide +kernel) rfl
theorem lm_X6_160 : MM RX6 160 yX6_isUnit := uw_t 975 (by decide +kernel) rfl
theorem lm_X6_163 : MM RX6 163 yX6_isSooner := uw_t 979 (by decide +kernel) rfl
theorem lm_X6_178 : MM RX6 178 yX6_covers := uw_t 983 (by decide +kernel) rfl
theorem lm_X6_181 : MM RX6 181 yX6_meets := uw_t 987 (by decide +kernel) rfl
theorem lm_X6_166 : MM RX6 166 yX6_begins := uw_t 991 (by decide +kernel) rfl
theorem lm_X6_154 : MM RX6 154 yX6_form := uw_t 995 (by decide +kernel) rfl
theorem lm_X6_151 : MM RX6 151 yX6_width := uw_t 999 (by decide +kernel) rfl
theorem lm_X6_169 : MM RX6 169 yX6_reaches := uw_t 1003 (by decide +kernel) rfl
theorem lm_X6_187 : MM RX6 187 yX6_witness := uw_t 1007 (by decide +kernel) rfl
theorem lm_X6_184 : MM RX6 184 yX6_laneOf := uw_t 1011 (by decide +kernel) rfl
theorem lm_X6_215 : MM RX6 215 yX6_crossings := uw_t 1015 (by decide +kernel) rfl
theorem lm_X6_190 : MM RX6 190 yX6_crosses := uw_t 1019 (by decide +kernel) rfl
theorem lm_L_80 : MM RL 80 yX6_dimension := uw_t 1023 (by decide +kernel) rfl
theorem lm_X6_218 : MM RX6 218 yX6_isSuperfluous := uw_t 1027 (by decide +kernel) rfl
theorem lm_X6_221 : MM RX6 221 yX6_placeOf := uw_t 1031 (by decide +kernel) rfl
theorem lm_L_84 : MM RL 84 yX6_at := uw_t 1034 (by decide +kernel) rfl
theorem lm_L_89 : MM RL 89 yX6_distance := uw_t 1038 (by decide +kernel) rfl
theorem lm_X6_224 : MM RX6 224 yX6_arePoints := uw_t 1042 (by decide +kernel) rfl
theorem lm_L_93 : MM RL 93 yX6_ifExact := uw_t 1046 (by decide +kernel) rfl
theorem lm_X6_230 : MM RX6 230 yX6_adds := uw_t 1050 (by decide +kernel) rfl
theorem lm_X6_227 : MM RX6 227 yX6_range := uw_t 1054 (by decide +kernel) rfl
theorem lm_L_97 : MM RL 97 yX6_critical := uw_t 1058 (by decide +kernel) rfl
theorem lm_L_101 : MM RL 101 yX6_needed := uw_t 1062 (by decide +kernel) rfl
theorem lm_L_105 : MM RL 105 yX6_chain := uw_t 1066 (by decide +kernel) rfl
theorem lm_X6_237 : MM RX6 237 yX6_sumOf := uw_t 1070 (by decide +kernel) rfl
theorem lm_X6_233 : MM RX6 233 yX6_endOf := uw_t 1074 (by decide +kernel) rfl
theorem lm_X6_240 : MM RX6 240 yX6_isClosed := uw_t 1078 (by decide +kernel) rfl
theorem lm_X6_243 : MM RX6 243 yX6_over := uw_t 1082 (by decide +kernel) rfl
theorem lm_X6_246 : MM RX6 246 yX6_laneOfChain := uw_t 1086 (by decide +kernel) rfl
theorem lm_L_109 : MM RL 109 yX6_ifArrow := uw_t 1090 (by decide +kernel) rfl
theorem lm_X6_249 : MM RX6 249 yX6_lanes := uw_t 1094 (by decide +kernel) rfl
theorem lm_L_117 : MM RL 117 yX6_count := uw_t 1098 (by decide +kernel) rfl
theorem lm_X6_252 : MM RX6 252 yX6_units := uw_t 1102 (by decide +kernel) rfl
theorem lm_X6_255 : MM RX6 255 yX6_groups := uw_t 1106 (by decide +kernel) rfl
theorem lm_X6_258 : MM RX6 258 yX6_superfluous := uw_t 1110 (by decide +kernel) rfl
theorem lm_L_122 : MM RL 122 yX6_digest := uw_t 1114 (by decide +kernel) rfl
theorem lm_X6_269 : MM RX6 269 yX6_count := uw_t 1119 (by decide +kernel) rfl
theorem lm_X6_272 : MM RX6 272 yX6_mixes := uw_t 1120 (by decide +kernel) rfl
theorem lm_X6_275 : MM RX6 275 yX6_point := uw_t 1125 (by decide +kernel) rfl
theorem lm_X6_278 : MM RX6 278 yX6_dimension := uw_t 1126 (by decide +kernel) rfl
theorem lm_X6_281 : MM RX6 281 yX6_distance := uw_t 1127 (by decide +kernel) rfl
theorem lm_X6_285 : MM RX6 285 yX6_critical := uw_t 1128 (by decide +kernel) rfl
theorem lm_X6_288 : MM RX6 288 yX6_chain := uw_t 1129 (by decide +kernel) rfl
theorem lm_X6_291 : MM RX6 291 yX6_needed := uw_t 1130 (by decide +kernel) rfl
theorem kc_X0_73 : Cond.constant RX0 73 (Int32.ofInt 1000000) ∈ UW := uw_t 573 (by decide +kernel) rfl
theorem kc_X6_193 : Cond.constant RX6 193 (Int32.ofInt 1000000) ∈ UW := uw_t 926 (by decide +kernel) rfl
theorem kc_X5_275 : Cond.constantLong RX5 275 (Int64.ofInt 18841) ∈ UW := uw_t 695 (by decide +kernel) rfl
theorem kc_X5_277 : Cond.constantLong RX5 277 (Int64.ofInt 31) ∈ UW := uw_t 696 (by decide +kernel) rfl
theorem kc_X6_267 : Cond.constantLong RX6 267 (Int64.ofInt 18841) ∈ UW := uw_t 1118 (by decide +kernel) rfl
theorem kc_X6_261 : Cond.constantLong RX6 261 (Int64.ofInt 31) ∈ UW := uw_t 1124 (by decide +kernel) rfl
theorem km_min1 : Cond.static Lib.Math.min.name ∈ UW := uw_t 378 (by decide +kernel) rfl
theorem km_min3 : Cond.code Lib.Math.min.name Lib.Math.min.code 2 (some .int) ∈ UW := uw_t 379 (by decide +kernel) rfl
theorem km_max1 : Cond.static Lib.Math.max.name ∈ UW := uw_t 418 (by decide +kernel) rfl
theorem km_max3 : Cond.code Lib.Math.max.name Lib.Math.max.code 2 (some .int) ∈ UW := uw_t 419 (by decide +kernel) rfl
theorem km_2 : Cond.initialized "java/lang/Math" ∈ UW := uw_t 9 (by decide +kernel) rfl
theorem ks_1 : Cond.native arraycopyName ∈ UW := uw_t 376 (by decide +kernel) rfl
theorem ks_2 : Cond.static arraycopyName ∈ UW := uw_t 375 (by decide +kernel) rfl
theorem ks_3 : Cond.initialized "java/lang/System" ∈ UW := uw_t 8 (by decide +kernel) rfl
abbrev mi_dr_valueOf : MI := (yX1_valueOf, cX1_valueOf, 2, (some .int), 0, 0, 0, 0, none)
theorem mv_dr_valueOf : MV mi_dr_valueOf 1 ∧ Cond.instanceMethod mi_dr_valueOf.1 ∈ UW ∧ Cond.selects mi_dr_valueOf.1.cls mi_dr_valueOf.1 mi_dr_valueOf.1 ∈ UW := ⟨⟨uw_t 507 (by decide +kernel) rfl, uw_t 2 (by decide +kernel) rfl, by decide +kernel, by decide +kernel⟩, uw_t 505 (by decide +kernel) rfl, uw_t 506 (by decide +kernel) rfl⟩
abbrev mi_bo_listSteps : MI := (yX0_listSteps, cX0_listSteps, 4, none, 1, 21, 0, 0, none)
theorem mv_bo_listSteps : MV mi_bo_listSteps 1 ∧ Cond.instanceMethod mi_bo_listSteps.1 ∈ UW ∧ Cond.selects mi_bo_listSteps.1.cls mi_bo_listSteps.1 mi_bo_listSteps.1 ∈ UW := ⟨⟨uw_t 563 (by decide +kernel) rfl, uw_t 6 (by decide +kernel) rfl, by decide +kernel, by decide +kernel⟩, uw_t 562 (by decide +kernel) rfl, uw_s (q := (mi_bo_listSteps.1, 11)) 24 (by decide +kernel)⟩
abbrev mi_bo_removeNone : MI := (yX0_removeNone, cX0_removeNone, 2, none, 0, 0, 0, 0, none)
theorem mv_bo_removeNone : MV mi_bo_removeNone 0 ∧ Cond.instanceMethod mi_bo_removeNone.1 ∈ UW ∧ Cond.selects mi_bo_removeNone.1.cls mi_bo_removeNone.1 mi_bo_removeNone.1 ∈ UW := ⟨⟨uw_t 568 (by decide +kernel) rfl, uw_t 6 (by decide +kernel) rfl, by decide +kernel, by decide +kernel⟩, uw_t 567 (by decide +kernel) rfl, uw_s (q := (mi_bo_removeNone.1, 11)) 25 (by decide +kernel)⟩
abbrev mi_ja_fill : MI := (yJ7_fill_53178, cJ7_fill_53178, 4, none, 0, 0, 0, 0, none)
theorem mv_ja_fill : MV mi_ja_fill 2 ∧ Cond.static mi_ja_fill.1 ∈ UW := ⟨⟨uw_t 542 (by decide +kernel) rfl, uw_t 10 (by decide +kernel) rfl, by decide +kernel, by decide +kernel⟩, uw_t 541 (by decide +kernel) rfl⟩
abbrev mi_bo_findWays : MI := (yX0_findWays, cX0_findWays, 8, none, 1, 23, 0, 0, none)
theorem mv_bo_findWays : MV mi_bo_findWays 2 ∧ Cond.instanceMethod mi_bo_findWays.1 ∈ UW ∧ Cond.selects mi_bo_findWays.1.cls mi_bo_findWays.1 mi_bo_findWays.1 ∈ UW := ⟨⟨uw_t 572 (by decide +kernel) rfl, uw_t 6 (by decide +kernel) rfl, by decide +kernel, by decide +kernel⟩, uw_t 571 (by decide +kernel) rfl, uw_s (q := (mi_bo_findWays.1, 11)) 26 (by decide +kernel)⟩
abbrev mi_bo_areBound : MI := (yX0_areBound, cX0_areBound, 3, (some .boolean), 0, 0, 0, 0, none)
theorem mv_bo_areBound : MV mi_bo_areBound 2 ∧ Cond.instanceMethod mi_bo_areBound.1 ∈ UW ∧ Cond.selects mi_bo_areBound.1.cls mi_bo_areBound.1 mi_bo_areBound.1 ∈ UW := ⟨⟨uw_t 582 (by decide +kernel) rfl, uw_t 6 (by decide +kernel) rfl, by decide +kernel, by decide +kernel⟩, uw_t 580 (by decide +kernel) rfl, uw_t 581 (by decide +kernel) rfl⟩
abbrev mi_bo_formGroups : MI := (yX0_formGroups, cX0_formGroups, 4, none, 1, 22, 0, 0, none)
theorem mv_bo_formGroups : MV mi_bo_formGroups 1 ∧ Cond.instanceMethod mi_bo_formGroups.1 ∈ UW ∧ Cond.selects mi_bo_formGroups.1.cls mi_bo_formGroups.1 mi_bo_formGroups.1 ∈ UW := ⟨⟨uw_t 578 (by decide +kernel) rfl, uw_t 6 (by decide +kernel) rfl, by decide +kernel, by decide +kernel⟩, uw_t 577 (by decide +kernel) rfl, uw_s (q := (mi_bo_formGroups.1, 11)) 27 (by decide +kernel)⟩
abbrev mi_bo_isSuperfluous : MI := (yX0_isSuperfluous, cX0_isSuperfluous, 5, (some .boolean), 2, 50, 0, 0, none)
theorem mv_bo_isSuperfluous : MV mi_bo_isSuperfluous 1 ∧ Cond.instanceMethod mi_bo_isSuperfluous.1 ∈ UW ∧ Cond.selects mi_bo_isSuperfluous.1.cls mi_bo_isSuperfluous.1 mi_bo_isSuperfluous.1 ∈ UW := ⟨⟨uw_t 586 (by decide +kernel) rfl, uw_t 6 (by decide +kernel) rfl, by decide +kernel, by decide +kernel⟩, uw_t 585 (by decide +kernel) rfl, uw_s (q := (mi_bo_isSuperfluous.1, 11)) 28 (by decide +kernel)⟩
abbrev mi_bo_workOut : MI := (yX0_workOut, cX0_workOut, 3, none, 3, 74, 0, 0, none)
theorem mv_bo_workOut : MV mi_bo_workOut 1 ∧ Cond.instanceMethod mi_bo_workOut.1 ∈ UW ∧ Cond.selects mi_bo_workOut.1.cls mi_bo_workOut.1 mi_bo_workOut.1 ∈ UW := ⟨⟨uw_t 559 (by decide +kernel) rfl, uw_t 6 (by decide +kernel) rfl, by decide +kernel, by decide +kernel⟩, uw_t 557 (by decide +kernel) rfl, uw_t 558 (by decide +kernel) rfl⟩
abbrev mi_bo_greatestIfExact : MI := (yX0_greatestIfExact, cX0_greatestIfExact, 10, (some .int), 1, 21, 0, 0, none)
theorem mv_bo_greatestIfExact : MV mi_bo_greatestIfExact 4 ∧ Cond.instanceMethod mi_bo_greatestIfExact.1 ∈ UW ∧ Cond.selects mi_bo_greatestIfExact.1.cls mi_bo_greatestIfExact.1 mi_bo_greatestIfExact.1 ∈ UW := ⟨⟨uw_t 612 (by decide +kernel) rfl, uw_t 6 (by decide +kernel) rfl, by decide +kernel, by decide +kernel⟩, uw_t 611 (by decide +kernel) rfl, uw_s (q := (mi_bo_greatestIfExact.1, 11)) 29 (by decide +kernel)⟩
abbrev mi_bo_gain : MI := (yX0_gain, cX0_gain, 5, (some .int), 2, 50, 0, 0, none)
theorem mv_bo_gain : MV mi_bo_gain 4 ∧ Cond.instanceMethod mi_bo_gain.1 ∈ UW ∧ Cond.selects mi_bo_gain.1.cls mi_bo_gain.1 mi_bo_gain.1 ∈ UW := ⟨⟨uw_t 608 (by decide +kernel) rfl, uw_t 6 (by decide +kernel) rfl, by decide +kernel, by decide +kernel⟩, uw_t 606 (by decide +kernel) rfl, uw_t 607 (by decide +kernel) rfl⟩
abbrev mi_bo_bestToMakeExact : MI := (yX0_bestToMakeExact, cX0_bestToMakeExact, 6, (some .int), 3, 74, 0, 0, none)
theorem mv_bo_bestToMakeExact : MV mi_bo_bestToMakeExact 3 ∧ Cond.instanceMethod mi_bo_bestToMakeExact.1 ∈ UW ∧ Cond.selects mi_bo_bestToMakeExact.1.cls mi_bo_bestToMakeExact.1 mi_bo_bestToMakeExact.1 ∈ UW := ⟨⟨uw_t 621 (by decide +kernel) rfl, uw_t 6 (by decide +kernel) rfl, by decide +kernel, by decide +kernel⟩, uw_t 619 (by decide +kernel) rfl, uw_t 620 (by decide +kernel) rfl⟩
abbrev mi_bo_countLeft : MI := (yX0_countLeft, cX0_countLeft, 3, (some .int), 3, 74, 0, 0, none)
theorem mv_bo_countLeft : MV mi_bo_countLeft 0 ∧ Cond.instanceMethod mi_bo_countLeft.1 ∈ UW ∧ Cond.selects mi_bo_countLeft.1.cls mi_bo_countLeft.1 mi_bo_countLeft.1 ∈ UW := ⟨⟨uw_t 630 (by decide +kernel) rfl, uw_t 6 (by decide +kernel) rfl, by decide +kernel, by decide +kernel⟩, uw_t 628 (by decide +kernel) rfl, uw_t 629 (by decide +kernel) rfl⟩
abbrev mi_dr_copyContentFrom : MI := (yX1_copyContentFrom, cX1_copyContentFrom, 2, none, 1, 60, 0, 0, none)
theorem mv_dr_copyContentFrom : MV mi_dr_copyContentFrom 1 ∧ Cond.instanceMethod mi_dr_copyContentFrom.1 ∈ UW ∧ Cond.selects mi_dr_copyContentFrom.1.cls mi_dr_copyContentFrom.1 mi_dr_copyContentFrom.1 ∈ UW := ⟨⟨uw_t 373 (by decide +kernel) rfl, uw_t 2 (by decide +kernel) rfl, by decide +kernel, by decide +kernel⟩, uw_t 371 (by decide +kernel) rfl, uw_t 372 (by decide +kernel) rfl⟩
abbrev mi_dr_copyFrom : MI := (yX1_copyFrom, cX1_copyFrom, 2, none, 2, 81, 0, 0, none)
theorem mv_dr_copyFrom : MV mi_dr_copyFrom 1 ∧ Cond.instanceMethod mi_dr_copyFrom.1 ∈ UW ∧ Cond.selects mi_dr_copyFrom.1.cls mi_dr_copyFrom.1 mi_dr_copyFrom.1 ∈ UW := ⟨⟨uw_t 369 (by decide +kernel) rfl, uw_t 2 (by decide +kernel) rfl, by decide +kernel, by decide +kernel⟩, uw_t 367 (by decide +kernel) rfl, uw_t 368 (by decide +kernel) rfl⟩
abbrev mi_dr_hasPoint : MI := (yX1_hasPoint, cX1_hasPoint, 2, (some .boolean), 0, 0, 0, 0, none)
theorem mv_dr_hasPoint : MV mi_dr_hasPoint 1 ∧ Cond.instanceMethod mi_dr_hasPoint.1 ∈ UW ∧ Cond.selects mi_dr_hasPoint.1.cls mi_dr_hasPoint.1 mi_dr_hasPoint.1 ∈ UW := ⟨⟨uw_t 349 (by decide +kernel) rfl, uw_t 2 (by decide +kernel) rfl, by decide +kernel, by decide +kernel⟩, uw_t 347 (by decide +kernel) rfl, uw_t 348 (by decide +kernel) rfl⟩
abbrev mi_dr_hasDimension : MI := (yX1_hasDimension, cX1_hasDimension, 2, (some .boolean), 0, 0, 0, 0, none)
theorem mv_dr_hasDimension : MV mi_dr_hasDimension 1 ∧ Cond.instanceMethod mi_dr_hasDimension.1 ∈ UW ∧ Cond.selects mi_dr_hasDimension.1.cls mi_dr_hasDimension.1 mi_dr_hasDimension.1 ∈ UW := ⟨⟨uw_t 463 (by decide +kernel) rfl, uw_t 2 (by decide +kernel) rfl, by decide +kernel, by decide +kernel⟩, uw_t 461 (by decide +kernel) rfl, uw_t 462 (by decide +kernel) rfl⟩
abbrev mi_dr_countPointsBefore : MI := (yX1_countPointsBefore, cX1_countPointsBefore, 4, (some .int), 0, 0, 0, 0, none)
theorem mv_dr_countPointsBefore : MV mi_dr_countPointsBefore 1 ∧ Cond.instanceMethod mi_dr_countPointsBefore.1 ∈ UW ∧ Cond.selects mi_dr_countPointsBefore.1.cls mi_dr_countPointsBefore.1 mi_dr_countPointsBefore.1 ∈ UW := ⟨⟨uw_t 400 (by decide +kernel) rfl, uw_t 2 (by decide +kernel) rfl, by decide +kernel, by decide +kernel⟩, uw_t 398 (by decide +kernel) rfl, uw_t 399 (by decide +kernel) rfl⟩
abbrev mi_dr_hasPointAt : MI := (yX1_hasPointAt, cX1_hasPointAt, 3, (some .boolean), 1, 23, 0, 0, none)
theorem mv_dr_hasPointAt : MV mi_dr_hasPointAt 1 ∧ Cond.instanceMethod mi_dr_hasPointAt.1 ∈ UW ∧ Cond.selects mi_dr_hasPointAt.1.cls mi_dr_hasPointAt.1 mi_dr_hasPointAt.1 ∈ UW := ⟨⟨uw_t 396 (by decide +kernel) rfl, uw_t 2 (by decide +kernel) rfl, by decide +kernel, by decide +kernel⟩, uw_t 394 (by decide +kernel) rfl, uw_t 395 (by decide +kernel) rfl⟩
abbrev mi_dr_isEnd : MI := (yX1_isEnd, cX1_isEnd, 3, (some .boolean), 0, 0, 0, 0, none)
theorem mv_dr_isEnd : MV mi_dr_isEnd 2 ∧ Cond.instanceMethod mi_dr_isEnd.1 ∈ UW ∧ Cond.selects mi_dr_isEnd.1.cls mi_dr_isEnd.1 mi_dr_isEnd.1 ∈ UW := ⟨⟨uw_t 437 (by decide +kernel) rfl, uw_t 2 (by decide +kernel) rfl, by decide +kernel, by decide +kernel⟩, uw_t 435 (by decide +kernel) rfl, uw_t 436 (by decide +kernel) rfl⟩
abbrev mi_dr_countDimensionsAt : MI := (yX1_countDimensionsAt, cX1_countDimensionsAt, 4, (some .int), 1, 22, 0, 0, none)
theorem mv_dr_countDimensionsAt : MV mi_dr_countDimensionsAt 1 ∧ Cond.instanceMethod mi_dr_countDimensionsAt.1 ∈ UW ∧ Cond.selects mi_dr_countDimensionsAt.1.cls mi_dr_countDimensionsAt.1 mi_dr_countDimensionsAt.1 ∈ UW := ⟨⟨uw_t 433 (by decide +kernel) rfl, uw_t 2 (by decide +kernel) rfl, by decide +kernel, by decide +kernel⟩, uw_t 431 (by decide +kernel) rfl, uw_t 432 (by decide +kernel) rfl⟩
abbrev mi_dr_renumbered : MI := (yX1_renumbered, cX1_renumbered, 3, (some .int), 0, 0, 0, 0, none)
theorem mv_dr_renumbered : MV mi_dr_renumbered 3 ∧ Cond.static mi_dr_renumbered.1 ∈ UW := ⟨⟨uw_t 415 (by decide +kernel) rfl, uw_t 2 (by decide +kernel) rfl, by decide +kernel, by decide +kernel⟩, uw_t 414 (by decide +kernel) rfl⟩
abbrev mi_dr_renumberEnds : MI := (yX1_renumberEnds, cX1_renumberEnds, 6, none, 1, 22, 0, 0, none)
theorem mv_dr_renumberEnds : MV mi_dr_renumberEnds 2 ∧ Cond.instanceMethod mi_dr_renumberEnds.1 ∈ UW ∧ Cond.selects mi_dr_renumberEnds.1.cls mi_dr_renumberEnds.1 mi_dr_renumberEnds.1 ∈ UW := ⟨⟨uw_t 412 (by decide +kernel) rfl, uw_t 2 (by decide +kernel) rfl, by decide +kernel, by decide +kernel⟩, uw_t 411 (by decide +kernel) rfl, uw_s (q := (mi_dr_renumberEnds.1, 11)) 12 (by decide +kernel)⟩
abbrev mi_dr_shiftPoint : MI := (yX1_shiftPoint, cX1_shiftPoint, 5, (some .int), 2, 47, 0, 0, none)
theorem mv_dr_shiftPoint : MV mi_dr_shiftPoint 2 ∧ Cond.instanceMethod mi_dr_shiftPoint.1 ∈ UW ∧ Cond.selects mi_dr_shiftPoint.1.cls mi_dr_shiftPoint.1 mi_dr_shiftPoint.1 ∈ UW := ⟨⟨uw_t 408 (by decide +kernel) rfl, uw_t 2 (by decide +kernel) rfl, by decide +kernel, by decide +kernel⟩, uw_t 406 (by decide +kernel) rfl, uw_t 407 (by decide +kernel) rfl⟩
abbrev mi_dr_insertPoint : MI := (yX1_insertPoint, cX1_insertPoint, 2, (some .int), 3, 71, 0, 0, none)
theorem mv_dr_insertPoint : MV mi_dr_insertPoint 1 ∧ Cond.instanceMethod mi_dr_insertPoint.1 ∈ UW ∧ Cond.selects mi_dr_insertPoint.1.cls mi_dr_insertPoint.1 mi_dr_insertPoint.1 ∈ UW := ⟨⟨uw_t 404 (by decide +kernel) rfl, uw_t 2 (by decide +kernel) rfl, by decide +kernel, by decide +kernel⟩, uw_t 402 (by decide +kernel) rfl, uw_t 403 (by decide +kernel) rfl⟩
abbrev mi_dr_closeGap : MI := (yX1_closeGap, cX1_closeGap, 4, none, 0, 0, 0, 0, none)
theorem mv_dr_closeGap : MV mi_dr_closeGap 3 ∧ Cond.static mi_dr_closeGap.1 ∈ UW := ⟨⟨uw_t 444 (by decide +kernel) rfl, uw_t 2 (by decide +kernel) rfl, by decide +kernel, by decide +kernel⟩, uw_t 443 (by decide +kernel) rfl⟩
abbrev mi_dr_removePoint : MI := (yX1_removePoint, cX1_removePoint, 2, none, 2, 47, 0, 0, none)
theorem mv_dr_removePoint : MV mi_dr_removePoint 1 ∧ Cond.instanceMethod mi_dr_removePoint.1 ∈ UW ∧ Cond.selects mi_dr_removePoint.1.cls mi_dr_removePoint.1 mi_dr_removePoint.1 ∈ UW := ⟨⟨uw_t 441 (by decide +kernel) rfl, uw_t 2 (by decide +kernel) rfl, by decide +kernel, by decide +kernel⟩, uw_t 439 (by decide +kernel) rfl, uw_t 440 (by decide +kernel) rfl⟩
abbrev mi_dr_append : MI := (yX1_append, cX1_append, 4, (some .int), 0, 0, 0, 0, none)
theorem mv_dr_append : MV mi_dr_append 2 ∧ Cond.instanceMethod mi_dr_append.1 ∈ UW ∧ Cond.selects mi_dr_append.1.cls mi_dr_append.1 mi_dr_append.1 ∈ UW := ⟨⟨uw_t 353 (by decide +kernel) rfl, uw_t 2 (by decide +kernel) rfl, by decide +kernel, by decide +kernel⟩, uw_t 351 (by decide +kernel) rfl, uw_t 352 (by decide +kernel) rfl⟩
abbrev mi_dr_removeDimension : MI := (yX1_removeDimension, cX1_removeDimension, 2, none, 1, 23, 0, 0, none)
theorem mv_dr_removeDimension : MV mi_dr_removeDimension 1 ∧ Cond.instanceMethod mi_dr_removeDimension.1 ∈ UW ∧ Cond.selects mi_dr_removeDimension.1.cls mi_dr_removeDimension.1 mi_dr_removeDimension.1 ∈ UW := ⟨⟨uw_t 467 (by decide +kernel) rfl, uw_t 2 (by decide +kernel) rfl, by decide +kernel, by decide +kernel⟩, uw_t 465 (by decide +kernel) rfl, uw_t 466 (by decide +kernel) rfl⟩
abbrev mi_dr_countOfChain : MI := (yX1_countOfChain, cX1_countOfChain, 4, (some .int), 0, 0, 0, 0, none)
theorem mv_dr_countOfChain : MV mi_dr_countOfChain 1 ∧ Cond.instanceMethod mi_dr_countOfChain.1 ∈ UW ∧ Cond.selects mi_dr_countOfChain.1.cls mi_dr_countOfChain.1 mi_dr_countOfChain.1 ∈ UW := ⟨⟨uw_t 638 (by decide +kernel) rfl, uw_t 2 (by decide +kernel) rfl, by decide +kernel, by decide +kernel⟩, uw_t 636 (by decide +kernel) rfl, uw_t 637 (by decide +kernel) rfl⟩
abbrev mi_dr_sumOfChain : MI := (yX1_sumOfChain, cX1_sumOfChain, 5, (some .int), 0, 0, 0, 0, none)
theorem mv_dr_sumOfChain : MV mi_dr_sumOfChain 2 ∧ Cond.instanceMethod mi_dr_sumOfChain.1 ∈ UW ∧ Cond.selects mi_dr_sumOfChain.1.cls mi_dr_sumOfChain.1 mi_dr_sumOfChain.1 ∈ UW := ⟨⟨uw_t 665 (by decide +kernel) rfl, uw_t 2 (by decide +kernel) rfl, by decide +kernel, by decide +kernel⟩, uw_t 663 (by decide +kernel) rfl, uw_t 664 (by decide +kernel) rfl⟩
abbrev mi_dr_sumOfValues : MI := (yX1_sumOfValues, cX1_sumOfValues, 4, (some .int), 1, 21, 0, 0, none)
theorem mv_dr_sumOfValues : MV mi_dr_sumOfValues 1 ∧ Cond.instanceMethod mi_dr_sumOfValues.1 ∈ UW ∧ Cond.selects mi_dr_sumOfValues.1.cls mi_dr_sumOfValues.1 mi_dr_sumOfValues.1 ∈ UW := ⟨⟨uw_t 660 (by decide +kernel) rfl, uw_t 2 (by decide +kernel) rfl, by decide +kernel, by decide +kernel⟩, uw_t 658 (by decide +kernel) rfl, uw_t 659 (by decide +kernel) rfl⟩
abbrev mi_dr_beginOfChain : MI := (yX1_beginOfChain, cX1_beginOfChain, 4, (some .int), 1, 21, 0, 0, none)
theorem mv_dr_beginOfChain : MV mi_dr_beginOfChain 1 ∧ Cond.instanceMethod mi_dr_beginOfChain.1 ∈ UW ∧ Cond.selects mi_dr_beginOfChain.1.cls mi_dr_beginOfChain.1 mi_dr_beginOfChain.1 ∈ UW := ⟨⟨uw_t 642 (by decide +kernel) rfl, uw_t 2 (by decide +kernel) rfl, by decide +kernel, by decide +kernel⟩, uw_t 640 (by decide +kernel) rfl, uw_t 641 (by decide +kernel) rfl⟩
abbrev mi_dr_endOfChain : MI := (yX1_endOfChain, cX1_endOfChain, 4, (some .int), 1, 21, 0, 0, none)
theorem mv_dr_endOfChain : MV mi_dr_endOfChain 1 ∧ Cond.instanceMethod mi_dr_endOfChain.1 ∈ UW ∧ Cond.selects mi_dr_endOfChain.1.cls mi_dr_endOfChain.1 mi_dr_endOfChain.1 ∈ UW := ⟨⟨uw_t 646 (by decide +kernel) rfl, uw_t 2 (by decide +kernel) rfl, by decide +kernel, by decide +kernel⟩, uw_t 644 (by decide +kernel) rfl, uw_t 645 (by decide +kernel) rfl⟩
abbrev mi_dr_nextInChain : MI := (yX1_nextInChain, cX1_nextInChain, 4, (some .int), 0, 0, 0, 0, none)
theorem mv_dr_nextInChain : MV mi_dr_nextInChain 2 ∧ Cond.instanceMethod mi_dr_nextInChain.1 ∈ UW ∧ Cond.selects mi_dr_nextInChain.1.cls mi_dr_nextInChain.1 mi_dr_nextInChain.1 ∈ UW := ⟨⟨uw_t 656 (by decide +kernel) rfl, uw_t 2 (by decide +kernel) rfl, by decide +kernel, by decide +kernel⟩, uw_t 655 (by decide +kernel) rfl, uw_s (q := (mi_dr_nextInChain.1, 11)) 30 (by decide +kernel)⟩
abbrev mi_dr_isClosed : MI := (yX1_isClosed, cX1_isClosed, 6, (some .boolean), 2, 44, 0, 0, none)
theorem mv_dr_isClosed : MV mi_dr_isClosed 1 ∧ Cond.instanceMethod mi_dr_isClosed.1 ∈ UW ∧ Cond.selects mi_dr_isClosed.1.cls mi_dr_isClosed.1 mi_dr_isClosed.1 ∈ UW := ⟨⟨uw_t 650 (by decide +kernel) rfl, uw_t 2 (by decide +kernel) rfl, by decide +kernel, by decide +kernel⟩, uw_t 648 (by decide +kernel) rfl, uw_t 649 (by decide +kernel) rfl⟩
abbrev mi_dr_smallestOver : MI := (yX1_smallestOver, cX1_smallestOver, 5, (some .int), 2, 44, 0, 0, none)
theorem mv_dr_smallestOver : MV mi_dr_smallestOver 1 ∧ Cond.instanceMethod mi_dr_smallestOver.1 ∈ UW ∧ Cond.selects mi_dr_smallestOver.1.cls mi_dr_smallestOver.1 mi_dr_smallestOver.1 ∈ UW := ⟨⟨uw_t 669 (by decide +kernel) rfl, uw_t 2 (by decide +kernel) rfl, by decide +kernel, by decide +kernel⟩, uw_t 667 (by decide +kernel) rfl, uw_t 668 (by decide +kernel) rfl⟩
abbrev mi_hi_record : MI := (yX2_record, cX2_record, 2, none, 3, 102, 0, 0, none)
theorem mv_hi_record : MV mi_hi_record 1 ∧ Cond.instanceMethod mi_hi_record.1 ∈ UW ∧ Cond.selects mi_hi_record.1.cls mi_hi_record.1 mi_hi_record.1 ∈ UW := ⟨⟨uw_t 365 (by decide +kernel) rfl, uw_t 3 (by decide +kernel) rfl, by decide +kernel, by decide +kernel⟩, uw_t 363 (by decide +kernel) rfl, uw_t 364 (by decide +kernel) rfl⟩
abbrev mi_hi_restore : MI := (yX2_restore, cX2_restore, 2, none, 3, 102, 0, 0, none)
theorem mv_hi_restore : MV mi_hi_restore 1 ∧ Cond.instanceMethod mi_hi_restore.1 ∈ UW ∧ Cond.selects mi_hi_restore.1.cls mi_hi_restore.1 mi_hi_restore.1 ∈ UW := ⟨⟨uw_t 686 (by decide +kernel) rfl, uw_t 3 (by decide +kernel) rfl, by decide +kernel, by decide +kernel⟩, uw_t 684 (by decide +kernel) rfl, uw_t 685 (by decide +kernel) rfl⟩
abbrev mi_la_digitsOf : MI := (yX3_digitsOf, cX3_digitsOf, 1, (some .int), 0, 0, 0, 0, none)
theorem mv_la_digitsOf : MV mi_la_digitsOf 1 ∧ Cond.static mi_la_digitsOf.1 ∈ UW := ⟨⟨uw_t 510 (by decide +kernel) rfl, uw_t 5 (by decide +kernel) rfl, by decide +kernel, by decide +kernel⟩, uw_t 509 (by decide +kernel) rfl⟩
abbrev mi_la_measure : MI := (yX3_measure, cX3_measure, 6, none, 1, 21, 0, 0, none)
theorem mv_la_measure : MV mi_la_measure 3 ∧ Cond.instanceMethod mi_la_measure.1 ∈ UW ∧ Cond.selects mi_la_measure.1.cls mi_la_measure.1 mi_la_measure.1 ∈ UW := ⟨⟨uw_t 503 (by decide +kernel) rfl, uw_t 5 (by decide +kernel) rfl, by decide +kernel, by decide +kernel⟩, uw_t 502 (by decide +kernel) rfl, uw_s (q := (mi_la_measure.1, 16)) 15 (by decide +kernel)⟩
abbrev mi_la_leaderOf : MI := (yX3_leaderOf, cX3_leaderOf, 4, (some .int), 0, 0, 0, 0, none)
theorem mv_la_leaderOf : MV mi_la_leaderOf 2 ∧ Cond.static mi_la_leaderOf.1 ∈ UW := ⟨⟨uw_t 517 (by decide +kernel) rfl, uw_t 5 (by decide +kernel) rfl, by decide +kernel, by decide +kernel⟩, uw_t 516 (by decide +kernel) rfl⟩
abbrev mi_la_joinUnit : MI := (yX3_joinUnit, cX3_joinUnit, 6, none, 1, 23, 0, 0, none)
theorem mv_la_joinUnit : MV mi_la_joinUnit 2 ∧ Cond.instanceMethod mi_la_joinUnit.1 ∈ UW ∧ Cond.selects mi_la_joinUnit.1.cls mi_la_joinUnit.1 mi_la_joinUnit.1 ∈ UW := ⟨⟨uw_t 514 (by decide +kernel) rfl, uw_t 5 (by decide +kernel) rfl, by decide +kernel, by decide +kernel⟩, uw_t 513 (by decide +kernel) rfl, uw_s (q := (mi_la_joinUnit.1, 16)) 16 (by decide +kernel)⟩
abbrev mi_la_comesBefore : MI := (yX3_comesBefore, cX3_comesBefore, 4, (some .boolean), 0, 0, 0, 0, none)
theorem mv_la_comesBefore : MV mi_la_comesBefore 2 ∧ Cond.instanceMethod mi_la_comesBefore.1 ∈ UW ∧ Cond.selects mi_la_comesBefore.1.cls mi_la_comesBefore.1 mi_la_comesBefore.1 ∈ UW := ⟨⟨uw_t 527 (by decide +kernel) rfl, uw_t 5 (by decide +kernel) rfl, by decide +kernel, by decide +kernel⟩, uw_t 526 (by decide +kernel) rfl, uw_s (q := (mi_la_comesBefore.1, 16)) 18 (by decide +kernel)⟩
abbrev mi_la_isTaken : MI := (yX3_isTaken, cX3_isTaken, 5, (some .boolean), 0, 0, 0, 0, none)
theorem mv_la_isTaken : MV mi_la_isTaken 2 ∧ Cond.instanceMethod mi_la_isTaken.1 ∈ UW ∧ Cond.selects mi_la_isTaken.1.cls mi_la_isTaken.1 mi_la_isTaken.1 ∈ UW := ⟨⟨uw_t 535 (by decide +kernel) rfl, uw_t 5 (by decide +kernel) rfl, by decide +kernel, by decide +kernel⟩, uw_t 534 (by decide +kernel) rfl, uw_s (q := (mi_la_isTaken.1, 16)) 20 (by decide +kernel)⟩
abbrev mi_la_lowestLaneFor : MI := (yX3_lowestLaneFor, cX3_lowestLaneFor, 6, (some .int), 1, 24, 0, 0, none)
theorem mv_la_lowestLaneFor : MV mi_la_lowestLaneFor 2 ∧ Cond.instanceMethod mi_la_lowestLaneFor.1 ∈ UW ∧ Cond.selects mi_la_lowestLaneFor.1.cls mi_la_lowestLaneFor.1 mi_la_lowestLaneFor.1 ∈ UW := ⟨⟨uw_t 531 (by decide +kernel) rfl, uw_t 5 (by decide +kernel) rfl, by decide +kernel, by decide +kernel⟩, uw_t 530 (by decide +kernel) rfl, uw_s (q := (mi_la_lowestLaneFor.1, 16)) 19 (by decide +kernel)⟩
abbrev mi_la_place : MI := (yX3_place, cX3_place, 5, none, 2, 49, 0, 0, none)
theorem mv_la_place : MV mi_la_place 1 ∧ Cond.instanceMethod mi_la_place.1 ∈ UW ∧ Cond.selects mi_la_place.1.cls mi_la_place.1 mi_la_place.1 ∈ UW := ⟨⟨uw_t 523 (by decide +kernel) rfl, uw_t 5 (by decide +kernel) rfl, by decide +kernel, by decide +kernel⟩, uw_t 522 (by decide +kernel) rfl, uw_s (q := (mi_la_place.1, 16)) 17 (by decide +kernel)⟩
abbrev mi_la_countCrossings : MI := (yX3_countCrossings, cX3_countCrossings, 4, none, 0, 0, 0, 0, none)
theorem mv_la_countCrossings : MV mi_la_countCrossings 2 ∧ Cond.instanceMethod mi_la_countCrossings.1 ∈ UW ∧ Cond.selects mi_la_countCrossings.1.cls mi_la_countCrossings.1 mi_la_countCrossings.1 ∈ UW := ⟨⟨uw_t 547 (by decide +kernel) rfl, uw_t 5 (by decide +kernel) rfl, by decide +kernel, by decide +kernel⟩, uw_t 546 (by decide +kernel) rfl, uw_s (q := (mi_la_countCrossings.1, 16)) 22 (by decide +kernel)⟩
abbrev mi_la_drawWitnessLines : MI := (yX3_drawWitnessLines, cX3_drawWitnessLines, 4, none, 1, 23, 0, 0, none)
theorem mv_la_drawWitnessLines : MV mi_la_drawWitnessLines 1 ∧ Cond.instanceMethod mi_la_drawWitnessLines.1 ∈ UW ∧ Cond.selects mi_la_drawWitnessLines.1.cls mi_la_drawWitnessLines.1 mi_la_drawWitnessLines.1 ∈ UW := ⟨⟨uw_t 539 (by decide +kernel) rfl, uw_t 5 (by decide +kernel) rfl, by decide +kernel, by decide +kernel⟩, uw_t 538 (by decide +kernel) rfl, uw_s (q := (mi_la_drawWitnessLines.1, 16)) 21 (by decide +kernel)⟩
abbrev mi_la_layOut : MI := (yX3_layOut, cX3_layOut, 4, none, 3, 73, 0, 0, none)
theorem mv_la_layOut : MV mi_la_layOut 2 ∧ Cond.instanceMethod mi_la_layOut.1 ∈ UW ∧ Cond.selects mi_la_layOut.1.cls mi_la_layOut.1 mi_la_layOut.1 ∈ UW := ⟨⟨uw_t 499 (by decide +kernel) rfl, uw_t 5 (by decide +kernel) rfl, by decide +kernel, by decide +kernel⟩, uw_t 497 (by decide +kernel) rfl, uw_t 498 (by decide +kernel) rfl⟩
abbrev mi_la_topOf : MI := (yX3_topOf, cX3_topOf, 2, (some .int), 0, 0, 0, 0, none)
theorem mv_la_topOf : MV mi_la_topOf 1 ∧ Cond.instanceMethod mi_la_topOf.1 ∈ UW ∧ Cond.selects mi_la_topOf.1.cls mi_la_topOf.1 mi_la_topOf.1 ∈ UW := ⟨⟨uw_t 551 (by decide +kernel) rfl, uw_t 5 (by decide +kernel) rfl, by decide +kernel, by decide +kernel⟩, uw_t 549 (by decide +kernel) rfl, uw_t 550 (by decide +kernel) rfl⟩
abbrev mi_la_laneOfChain : MI := (yX3_laneOfChain, cX3_laneOfChain, 4, (some .int), 0, 0, 0, 0, none)
theorem mv_la_laneOfChain : MV mi_la_laneOfChain 2 ∧ Cond.instanceMethod mi_la_laneOfChain.1 ∈ UW ∧ Cond.selects mi_la_laneOfChain.1.cls mi_la_laneOfChain.1 mi_la_laneOfChain.1 ∈ UW := ⟨⟨uw_t 674 (by decide +kernel) rfl, uw_t 5 (by decide +kernel) rfl, by decide +kernel, by decide +kernel⟩, uw_t 672 (by decide +kernel) rfl, uw_t 673 (by decide +kernel) rfl⟩
abbrev mi_tr_append : MI := (yX4_append, cX4_append, 2, (some .int), 0, 0, 0, 0, none)
theorem mv_tr_append : MV mi_tr_append 1 ∧ Cond.instanceMethod mi_tr_append.1 ∈ UW ∧ Cond.selects mi_tr_append.1.cls mi_tr_append.1 mi_tr_append.1 ∈ UW := ⟨⟨uw_t 292 (by decide +kernel) rfl, uw_t 4 (by decide +kernel) rfl, by decide +kernel, by decide +kernel⟩, uw_t 290 (by decide +kernel) rfl, uw_t 291 (by decide +kernel) rfl⟩
abbrev mi_tr_empty : MI := (yX4_empty, cX4_empty, 2, (some .int), 0, 0, 0, 0, none)
theorem mv_tr_empty : MV mi_tr_empty 0 ∧ Cond.instanceMethod mi_tr_empty.1 ∈ UW ∧ Cond.selects mi_tr_empty.1.cls mi_tr_empty.1 mi_tr_empty.1 ∈ UW := ⟨⟨uw_t 300 (by decide +kernel) rfl, uw_t 4 (by decide +kernel) rfl, by decide +kernel, by decide +kernel⟩, uw_t 298 (by decide +kernel) rfl, uw_t 299 (by decide +kernel) rfl⟩
abbrev mi_tr_next : MI := (yX4_next, cX4_next, 1, (some .int), 0, 0, 0, 0, none)
theorem mv_tr_next : MV mi_tr_next 0 ∧ Cond.instanceMethod mi_tr_next.1 ∈ UW ∧ Cond.selects mi_tr_next.1.cls mi_tr_next.1 mi_tr_next.1 ∈ UW := ⟨⟨uw_t 320 (by decide +kernel) rfl, uw_t 4 (by decide +kernel) rfl, by decide +kernel, by decide +kernel⟩, uw_t 319 (by decide +kernel) rfl, uw_s (q := (mi_tr_next.1, 7)) 2 (by decide +kernel)⟩
abbrev mi_tr_accept : MI := (yX4_accept, cX4_accept, 2, (some .boolean), 1, 20, 0, 0, none)
theorem mv_tr_accept : MV mi_tr_accept 1 ∧ Cond.instanceMethod mi_tr_accept.1 ∈ UW ∧ Cond.selects mi_tr_accept.1.cls mi_tr_accept.1 mi_tr_accept.1 ∈ UW := ⟨⟨uw_t 316 (by decide +kernel) rfl, uw_t 4 (by decide +kernel) rfl, by decide +kernel, by decide +kernel⟩, uw_t 315 (by decide +kernel) rfl, uw_s (q := (mi_tr_accept.1, 7)) 1 (by decide +kernel)⟩
abbrev mi_tr_fail : MI := (yX4_fail, cX4_fail, 3, none, 0, 0, 0, 0, none)
theorem mv_tr_fail : MV mi_tr_fail 2 ∧ Cond.instanceMethod mi_tr_fail.1 ∈ UW ∧ Cond.selects mi_tr_fail.1.cls mi_tr_fail.1 mi_tr_fail.1 ∈ UW := ⟨⟨uw_t 324 (by decide +kernel) rfl, uw_t 4 (by decide +kernel) rfl, by decide +kernel, by decide +kernel⟩, uw_t 323 (by decide +kernel) rfl, uw_s (q := (mi_tr_fail.1, 7)) 3 (by decide +kernel)⟩
abbrev mi_tr_expect : MI := (yX4_expect, cX4_expect, 2, none, 2, 41, 0, 0, none)
theorem mv_tr_expect : MV mi_tr_expect 1 ∧ Cond.instanceMethod mi_tr_expect.1 ∈ UW ∧ Cond.selects mi_tr_expect.1.cls mi_tr_expect.1 mi_tr_expect.1 ∈ UW := ⟨⟨uw_t 312 (by decide +kernel) rfl, uw_t 4 (by decide +kernel) rfl, by decide +kernel, by decide +kernel⟩, uw_t 311 (by decide +kernel) rfl, uw_s (q := (mi_tr_expect.1, 7)) 0 (by decide +kernel)⟩
abbrev mi_dl_isWithin : MI := (yX5_isWithin, cX5_isWithin, 3, (some .boolean), 0, 0, 0, 0, none)
theorem mv_dl_isWithin : MV mi_dl_isWithin 3 ∧ Cond.static mi_dl_isWithin.1 ∈ UW := ⟨⟨uw_t 288 (by decide +kernel) rfl, uw_t 1 (by decide +kernel) rfl, by decide +kernel, by decide +kernel⟩, uw_t 287 (by decide +kernel) rfl⟩
abbrev mi_tr_isDigitNext : MI := (yX4_isDigitNext, cX4_isDigitNext, 1, (some .boolean), 1, 22, 0, 0, none)
theorem mv_tr_isDigitNext : MV mi_tr_isDigitNext 0 ∧ Cond.instanceMethod mi_tr_isDigitNext.1 ∈ UW ∧ Cond.selects mi_tr_isDigitNext.1.cls mi_tr_isDigitNext.1 mi_tr_isDigitNext.1 ∈ UW := ⟨⟨uw_t 336 (by decide +kernel) rfl, uw_t 4 (by decide +kernel) rfl, by decide +kernel, by decide +kernel⟩, uw_t 335 (by decide +kernel) rfl, uw_s (q := (mi_tr_isDigitNext.1, 7)) 6 (by decide +kernel)⟩
abbrev mi_tr_readNumber : MI := (yX4_readNumber, cX4_readNumber, 4, (some .int), 2, 42, 0, 0, none)
theorem mv_tr_readNumber : MV mi_tr_readNumber 1 ∧ Cond.instanceMethod mi_tr_readNumber.1 ∈ UW ∧ Cond.selects mi_tr_readNumber.1.cls mi_tr_readNumber.1 mi_tr_readNumber.1 ∈ UW := ⟨⟨uw_t 332 (by decide +kernel) rfl, uw_t 4 (by decide +kernel) rfl, by decide +kernel, by decide +kernel⟩, uw_t 331 (by decide +kernel) rfl, uw_s (q := (mi_tr_readNumber.1, 7)) 5 (by decide +kernel)⟩
abbrev mi_tr_demand : MI := (yX4_demand, cX4_demand, 2, none, 1, 22, 0, 0, none)
theorem mv_tr_demand : MV mi_tr_demand 1 ∧ Cond.instanceMethod mi_tr_demand.1 ∈ UW ∧ Cond.selects mi_tr_demand.1.cls mi_tr_demand.1 mi_tr_demand.1 ∈ UW := ⟨⟨uw_t 341 (by decide +kernel) rfl, uw_t 4 (by decide +kernel) rfl, by decide +kernel, by decide +kernel⟩, uw_t 340 (by decide +kernel) rfl, uw_s (q := (mi_tr_demand.1, 7)) 7 (by decide +kernel)⟩
abbrev mi_tr_readPosition : MI := (yX4_readPosition, cX4_readPosition, 4, none, 3, 65, 0, 0, none)
theorem mv_tr_readPosition : MV mi_tr_readPosition 0 ∧ Cond.instanceMethod mi_tr_readPosition.1 ∈ UW ∧ Cond.selects mi_tr_readPosition.1.cls mi_tr_readPosition.1 mi_tr_readPosition.1 ∈ UW := ⟨⟨uw_t 328 (by decide +kernel) rfl, uw_t 4 (by decide +kernel) rfl, by decide +kernel, by decide +kernel⟩, uw_t 327 (by decide +kernel) rfl, uw_s (q := (mi_tr_readPosition.1, 7)) 4 (by decide +kernel)⟩
abbrev mi_tr_readUpTo : MI := (yX4_readUpTo, cX4_readUpTo, 4, (some .int), 3, 65, 0, 0, none)
theorem mv_tr_readUpTo : MV mi_tr_readUpTo 2 ∧ Cond.instanceMethod mi_tr_readUpTo.1 ∈ UW ∧ Cond.selects mi_tr_readUpTo.1.cls mi_tr_readUpTo.1 mi_tr_readUpTo.1 ∈ UW := ⟨⟨uw_t 357 (by decide +kernel) rfl, uw_t 4 (by decide +kernel) rfl, by decide +kernel, by decide +kernel⟩, uw_t 356 (by decide +kernel) rfl, uw_s (q := (mi_tr_readUpTo.1, 7)) 9 (by decide +kernel)⟩
abbrev mi_tr_readDimension : MI := (yX4_readDimension, cX4_readDimension, 4, none, 4, 88, 0, 0, none)
theorem mv_tr_readDimension : MV mi_tr_readDimension 0 ∧ Cond.instanceMethod mi_tr_readDimension.1 ∈ UW ∧ Cond.selects mi_tr_readDimension.1.cls mi_tr_readDimension.1 mi_tr_readDimension.1 ∈ UW := ⟨⟨uw_t 345 (by decide +kernel) rfl, uw_t 4 (by decide +kernel) rfl, by decide +kernel, by decide +kernel⟩, uw_t 344 (by decide +kernel) rfl, uw_s (q := (mi_tr_readDimension.1, 7)) 8 (by decide +kernel)⟩
abbrev mi_tr_read : MI := (yX4_read, cX4_read, 2, none, 5, 111, 0, 0, none)
theorem mv_tr_read : MV mi_tr_read 0 ∧ Cond.instanceMethod mi_tr_read.1 ∈ UW ∧ Cond.selects mi_tr_read.1.cls mi_tr_read.1 mi_tr_read.1 ∈ UW := ⟨⟨uw_t 308 (by decide +kernel) rfl, uw_t 4 (by decide +kernel) rfl, by decide +kernel, by decide +kernel⟩, uw_t 306 (by decide +kernel) rfl, uw_t 307 (by decide +kernel) rfl⟩
abbrev mi_dl_type : MI := (yX5_type, cX5_type, 2, (some .int), 1, 22, 0, 0, none)
theorem mv_dl_type : MV mi_dl_type 1 ∧ Cond.instanceMethod mi_dl_type.1 ∈ UW ∧ Cond.selects mi_dl_type.1.cls mi_dl_type.1 mi_dl_type.1 ∈ UW := ⟨⟨uw_t 285 (by decide +kernel) rfl, uw_t 1 (by decide +kernel) rfl, by decide +kernel, by decide +kernel⟩, uw_t 283 (by decide +kernel) rfl, uw_t 284 (by decide +kernel) rfl⟩
abbrev mi_dl_clearText : MI := (yX5_clearText, cX5_clearText, 1, (some .int), 1, 21, 0, 0, none)
theorem mv_dl_clearText : MV mi_dl_clearText 0 ∧ Cond.instanceMethod mi_dl_clearText.1 ∈ UW ∧ Cond.selects mi_dl_clearText.1.cls mi_dl_clearText.1 mi_dl_clearText.1 ∈ UW := ⟨⟨uw_t 296 (by decide +kernel) rfl, uw_t 1 (by decide +kernel) rfl, by decide +kernel, by decide +kernel⟩, uw_t 294 (by decide +kernel) rfl, uw_t 295 (by decide +kernel) rfl⟩
abbrev mi_dl_forgetWhatWasWorkedOut : MI := (yX5_forgetWhatWasWorkedOut, cX5_forgetWhatWasWorkedOut, 1, none, 0, 0, 0, 0, none)
theorem mv_dl_forgetWhatWasWorkedOut : MV mi_dl_forgetWhatWasWorkedOut 0 ∧ Cond.instanceMethod mi_dl_forgetWhatWasWorkedOut.1 ∈ UW ∧ Cond.selects mi_dl_forgetWhatWasWorkedOut.1.cls mi_dl_forgetWhatWasWorkedOut.1 mi_dl_forgetWhatWasWorkedOut.1 ∈ UW := ⟨⟨uw_t 383 (by decide +kernel) rfl, uw_t 1 (by decide +kernel) rfl, by decide +kernel, by decide +kernel⟩, uw_t 382 (by decide +kernel) rfl, uw_s (q := (mi_dl_forgetWhatWasWorkedOut.1, 8)) 11 (by decide +kernel)⟩
abbrev mi_dl_beginChange : MI := (yX5_beginChange, cX5_beginChange, 1, none, 4, 123, 0, 0, none)
theorem mv_dl_beginChange : MV mi_dl_beginChange 0 ∧ Cond.instanceMethod mi_dl_beginChange.1 ∈ UW ∧ Cond.selects mi_dl_beginChange.1.cls mi_dl_beginChange.1 mi_dl_beginChange.1 ∈ UW := ⟨⟨uw_t 361 (by decide +kernel) rfl, uw_t 1 (by decide +kernel) rfl, by decide +kernel, by decide +kernel⟩, uw_t 360 (by decide +kernel) rfl, uw_s (q := (mi_dl_beginChange.1, 8)) 10 (by decide +kernel)⟩
abbrev mi_dl_load : MI := (yX5_load, cX5_load, 1, (some .int), 6, 143, 0, 0, none)
theorem mv_dl_load : MV mi_dl_load 0 ∧ Cond.instanceMethod mi_dl_load.1 ∈ UW ∧ Cond.selects mi_dl_load.1.cls mi_dl_load.1 mi_dl_load.1 ∈ UW := ⟨⟨uw_t 304 (by decide +kernel) rfl, uw_t 1 (by decide +kernel) rfl, by decide +kernel, by decide +kernel⟩, uw_t 302 (by decide +kernel) rfl, uw_t 303 (by decide +kernel) rfl⟩
abbrev mi_dl_faultKind : MI := (yX5_faultKind, cX5_faultKind, 1, (some .int), 0, 0, 0, 0, none)
theorem mv_dl_faultKind : MV mi_dl_faultKind 0 ∧ Cond.instanceMethod mi_dl_faultKind.1 ∈ UW ∧ Cond.selects mi_dl_faultKind.1.cls mi_dl_faultKind.1 mi_dl_faultKind.1 ∈ UW := ⟨⟨uw_t 388 (by decide +kernel) rfl, uw_t 1 (by decide +kernel) rfl, by decide +kernel, by decide +kernel⟩, uw_t 386 (by decide +kernel) rfl, uw_t 387 (by decide +kernel) rfl⟩
abbrev mi_dl_addPoint : MI := (yX5_addPoint, cX5_addPoint, 2, (some .int), 5, 143, 0, 0, none)
theorem mv_dl_addPoint : MV mi_dl_addPoint 1 ∧ Cond.instanceMethod mi_dl_addPoint.1 ∈ UW ∧ Cond.selects mi_dl_addPoint.1.cls mi_dl_addPoint.1 mi_dl_addPoint.1 ∈ UW := ⟨⟨uw_t 392 (by decide +kernel) rfl, uw_t 1 (by decide +kernel) rfl, by decide +kernel, by decide +kernel⟩, uw_t 390 (by decide +kernel) rfl, uw_t 391 (by decide +kernel) rfl⟩
abbrev mi_dl_movePoint : MI := (yX5_movePoint, cX5_movePoint, 3, (some .int), 5, 143, 0, 0, none)
theorem mv_dl_movePoint : MV mi_dl_movePoint 2 ∧ Cond.instanceMethod mi_dl_movePoint.1 ∈ UW ∧ Cond.selects mi_dl_movePoint.1.cls mi_dl_movePoint.1 mi_dl_movePoint.1 ∈ UW := ⟨⟨uw_t 423 (by decide +kernel) rfl, uw_t 1 (by decide +kernel) rfl, by decide +kernel, by decide +kernel⟩, uw_t 421 (by decide +kernel) rfl, uw_t 422 (by decide +kernel) rfl⟩
abbrev mi_dl_dropPoint : MI := (yX5_dropPoint, cX5_dropPoint, 2, (some .int), 5, 143, 0, 0, none)
theorem mv_dl_dropPoint : MV mi_dl_dropPoint 1 ∧ Cond.instanceMethod mi_dl_dropPoint.1 ∈ UW ∧ Cond.selects mi_dl_dropPoint.1.cls mi_dl_dropPoint.1 mi_dl_dropPoint.1 ∈ UW := ⟨⟨uw_t 429 (by decide +kernel) rfl, uw_t 1 (by decide +kernel) rfl, by decide +kernel, by decide +kernel⟩, uw_t 427 (by decide +kernel) rfl, uw_t 428 (by decide +kernel) rfl⟩
abbrev mi_dl_areTwoPoints : MI := (yX5_areTwoPoints, cX5_areTwoPoints, 3, (some .boolean), 1, 21, 0, 0, none)
theorem mv_dl_areTwoPoints : MV mi_dl_areTwoPoints 2 ∧ Cond.instanceMethod mi_dl_areTwoPoints.1 ∈ UW ∧ Cond.selects mi_dl_areTwoPoints.1.cls mi_dl_areTwoPoints.1 mi_dl_areTwoPoints.1 ∈ UW := ⟨⟨uw_t 452 (by decide +kernel) rfl, uw_t 1 (by decide +kernel) rfl, by decide +kernel, by decide +kernel⟩, uw_t 451 (by decide +kernel) rfl, uw_s (q := (mi_dl_areTwoPoints.1, 8)) 13 (by decide +kernel)⟩
abbrev mi_dl_add : MI := (yX5_add, cX5_add, 3, (some .int), 5, 143, 0, 0, none)
theorem mv_dl_add : MV mi_dl_add 2 ∧ Cond.instanceMethod mi_dl_add.1 ∈ UW ∧ Cond.selects mi_dl_add.1.cls mi_dl_add.1 mi_dl_add.1 ∈ UW := ⟨⟨uw_t 448 (by decide +kernel) rfl, uw_t 1 (by decide +kernel) rfl, by decide +kernel, by decide +kernel⟩, uw_t 446 (by decide +kernel) rfl, uw_t 447 (by decide +kernel) rfl⟩
abbrev mi_dl_drop : MI := (yX5_drop, cX5_drop, 2, (some .int), 5, 143, 0, 0, none)
theorem mv_dl_drop : MV mi_dl_drop 1 ∧ Cond.instanceMethod mi_dl_drop.1 ∈ UW ∧ Cond.selects mi_dl_drop.1.cls mi_dl_drop.1 mi_dl_drop.1 ∈ UW := ⟨⟨uw_t 459 (by decide +kernel) rfl, uw_t 1 (by decide +kernel) rfl, by decide +kernel, by decide +kernel⟩, uw_t 457 (by decide +kernel) rfl, uw_t 458 (by decide +kernel) rfl⟩
abbrev mi_dl_setTolerance : MI := (yX5_setTolerance, cX5_setTolerance, 5, (some .int), 5, 143, 0, 0, none)
theorem mv_dl_setTolerance : MV mi_dl_setTolerance 3 ∧ Cond.instanceMethod mi_dl_setTolerance.1 ∈ UW ∧ Cond.selects mi_dl_setTolerance.1.cls mi_dl_setTolerance.1 mi_dl_setTolerance.1 ∈ UW := ⟨⟨uw_t 471 (by decide +kernel) rfl, uw_t 1 (by decide +kernel) rfl, by decide +kernel, by decide +kernel⟩, uw_t 469 (by decide +kernel) rfl, uw_t 470 (by decide +kernel) rfl⟩
abbrev mi_dl_setChain : MI := (yX5_setChain, cX5_setChain, 4, (some .int), 5, 143, 0, 0, none)
theorem mv_dl_setChain : MV mi_dl_setChain 2 ∧ Cond.instanceMethod mi_dl_setChain.1 ∈ UW ∧ Cond.selects mi_dl_setChain.1.cls mi_dl_setChain.1 mi_dl_setChain.1 ∈ UW := ⟨⟨uw_t 475 (by decide +kernel) rfl, uw_t 1 (by decide +kernel) rfl, by decide +kernel, by decide +kernel⟩, uw_t 473 (by decide +kernel) rfl, uw_t 474 (by decide +kernel) rfl⟩
abbrev mi_dl_setLeast : MI := (yX5_setLeast, cX5_setLeast, 4, (some .int), 5, 143, 0, 0, none)
theorem mv_dl_setLeast : MV mi_dl_setLeast 2 ∧ Cond.instanceMethod mi_dl_setLeast.1 ∈ UW ∧ Cond.selects mi_dl_setLeast.1.cls mi_dl_setLeast.1 mi_dl_setLeast.1 ∈ UW := ⟨⟨uw_t 479 (by decide +kernel) rfl, uw_t 1 (by decide +kernel) rfl, by decide +kernel, by decide +kernel⟩, uw_t 477 (by decide +kernel) rfl, uw_t 478 (by decide +kernel) rfl⟩
abbrev mi_dl_setLetter : MI := (yX5_setLetter, cX5_setLetter, 3, (some .int), 5, 143, 0, 0, none)
theorem mv_dl_setLetter : MV mi_dl_setLetter 1 ∧ Cond.instanceMethod mi_dl_setLetter.1 ∈ UW ∧ Cond.selects mi_dl_setLetter.1.cls mi_dl_setLetter.1 mi_dl_setLetter.1 ∈ UW := ⟨⟨uw_t 483 (by decide +kernel) rfl, uw_t 1 (by decide +kernel) rfl, by decide +kernel, by decide +kernel⟩, uw_t 481 (by decide +kernel) rfl, uw_t 482 (by decide +kernel) rfl⟩
abbrev mi_dl_setArrow : MI := (yX5_setArrow, cX5_setArrow, 3, (some .int), 5, 143, 0, 0, none)
theorem mv_dl_setArrow : MV mi_dl_setArrow 1 ∧ Cond.instanceMethod mi_dl_setArrow.1 ∈ UW ∧ Cond.selects mi_dl_setArrow.1.cls mi_dl_setArrow.1 mi_dl_setArrow.1 ∈ UW := ⟨⟨uw_t 487 (by decide +kernel) rfl, uw_t 1 (by decide +kernel) rfl, by decide +kernel, by decide +kernel⟩, uw_t 485 (by decide +kernel) rfl, uw_t 486 (by decide +kernel) rfl⟩
abbrev mi_dl_laidLanes : MI := (yX5_laidLanes, cX5_laidLanes, 1, (some (.object "DimensionLines$Lanes"), 4, 96, 0, 0, none)
theorem mv_dl_laidLanes : MV mi_dl_laidLanes 0 ∧ Cond.instanceMethod mi_dl_laidLanes.1 ∈ UW ∧ Cond.selects mi_dl_laidLanes.1.cls mi_dl_laidLanes.1 mi_dl_laidLanes.1 ∈ UW := ⟨⟨uw_t 495 (by decide +kernel) rfl, uw_t 1 (by decide +kernel) rfl, by decide +kernel, by decide +kernel⟩, uw_t 494 (by decide +kernel) rfl, uw_s (q := (mi_dl_laidLanes.1, 8)) 14 (by decide +kernel)⟩
abbrev mi_dl_knownBounds : MI := (yX5_knownBounds, cX5_knownBounds, 1, (some (.object "DimensionLines$Bounds"), 4, 96, 0, 0, none)
theorem mv_dl_knownBounds : MV mi_dl_knownBounds 0 ∧ Cond.instanceMethod mi_dl_knownBounds.1 ∈ UW ∧ Cond.selects mi_dl_knownBounds.1.cls mi_dl_knownBounds.1 mi_dl_knownBounds.1 ∈ UW := ⟨⟨uw_t 555 (by decide +kernel) rfl, uw_t 1 (by decide +kernel) rfl, by decide +kernel, by decide +kernel⟩, uw_t 554 (by decide +kernel) rfl, uw_s (q := (mi_dl_knownBounds.1, 8)) 23 (by decide +kernel)⟩
abbrev mi_dl_point : MI := (yX5_point, cX5_point, 3, (some .int), 5, 116, 0, 0, none)
theorem mv_dl_point : MV mi_dl_point 2 ∧ Cond.instanceMethod mi_dl_point.1 ∈ UW ∧ Cond.selects mi_dl_point.1.cls mi_dl_point.1 mi_dl_point.1 ∈ UW := ⟨⟨uw_t 491 (by decide +kernel) rfl, uw_t 1 (by decide +kernel) rfl, by decide +kernel, by decide +kernel⟩, uw_t 489 (by decide +kernel) rfl, uw_t 490 (by decide +kernel) rfl⟩
abbrev mi_dl_dimension : MI := (yX5_dimension, cX5_dimension, 3, (some .int), 5, 116, 0, 0, none)
theorem mv_dl_dimension : MV mi_dl_dimension 2 ∧ Cond.instanceMethod mi_dl_dimension.1 ∈ UW ∧ Cond.selects mi_dl_dimension.1.cls mi_dl_dimension.1 mi_dl_dimension.1 ∈ UW := ⟨⟨uw_t 590 (by decide +kernel) rfl, uw_t 1 (by decide +kernel) rfl, by decide +kernel, by decide +kernel⟩, uw_t 588 (by decide +kernel) rfl, uw_t 589 (by decide +kernel) rfl⟩
abbrev mi_dl_at : MI := (yX5_at, cX5_at, 5, (some .int), 5, 116, 0, 0, none)
theorem mv_dl_at : MV mi_dl_at 2 ∧ Cond.instanceMethod mi_dl_at.1 ∈ UW ∧ Cond.selects mi_dl_at.1.cls mi_dl_at.1 mi_dl_at.1 ∈ UW := ⟨⟨uw_t 595 (by decide +kernel) rfl, uw_t 1 (by decide +kernel) rfl, by decide +kernel, by decide +kernel⟩, uw_t 593 (by decide +kernel) rfl, uw_t 594 (by decide +kernel) rfl⟩
abbrev mi_dl_distance : MI := (yX5_distance, cX5_distance, 5, (some .int), 5, 116, 0, 0, none)
theorem mv_dl_distance : MV mi_dl_distance 3 ∧ Cond.instanceMethod mi_dl_distance.1 ∈ UW ∧ Cond.selects mi_dl_distance.1.cls mi_dl_distance.1 mi_dl_distance.1 ∈ UW := ⟨⟨uw_t 599 (by decide +kernel) rfl, uw_t 1 (by decide +kernel) rfl, by decide +kernel, by decide +kernel⟩, uw_t 597 (by decide +kernel) rfl, uw_t 598 (by decide +kernel) rfl⟩
abbrev mi_dl_ifExact : MI := (yX5_ifExact, cX5_ifExact, 5, (some .int), 5, 116, 0, 0, none)
theorem mv_dl_ifExact : MV mi_dl_ifExact 3 ∧ Cond.instanceMethod mi_dl_ifExact.1 ∈ UW ∧ Cond.selects mi_dl_ifExact.1.cls mi_dl_ifExact.1 mi_dl_ifExact.1 ∈ UW := ⟨⟨uw_t 604 (by decide +kernel) rfl, uw_t 1 (by decide +kernel) rfl, by decide +kernel, by decide +kernel⟩, uw_t 602 (by decide +kernel) rfl, uw_t 603 (by decide +kernel) rfl⟩
abbrev mi_dl_critical : MI := (yX5_critical, cX5_critical, 4, (some .int), 5, 116, 0, 0, none)
theorem mv_dl_critical : MV mi_dl_critical 2 ∧ Cond.instanceMethod mi_dl_critical.1 ∈ UW ∧ Cond.selects mi_dl_critical.1.cls mi_dl_critical.1 mi_dl_critical.1 ∈ UW := ⟨⟨uw_t 617 (by decide +kernel) rfl, uw_t 1 (by decide +kernel) rfl, by decide +kernel, by decide +kernel⟩, uw_t 615 (by decide +kernel) rfl, uw_t 616 (by decide +kernel) rfl⟩
abbrev mi_dl_needed : MI := (yX5_needed, cX5_needed, 1, (some .int), 5, 116, 0, 0, none)
theorem mv_dl_needed : MV mi_dl_needed 0 ∧ Cond.instanceMethod mi_dl_needed.1 ∈ UW ∧ Cond.selects mi_dl_needed.1.cls mi_dl_needed.1 mi_dl_needed.1 ∈ UW := ⟨⟨uw_t 626 (by decide +kernel) rfl, uw_t 1 (by decide +kernel) rfl, by decide +kernel, by decide +kernel⟩, uw_t 624 (by decide +kernel) rfl, uw_t 625 (by decide +kernel) rfl⟩
abbrev mi_dl_chain : MI := (yX5_chain, cX5_chain, 4, (some .int), 5, 116, 0, 0, none)
theorem mv_dl_chain : MV mi_dl_chain 2 ∧ Cond.instanceMethod mi_dl_chain.1 ∈ UW ∧ Cond.selects mi_dl_chain.1.cls mi_dl_chain.1 mi_dl_chain.1 ∈ UW := ⟨⟨uw_t 634 (by decide +kernel) rfl, uw_t 1 (by decide +kernel) rfl, by decide +kernel, by decide +kernel⟩, uw_t 632 (by decide +kernel) rfl, uw_t 633 (by decide +kernel) rfl⟩
abbrev mi_dl_ifArrow : MI := (yX5_ifArrow, cX5_ifArrow, 2, (some .int), 4, 96, 0, 0, none)
theorem mv_dl_ifArrow : MV mi_dl_ifArrow 1 ∧ Cond.instanceMethod mi_dl_ifArrow.1 ∈ UW ∧ Cond.selects mi_dl_ifArrow.1.cls mi_dl_ifArrow.1 mi_dl_ifArrow.1 ∈ UW := ⟨⟨uw_t 678 (by decide +kernel) rfl, uw_t 1 (by decide +kernel) rfl, by decide +kernel, by decide +kernel⟩, uw_t 676 (by decide +kernel) rfl, uw_t 677 (by decide +kernel) rfl⟩
abbrev mi_dl_undo : MI := (yX5_undo, cX5_undo, 1, (some .int), 4, 123, 0, 0, none)
theorem mv_dl_undo : MV mi_dl_undo 0 ∧ Cond.instanceMethod mi_dl_undo.1 ∈ UW ∧ Cond.selects mi_dl_undo.1.cls mi_dl_undo.1 mi_dl_undo.1 ∈ UW := ⟨⟨uw_t 682 (by decide +kernel) rfl, uw_t 1 (by decide +kernel) rfl, by decide +kernel, by decide +kernel⟩, uw_t 680 (by decide +kernel) rfl, uw_t 681 (by decide +kernel) rfl⟩
abbrev mi_dl_count : MI := (yX5_count, cX5_count, 2, (some .int), 5, 116, 0, 0, none)
theorem mv_dl_count : MV mi_dl_count 1 ∧ Cond.instanceMethod mi_dl_count.1 ∈ UW ∧ Cond.selects mi_dl_count.1.cls mi_dl_count.1 mi_dl_count.1 ∈ UW := ⟨⟨uw_t 690 (by decide +kernel) rfl, uw_t 1 (by decide +kernel) rfl, by decide +kernel, by decide +kernel⟩, uw_t 688 (by decide +kernel) rfl, uw_t 689 (by decide +kernel) rfl⟩
abbrev mi_dl_hashOfPairs : MI := (yX5_hashOfPairs, cX5_hashOfPairs, 7, (some .long), 6, 140, 0, 0, none)
theorem mv_dl_hashOfPairs : MV mi_dl_hashOfPairs 1 ∧ Cond.instanceMethod mi_dl_hashOfPairs.1 ∈ UW ∧ Cond.selects mi_dl_hashOfPairs.1.cls mi_dl_hashOfPairs.1 mi_dl_hashOfPairs.1 ∈ UW := ⟨⟨uw_t 703 (by decide +kernel) rfl, uw_t 1 (by decide +kernel) rfl, by decide +kernel, by decide +kernel⟩, uw_t 702 (by decide +kernel) rfl, uw_s (q := (mi_dl_hashOfPairs.1, 8)) 31 (by decide +kernel)⟩
abbrev mi_dl_digest : MI := (yX5_digest, cX5_digest, 5, (some .long), 7, 166, 0, 0, none)
theorem mv_dl_digest : MV mi_dl_digest 0 ∧ Cond.instanceMethod mi_dl_digest.1 ∈ UW ∧ Cond.selects mi_dl_digest.1.cls mi_dl_digest.1 mi_dl_digest.1 ∈ UW := ⟨⟨uw_t 694 (by decide +kernel) rfl, uw_t 1 (by decide +kernel) rfl, by decide +kernel, by decide +kernel⟩, uw_t 692 (by decide +kernel) rfl, uw_t 693 (by decide +kernel) rfl⟩
abbrev mi_mo_in : MI := (yX6_in, cX6_in, 3, (some .boolean), 0, 0, 0, 0, none)
theorem mv_mo_in : MV mi_mo_in 3 ∧ Cond.static mi_mo_in.1 ∈ UW := ⟨⟨uw_t 777 (by decide +kernel) rfl, uw_t 7 (by decide +kernel) rfl, by decide +kernel, by decide +kernel⟩, uw_t 776 (by decide +kernel) rfl⟩
abbrev mi_mo_copies : MI := (yX6_copies, cX6_copies, 4, none, 0, 0, 0, 0, none)
theorem mv_mo_copies : MV mi_mo_copies 2 ∧ Cond.instanceMethod mi_mo_copies.1 ∈ UW ∧ Cond.selects mi_mo_copies.1.cls mi_mo_copies.1 mi_mo_copies.1 ∈ UW := ⟨⟨uw_t 770 (by decide +kernel) rfl, uw_t 7 (by decide +kernel) rfl, by decide +kernel, by decide +kernel⟩, uw_t 769 (by decide +kernel) rfl, uw_s (q := (mi_mo_copies.1, 16)) 32 (by decide +kernel)⟩
abbrev mi_mo_records : MI := (yX6_records, cX6_records, 2, none, 1, 23, 0, 0, none)
theorem mv_mo_records : MV mi_mo_records 0 ∧ Cond.instanceMethod mi_mo_records.1 ∈ UW ∧ Cond.selects mi_mo_records.1.cls mi_mo_records.1 mi_mo_records.1 ∈ UW := ⟨⟨uw_t 789 (by decide +kernel) rfl, uw_t 7 (by decide +kernel) rfl, by decide +kernel, by decide +kernel⟩, uw_t 788 (by decide +kernel) rfl, uw_s (q := (mi_mo_records.1, 16)) 35 (by decide +kernel)⟩
abbrev mi_mo_undo : MI := (yX6_undo, cX6_undo, 1, (some .int), 1, 23, 0, 0, none)
theorem mv_mo_undo : MV mi_mo_undo 0 ∧ Cond.instanceMethod mi_mo_undo.1 ∈ UW ∧ Cond.selects mi_mo_undo.1.cls mi_mo_undo.1 mi_mo_undo.1 ∈ UW := ⟨⟨uw_t 766 (by decide +kernel) rfl, uw_t 7 (by decide +kernel) rfl, by decide +kernel, by decide +kernel⟩, uw_t 764 (by decide +kernel) rfl, uw_t 765 (by decide +kernel) rfl⟩
abbrev mi_mo_isPoint : MI := (yX6_isPoint, cX6_isPoint, 2, (some .boolean), 1, 22, 0, 0, none)
theorem mv_mo_isPoint : MV mi_mo_isPoint 1 ∧ Cond.instanceMethod mi_mo_isPoint.1 ∈ UW ∧ Cond.selects mi_mo_isPoint.1.cls mi_mo_isPoint.1 mi_mo_isPoint.1 ∈ UW := ⟨⟨uw_t 809 (by decide +kernel) rfl, uw_t 7 (by decide +kernel) rfl, by decide +kernel, by decide +kernel⟩, uw_t 808 (by decide +kernel) rfl, uw_s (q := (mi_mo_isPoint.1, 16)) 39 (by decide +kernel)⟩
abbrev mi_mo_isDimension : MI := (yX6_isDimension, cX6_isDimension, 2, (some .boolean), 1, 22, 0, 0, none)
theorem mv_mo_isDimension : MV mi_mo_isDimension 1 ∧ Cond.instanceMethod mi_mo_isDimension.1 ∈ UW ∧ Cond.selects mi_mo_isDimension.1.cls mi_mo_isDimension.1 mi_mo_isDimension.1 ∈ UW := ⟨⟨uw_t 837 (by decide +kernel) rfl, uw_t 7 (by decide +kernel) rfl, by decide +kernel, by decide +kernel⟩, uw_t 836 (by decide +kernel) rfl, uw_s (q := (mi_mo_isDimension.1, 16)) 43 (by decide +kernel)⟩
abbrev mi_mo_of : MI := (yX6_of, cX6_of, 3, (some .int), 0, 0, 0, 0, none)
theorem mv_mo_of : MV mi_mo_of 2 ∧ Cond.instanceMethod mi_mo_of.1 ∈ UW ∧ Cond.selects mi_mo_of.1.cls mi_mo_of.1 mi_mo_of.1 ∈ UW := ⟨⟨uw_t 797 (by decide +kernel) rfl, uw_t 7 (by decide +kernel) rfl, by decide +kernel, by decide +kernel⟩, uw_t 796 (by decide +kernel) rfl, uw_s (q := (mi_mo_of.1, 16)) 37 (by decide +kernel)⟩
abbrev mi_mo_sets : MI := (yX6_sets, cX6_sets, 4, none, 0, 0, 0, 0, none)
theorem mv_mo_sets : MV mi_mo_sets 3 ∧ Cond.instanceMethod mi_mo_sets.1 ∈ UW ∧ Cond.selects mi_mo_sets.1.cls mi_mo_sets.1 mi_mo_sets.1 ∈ UW := ⟨⟨uw_t 801 (by decide +kernel) rfl, uw_t 7 (by decide +kernel) rfl, by decide +kernel, by decide +kernel⟩, uw_t 800 (by decide +kernel) rfl, uw_s (q := (mi_mo_sets.1, 16)) 38 (by decide +kernel)⟩
abbrev mi_mo_position : MI := (yX6_position, cX6_position, 2, (some .int), 0, 0, 0, 0, none)
theorem mv_mo_position : MV mi_mo_position 1 ∧ Cond.instanceMethod mi_mo_position.1 ∈ UW ∧ Cond.selects mi_mo_position.1.cls mi_mo_position.1 mi_mo_position.1 ∈ UW := ⟨⟨uw_t 785 (by decide +kernel) rfl, uw_t 7 (by decide +kernel) rfl, by decide +kernel, by decide +kernel⟩, uw_t 784 (by decide +kernel) rfl, uw_s (q := (mi_mo_position.1, 16)) 34 (by decide +kernel)⟩
abbrev mi_mo_from : MI := (yX6_from, cX6_from, 2, (some .int), 1, 22, 0, 0, none)
theorem mv_mo_from : MV mi_mo_from 1 ∧ Cond.instanceMethod mi_mo_from.1 ∈ UW ∧ Cond.selects mi_mo_from.1.cls mi_mo_from.1 mi_mo_from.1 ∈ UW := ⟨⟨uw_t 938 (by decide +kernel) rfl, uw_t 7 (by decide +kernel) rfl, by decide +kernel, by decide +kernel⟩, uw_t 937 (by decide +kernel) rfl, uw_s (q := (mi_mo_from.1, 16)) 58 (by decide +kernel)⟩
abbrev mi_mo_to : MI := (yX6_to, cX6_to, 2, (some .int), 1, 22, 0, 0, none)
theorem mv_mo_to : MV mi_mo_to 1 ∧ Cond.instanceMethod mi_mo_to.1 ∈ UW ∧ Cond.selects mi_mo_to.1.cls mi_mo_to.1 mi_mo_to.1 ∈ UW := ⟨⟨uw_t 934 (by decide +kernel) rfl, uw_t 7 (by decide +kernel) rfl, by decide +kernel, by decide +kernel⟩, uw_t 933 (by decide +kernel) rfl, uw_s (q := (mi_mo_to.1, 16)) 57 (by decide +kernel)⟩
abbrev mi_mo_value : MI := (yX6_value, cX6_value, 2, (some .int), 2, 43, 0, 0, none)
theorem mv_mo_value : MV mi_mo_value 1 ∧ Cond.instanceMethod mi_mo_value.1 ∈ UW ∧ Cond.selects mi_mo_value.1.cls mi_mo_value.1 mi_mo_value.1 ∈ UW := ⟨⟨uw_t 930 (by decide +kernel) rfl, uw_t 7 (by decide +kernel) rfl, by decide +kernel, by decide +kernel⟩, uw_t 929 (by decide +kernel) rfl, uw_s (q := (mi_mo_value.1, 16)) 56 (by decide +kernel)⟩
abbrev mi_mo_pointWith : MI := (yX6_pointWith, cX6_pointWith, 3, (some .int), 1, 21, 0, 0, none)
theorem mv_mo_pointWith : MV mi_mo_pointWith 1 ∧ Cond.instanceMethod mi_mo_pointWith.1 ∈ UW ∧ Cond.selects mi_mo_pointWith.1.cls mi_mo_pointWith.1 mi_mo_pointWith.1 ∈ UW := ⟨⟨uw_t 781 (by decide +kernel) rfl, uw_t 7 (by decide +kernel) rfl, by decide +kernel, by decide +kernel⟩, uw_t 780 (by decide +kernel) rfl, uw_s (q := (mi_mo_pointWith.1, 16)) 33 (by decide +kernel)⟩
abbrev mi_mo_comes : MI := (yX6_comes, cX6_comes, 5, (some .int), 1, 23, 0, 0, none)
theorem mv_mo_comes : MV mi_mo_comes 1 ∧ Cond.instanceMethod mi_mo_comes.1 ∈ UW ∧ Cond.selects mi_mo_comes.1.cls mi_mo_comes.1 mi_mo_comes.1 ∈ UW := ⟨⟨uw_t 793 (by decide +kernel) rfl, uw_t 7 (by decide +kernel) rfl, by decide +kernel, by decide +kernel⟩, uw_t 792 (by decide +kernel) rfl, uw_s (q := (mi_mo_comes.1, 16)) 36 (by decide +kernel)⟩
abbrev mi_mo_addPoint : MI := (yX6_addPoint, cX6_addPoint, 2, (some .int), 2, 47, 0, 0, none)
theorem mv_mo_addPoint : MV mi_mo_addPoint 1 ∧ Cond.instanceMethod mi_mo_addPoint.1 ∈ UW ∧ Cond.selects mi_mo_addPoint.1.cls mi_mo_addPoint.1 mi_mo_addPoint.1 ∈ UW := ⟨⟨uw_t 774 (by decide +kernel) rfl, uw_t 7 (by decide +kernel) rfl, by decide +kernel, by decide +kernel⟩, uw_t 772 (by decide +kernel) rfl, uw_t 773 (by decide +kernel) rfl⟩
abbrev mi_mo_goes : MI := (yX6_goes, cX6_goes, 4, none, 1, 23, 0, 0, none)
theorem mv_mo_goes : MV mi_mo_goes 1 ∧ Cond.instanceMethod mi_mo_goes.1 ∈ UW ∧ Cond.selects mi_mo_goes.1.cls mi_mo_goes.1 mi_mo_goes.1 ∈ UW := ⟨⟨uw_t 813 (by decide +kernel) rfl, uw_t 7 (by decide +kernel) rfl, by decide +kernel, by decide +kernel⟩, uw_t 812 (by decide +kernel) rfl, uw_s (q := (mi_mo_goes.1, 16)) 40 (by decide +kernel)⟩
abbrev mi_mo_movePoint : MI := (yX6_movePoint, cX6_movePoint, 8, (some .int), 2, 47, 0, 0, none)
theorem mv_mo_movePoint : MV mi_mo_movePoint 2 ∧ Cond.instanceMethod mi_mo_movePoint.1 ∈ UW ∧ Cond.selects mi_mo_movePoint.1.cls mi_mo_movePoint.1 mi_mo_movePoint.1 ∈ UW := ⟨⟨uw_t 805 (by decide +kernel) rfl, uw_t 7 (by decide +kernel) rfl, by decide +kernel, by decide +kernel⟩, uw_t 803 (by decide +kernel) rfl, uw_t 804 (by decide +kernel) rfl⟩
abbrev mi_mo_ends : MI := (yX6_ends, cX6_ends, 4, (some .int), 1, 22, 0, 0, none)
theorem mv_mo_ends : MV mi_mo_ends 1 ∧ Cond.instanceMethod mi_mo_ends.1 ∈ UW ∧ Cond.selects mi_mo_ends.1.cls mi_mo_ends.1 mi_mo_ends.1 ∈ UW := ⟨⟨uw_t 821 (by decide +kernel) rfl, uw_t 7 (by decide +kernel) rfl, by decide +kernel, by decide +kernel⟩, uw_t 820 (by decide +kernel) rfl, uw_s (q := (mi_mo_ends.1, 16)) 41 (by decide +kernel)⟩
abbrev mi_mo_dropPoint : MI := (yX6_dropPoint, cX6_dropPoint, 2, (some .int), 2, 46, 0, 0, none)
theorem mv_mo_dropPoint : MV mi_mo_dropPoint 1 ∧ Cond.instanceMethod mi_mo_dropPoint.1 ∈ UW ∧ Cond.selects mi_mo_dropPoint.1.cls mi_mo_dropPoint.1 mi_mo_dropPoint.1 ∈ UW := ⟨⟨uw_t 817 (by decide +kernel) rfl, uw_t 7 (by decide +kernel) rfl, by decide +kernel, by decide +kernel⟩, uw_t 815 (by decide +kernel) rfl, uw_t 816 (by decide +kernel) rfl⟩
abbrev mi_mo_lays : MI := (yX6_lays, cX6_lays, 7, none, 1, 23, 0, 0, none)
theorem mv_mo_lays : MV mi_mo_lays 5 ∧ Cond.instanceMethod mi_mo_lays.1 ∈ UW ∧ Cond.selects mi_mo_lays.1.cls mi_mo_lays.1 mi_mo_lays.1 ∈ UW := ⟨⟨uw_t 829 (by decide +kernel) rfl, uw_t 7 (by decide +kernel) rfl, by decide +kernel, by decide +kernel⟩, uw_t 828 (by decide +kernel) rfl, uw_s (q := (mi_mo_lays.1, 16)) 42 (by decide +kernel)⟩
abbrev mi_mo_add : MI := (yX6_add, cX6_add, 3, (some .int), 2, 49, 0, 0, none)
theorem mv_mo_add : MV mi_mo_add 2 ∧ Cond.instanceMethod mi_mo_add.1 ∈ UW ∧ Cond.selects mi_mo_add.1.cls mi_mo_add.1 mi_mo_add.1 ∈ UW := ⟨⟨uw_t 825 (by decide +kernel) rfl, uw_t 7 (by decide +kernel) rfl, by decide +kernel, by decide +kernel⟩, uw_t 823 (by decide +kernel) rfl, uw_t 824 (by decide +kernel) rfl⟩
abbrev mi_mo_drop : MI := (yX6_drop, cX6_drop, 3, (some .int), 2, 44, 0, 0, none)
theorem mv_mo_drop : MV mi_mo_drop 1 ∧ Cond.instanceMethod mi_mo_drop.1 ∈ UW ∧ Cond.selects mi_mo_drop.1.cls mi_mo_drop.1 mi_mo_drop.1 ∈ UW := ⟨⟨uw_t 833 (by decide +kernel) rfl, uw_t 7 (by decide +kernel) rfl, by decide +kernel, by decide +kernel⟩, uw_t 831 (by decide +kernel) rfl, uw_t 832 (by decide +kernel) rfl⟩
abbrev mi_mo_setTolerance : MI := (yX6_setTolerance, cX6_setTolerance, 5, (some .int), 2, 44, 0, 0, none)
theorem mv_mo_setTolerance : MV mi_mo_setTolerance 3 ∧ Cond.instanceMethod mi_mo_setTolerance.1 ∈ UW ∧ Cond.selects mi_mo_setTolerance.1.cls mi_mo_setTolerance.1 mi_mo_setTolerance.1 ∈ UW := ⟨⟨uw_t 841 (by decide +kernel) rfl, uw_t 7 (by decide +kernel) rfl, by decide +kernel, by decide +kernel⟩, uw_t 839 (by decide +kernel) rfl, uw_t 840 (by decide +kernel) rfl⟩
abbrev mi_mo_becomes : MI := (yX6_becomes, cX6_becomes, 5, (some .int), 2, 44, 0, 0, none)
theorem mv_mo_becomes : MV mi_mo_becomes 3 ∧ Cond.instanceMethod mi_mo_becomes.1 ∈ UW ∧ Cond.selects mi_mo_becomes.1.cls mi_mo_becomes.1 mi_mo_becomes.1 ∈ UW := ⟨⟨uw_t 849 (by decide +kernel) rfl, uw_t 7 (by decide +kernel) rfl, by decide +kernel, by decide +kernel⟩, uw_t 848 (by decide +kernel) rfl, uw_s (q := (mi_mo_becomes.1, 16)) 44 (by decide +kernel)⟩
abbrev mi_mo_setChain : MI := (yX6_setChain, cX6_setChain, 3, (some .int), 3, 68, 0, 0, none)
theorem mv_mo_setChain : MV mi_mo_setChain 2 ∧ Cond.instanceMethod mi_mo_setChain.1 ∈ UW ∧ Cond.selects mi_mo_setChain.1.cls mi_mo_setChain.1 mi_mo_setChain.1 ∈ UW := ⟨⟨uw_t 845 (by decide +kernel) rfl, uw_t 7 (by decide +kernel) rfl, by decide +kernel, by decide +kernel⟩, uw_t 843 (by decide +kernel) rfl, uw_t 844 (by decide +kernel) rfl⟩
abbrev mi_mo_setLeast : MI := (yX6_setLeast, cX6_setLeast, 3, (some .int), 3, 68, 0, 0, none)
theorem mv_mo_setLeast : MV mi_mo_setLeast 2 ∧ Cond.instanceMethod mi_mo_setLeast.1 ∈ UW ∧ Cond.selects mi_mo_setLeast.1.cls mi_mo_setLeast.1 mi_mo_setLeast.1 ∈ UW := ⟨⟨uw_t 853 (by decide +kernel) rfl, uw_t 7 (by decide +kernel) rfl, by decide +kernel, by decide +kernel⟩, uw_t 851 (by decide +kernel) rfl, uw_t 852 (by decide +kernel) rfl⟩
abbrev mi_mo_setting : MI := (yX6_setting, cX6_setting, 4, (some .int), 2, 44, 0, 0, none)
theorem mv_mo_setting : MV mi_mo_setting 2 ∧ Cond.instanceMethod mi_mo_setting.1 ∈ UW ∧ Cond.selects mi_mo_setting.1.cls mi_mo_setting.1 mi_mo_setting.1 ∈ UW := ⟨⟨uw_t 861 (by decide +kernel) rfl, uw_t 7 (by decide +kernel) rfl, by decide +kernel, by decide +kernel⟩, uw_t 860 (by decide +kernel) rfl, uw_s (q := (mi_mo_setting.1, 16)) 45 (by decide +kernel)⟩
abbrev mi_mo_setLetter : MI := (yX6_setLetter, cX6_setLetter, 2, (some .int), 3, 67, 0, 0, none)
theorem mv_mo_setLetter : MV mi_mo_setLetter 1 ∧ Cond.instanceMethod mi_mo_setLetter.1 ∈ UW ∧ Cond.selects mi_mo_setLetter.1.cls mi_mo_setLetter.1 mi_mo_setLetter.1 ∈ UW := ⟨⟨uw_t 857 (by decide +kernel) rfl, uw_t 7 (by decide +kernel) rfl, by decide +kernel, by decide +kernel⟩, uw_t 855 (by decide +kernel) rfl, uw_t 856 (by decide +kernel) rfl⟩
abbrev mi_mo_setArrow : MI := (yX6_setArrow, cX6_setArrow, 2, (some .int), 3, 67, 0, 0, none)
theorem mv_mo_setArrow : MV mi_mo_setArrow 1 ∧ Cond.instanceMethod mi_mo_setArrow.1 ∈ UW ∧ Cond.selects mi_mo_setArrow.1.cls mi_mo_setArrow.1 mi_mo_setArrow.1 ∈ UW := ⟨⟨uw_t 865 (by decide +kernel) rfl, uw_t 7 (by decide +kernel) rfl, by decide +kernel, by decide +kernel⟩, uw_t 863 (by decide +kernel) rfl, uw_t 864 (by decide +kernel) rfl⟩
abbrev mi_mo_type : MI := (yX6_type, cX6_type, 2, (some .int), 1, 22, 0, 0, none)
theorem mv_mo_type : MV mi_mo_type 1 ∧ Cond.instanceMethod mi_mo_type.1 ∈ UW ∧ Cond.selects mi_mo_type.1.cls mi_mo_type.1 mi_mo_type.1 ∈ UW := ⟨⟨uw_t 869 (by decide +kernel) rfl, uw_t 7 (by decide +kernel) rfl, by decide +kernel, by decide +kernel⟩, uw_t 867 (by decide +kernel) rfl, uw_t 868 (by decide +kernel) rfl⟩
abbrev mi_mo_clearText : MI := (yX6_clearText, cX6_clearText, 2, (some .int), 0, 0, 0, 0, none)
theorem mv_mo_clearText : MV mi_mo_clearText 0 ∧ Cond.instanceMethod mi_mo_clearText.1 ∈ UW ∧ Cond.selects mi_mo_clearText.1.cls mi_mo_clearText.1 mi_mo_clearText.1 ∈ UW := ⟨⟨uw_t 873 (by decide +kernel) rfl, uw_t 7 (by decide +kernel) rfl, by decide +kernel, by decide +kernel⟩, uw_t 871 (by decide +kernel) rfl, uw_t 872 (by decide +kernel) rfl⟩
abbrev mi_mo_here : MI := (yX6_here, cX6_here, 1, (some .int), 0, 0, 0, 0, none)
theorem mv_mo_here : MV mi_mo_here 0 ∧ Cond.instanceMethod mi_mo_here.1 ∈ UW ∧ Cond.selects mi_mo_here.1.cls mi_mo_here.1 mi_mo_here.1 ∈ UW := ⟨⟨uw_t 893 (by decide +kernel) rfl, uw_t 7 (by decide +kernel) rfl, by decide +kernel, by decide +kernel⟩, uw_t 892 (by decide +kernel) rfl, uw_s (q := (mi_mo_here.1, 16)) 49 (by decide +kernel)⟩
abbrev mi_mo_isDigit : MI := (yX6_isDigit, cX6_isDigit, 1, (some .boolean), 1, 22, 0, 0, none)
theorem mv_mo_isDigit : MV mi_mo_isDigit 0 ∧ Cond.instanceMethod mi_mo_isDigit.1 ∈ UW ∧ Cond.selects mi_mo_isDigit.1.cls mi_mo_isDigit.1 mi_mo_isDigit.1 ∈ UW := ⟨⟨uw_t 905 (by decide +kernel) rfl, uw_t 7 (by decide +kernel) rfl, by decide +kernel, by decide +kernel⟩, uw_t 904 (by decide +kernel) rfl, uw_s (q := (mi_mo_isDigit.1, 16)) 52 (by decide +kernel)⟩
abbrev mi_mo_fails : MI := (yX6_fails, cX6_fails, 3, (some .boolean), 0, 0, 0, 0, none)
theorem mv_mo_fails : MV mi_mo_fails 2 ∧ Cond.instanceMethod mi_mo_fails.1 ∈ UW ∧ Cond.selects mi_mo_fails.1.cls mi_mo_fails.1 mi_mo_fails.1 ∈ UW := ⟨⟨uw_t 897 (by decide +kernel) rfl, uw_t 7 (by decide +kernel) rfl, by decide +kernel, by decide +kernel⟩, uw_t 896 (by decide +kernel) rfl, uw_s (q := (mi_mo_fails.1, 16)) 50 (by decide +kernel)⟩
abbrev mi_mo_readsNumber : MI := (yX6_readsNumber, cX6_readsNumber, 5, (some .boolean), 2, 42, 0, 0, none)
theorem mv_mo_readsNumber : MV mi_mo_readsNumber 3 ∧ Cond.instanceMethod mi_mo_readsNumber.1 ∈ UW ∧ Cond.selects mi_mo_readsNumber.1.cls mi_mo_readsNumber.1 mi_mo_readsNumber.1 ∈ UW := ⟨⟨uw_t 901 (by decide +kernel) rfl, uw_t 7 (by decide +kernel) rfl, by decide +kernel, by decide +kernel⟩, uw_t 900 (by decide +kernel) rfl, uw_s (q := (mi_mo_readsNumber.1, 16)) 51 (by decide +kernel)⟩
abbrev mi_mo_reads : MI := (yX6_reads, cX6_reads, 2, (some .boolean), 1, 22, 0, 0, none)
theorem mv_mo_reads : MV mi_mo_reads 1 ∧ Cond.instanceMethod mi_mo_reads.1 ∈ UW ∧ Cond.selects mi_mo_reads.1.cls mi_mo_reads.1 mi_mo_reads.1 ∈ UW := ⟨⟨uw_t 889 (by decide +kernel) rfl, uw_t 7 (by decide +kernel) rfl, by decide +kernel, by decide +kernel⟩, uw_t 888 (by decide +kernel) rfl, uw_s (q := (mi_mo_reads.1, 16)) 48 (by decide +kernel)⟩
abbrev mi_mo_readsPositions : MI := (yX6_readsPositions, cX6_readsPositions, 3, (some .boolean), 3, 66, 0, 0, none)
theorem mv_mo_readsPositions : MV mi_mo_readsPositions 0 ∧ Cond.instanceMethod mi_mo_readsPositions.1 ∈ UW ∧ Cond.selects mi_mo_readsPositions.1.cls mi_mo_readsPositions.1 mi_mo_readsPositions.1 ∈ UW := ⟨⟨uw_t 885 (by decide +kernel) rfl, uw_t 7 (by decide +kernel) rfl, by decide +kernel, by decide +kernel⟩, uw_t 884 (by decide +kernel) rfl, uw_s (q := (mi_mo_readsPositions.1, 16)) 47 (by decide +kernel)⟩
abbrev mi_mo_readsBehind : MI := (yX6_readsBehind, cX6_readsBehind, 5, (some .boolean), 3, 66, 0, 0, none)
theorem mv_mo_readsBehind : MV mi_mo_readsBehind 4 ∧ Cond.instanceMethod mi_mo_readsBehind.1 ∈ UW ∧ Cond.selects mi_mo_readsBehind.1.cls mi_mo_readsBehind.1 mi_mo_readsBehind.1 ∈ UW := ⟨⟨uw_t 913 (by decide +kernel) rfl, uw_t 7 (by decide +kernel) rfl, by decide +kernel, by decide +kernel⟩, uw_t 912 (by decide +kernel) rfl, uw_s (q := (mi_mo_readsBehind.1, 16)) 54 (by decide +kernel)⟩
abbrev mi_mo_readsDimension : MI := (yX6_readsDimension, cX6_readsDimension, 5, (some .boolean), 4, 90, 0, 0, none)
theorem mv_mo_readsDimension : MV mi_mo_readsDimension 0 ∧ Cond.instanceMethod mi_mo_readsDimension.1 ∈ UW ∧ Cond.selects mi_mo_readsDimension.1.cls mi_mo_readsDimension.1 mi_mo_readsDimension.1 ∈ UW := ⟨⟨uw_t 909 (by decide +kernel) rfl, uw_t 7 (by decide +kernel) rfl, by decide +kernel, by decide +kernel⟩, uw_t 908 (by decide +kernel) rfl, uw_s (q := (mi_mo_readsDimension.1, 16)) 53 (by decide +kernel)⟩
abbrev mi_mo_readsAll : MI := (yX6_readsAll, cX6_readsAll, 2, none, 5, 114, 0, 0, none)
theorem mv_mo_readsAll : MV mi_mo_readsAll 0 ∧ Cond.instanceMethod mi_mo_readsAll.1 ∈ UW ∧ Cond.selects mi_mo_readsAll.1.cls mi_mo_readsAll.1 mi_mo_readsAll.1 ∈ UW := ⟨⟨uw_t 881 (by decide +kernel) rfl, uw_t 7 (by decide +kernel) rfl, by decide +kernel, by decide +kernel⟩, uw_t 880 (by decide +kernel) rfl, uw_s (q := (mi_mo_readsAll.1, 16)) 46 (by decide +kernel)⟩
abbrev mi_mo_load : MI := (yX6_load, cX6_load, 3, (some .int), 6, 135, 0, 0, none)
theorem mv_mo_load : MV mi_mo_load 0 ∧ Cond.instanceMethod mi_mo_load.1 ∈ UW ∧ Cond.selects mi_mo_load.1.cls mi_mo_load.1 mi_mo_load.1 ∈ UW := ⟨⟨uw_t 877 (by decide +kernel) rfl, uw_t 7 (by decide +kernel) rfl, by decide +kernel, by decide +kernel⟩, uw_t 875 (by decide +kernel) rfl, uw_t 876 (by decide +kernel) rfl⟩
abbrev mi_mo_faultKind : MI := (yX6_faultKind, cX6_faultKind, 1, (some .int), 0, 0, 0, 0, none)
theorem mv_mo_faultKind : MV mi_mo_faultKind 0 ∧ Cond.instanceMethod mi_mo_faultKind.1 ∈ UW ∧ Cond.selects mi_mo_faultKind.1.cls mi_mo_faultKind.1 mi_mo_faultKind.1 ∈ UW := ⟨⟨uw_t 917 (by decide +kernel) rfl, uw_t 7 (by decide +kernel) rfl, by decide +kernel, by decide +kernel⟩, uw_t 915 (by decide +kernel) rfl, uw_t 916 (by decide +kernel) rfl⟩
abbrev mi_mo_width : MI := (yX6_width, cX6_width, 3, (some .int), 3, 64, 0, 0, none)
theorem mv_mo_width : MV mi_mo_width 1 ∧ Cond.instanceMethod mi_mo_width.1 ∈ UW ∧ Cond.selects mi_mo_width.1.cls mi_mo_width.1 mi_mo_width.1 ∈ UW := ⟨⟨uw_t 1002 (by decide +kernel) rfl, uw_t 7 (by decide +kernel) rfl, by decide +kernel, by decide +kernel⟩, uw_t 1001 (by decide +kernel) rfl, uw_s (q := (mi_mo_width.1, 16)) 74 (by decide +kernel)⟩
abbrev mi_mo_form : MI := (yX6_form, cX6_form, 2, (some .int), 4, 86, 0, 0, none)
theorem mv_mo_form : MV mi_mo_form 1 ∧ Cond.instanceMethod mi_mo_form.1 ∈ UW ∧ Cond.selects mi_mo_form.1.cls mi_mo_form.1 mi_mo_form.1 ∈ UW := ⟨⟨uw_t 998 (by decide +kernel) rfl, uw_t 7 (by decide +kernel) rfl, by decide +kernel, by decide +kernel⟩, uw_t 997 (by decide +kernel) rfl, uw_s (q := (mi_mo_form.1, 16)) 73 (by decide +kernel)⟩
abbrev mi_mo_begins : MI := (yX6_begins, cX6_begins, 2, (some .int), 5, 107, 0, 0, none)
theorem mv_mo_begins : MV mi_mo_begins 1 ∧ Cond.instanceMethod mi_mo_begins.1 ∈ UW ∧ Cond.selects mi_mo_begins.1.cls mi_mo_begins.1 mi_mo_begins.1 ∈ UW := ⟨⟨uw_t 994 (by decide +kernel) rfl, uw_t 7 (by decide +kernel) rfl, by decide +kernel, by decide +kernel⟩, uw_t 993 (by decide +kernel) rfl, uw_s (q := (mi_mo_begins.1, 16)) 72 (by decide +kernel)⟩
abbrev mi_mo_reaches : MI := (yX6_reaches, cX6_reaches, 2, (some .int), 5, 107, 0, 0, none)
theorem mv_mo_reaches : MV mi_mo_reaches 1 ∧ Cond.instanceMethod mi_mo_reaches.1 ∈ UW ∧ Cond.selects mi_mo_reaches.1.cls mi_mo_reaches.1 mi_mo_reaches.1 ∈ UW := ⟨⟨uw_t 1006 (by decide +kernel) rfl, uw_t 7 (by decide +kernel) rfl, by decide +kernel, by decide +kernel⟩, uw_t 1005 (by decide +kernel) rfl, uw_s (q := (mi_mo_reaches.1, 16)) 75 (by decide +kernel)⟩
abbrev mi_mo_unitOf : MI := (yX6_unitOf, cX6_unitOf, 3, (some .int), 1, 22, 0, 0, none)
theorem mv_mo_unitOf : MV mi_mo_unitOf 1 ∧ Cond.instanceMethod mi_mo_unitOf.1 ∈ UW ∧ Cond.selects mi_mo_unitOf.1.cls mi_mo_unitOf.1 mi_mo_unitOf.1 ∈ UW := ⟨⟨uw_t 970 (by decide +kernel) rfl, uw_t 7 (by decide +kernel) rfl, by decide +kernel, by decide +kernel⟩, uw_t 969 (by decide +kernel) rfl, uw_s (q := (mi_mo_unitOf.1, 16)) 66 (by decide +kernel)⟩
abbrev mi_mo_laysUnits : MI := (yX6_laysUnits, cX6_laysUnits, 3, none, 2, 44, 0, 0, none)
theorem mv_mo_laysUnits : MV mi_mo_laysUnits 0 ∧ Cond.instanceMethod mi_mo_laysUnits.1 ∈ UW ∧ Cond.selects mi_mo_laysUnits.1.cls mi_mo_laysUnits.1 mi_mo_laysUnits.1 ∈ UW := ⟨⟨uw_t 966 (by decide +kernel) rfl, uw_t 7 (by decide +kernel) rfl, by decide +kernel, by decide +kernel⟩, uw_t 965 (by decide +kernel) rfl, uw_s (q := (mi_mo_laysUnits.1, 16)) 65 (by decide +kernel)⟩
abbrev mi_mo_isUnit : MI := (yX6_isUnit, cX6_isUnit, 2, (some .boolean), 0, 0, 0, 0, none)
theorem mv_mo_isUnit : MV mi_mo_isUnit 1 ∧ Cond.instanceMethod mi_mo_isUnit.1 ∈ UW ∧ Cond.selects mi_mo_isUnit.1.cls mi_mo_isUnit.1 mi_mo_isUnit.1 ∈ UW := ⟨⟨uw_t 978 (by decide +kernel) rfl, uw_t 7 (by decide +kernel) rfl, by decide +kernel, by decide +kernel⟩, uw_t 977 (by decide +kernel) rfl, uw_s (q := (mi_mo_isUnit.1, 16)) 68 (by decide +kernel)⟩
abbrev mi_mo_isSooner : MI := (yX6_isSooner, cX6_isSooner, 5, (some .boolean), 0, 0, 0, 0, none)
theorem mv_mo_isSooner : MV mi_mo_isSooner 2 ∧ Cond.instanceMethod mi_mo_isSooner.1 ∈ UW ∧ Cond.selects mi_mo_isSooner.1.cls mi_mo_isSooner.1 mi_mo_isSooner.1 ∈ UW := ⟨⟨uw_t 982 (by decide +kernel) rfl, uw_t 7 (by decide +kernel) rfl, by decide +kernel, by decide +kernel⟩, uw_t 981 (by decide +kernel) rfl, uw_s (q := (mi_mo_isSooner.1, 16)) 69 (by decide +kernel)⟩
abbrev mi_mo_nextUnit : MI := (yX6_nextUnit, cX6_nextUnit, 3, (some .int), 1, 24, 0, 0, none)
theorem mv_mo_nextUnit : MV mi_mo_nextUnit 0 ∧ Cond.instanceMethod mi_mo_nextUnit.1 ∈ UW ∧ Cond.selects mi_mo_nextUnit.1.cls mi_mo_nextUnit.1 mi_mo_nextUnit.1 ∈ UW := ⟨⟨uw_t 974 (by decide +kernel) rfl, uw_t 7 (by decide +kernel) rfl, by decide +kernel, by decide +kernel⟩, uw_t 973 (by decide +kernel) rfl, uw_s (q := (mi_mo_nextUnit.1, 16)) 67 (by decide +kernel)⟩
abbrev mi_mo_covers : MI := (yX6_covers, cX6_covers, 3, (some .boolean), 0, 0, 0, 0, none)
theorem mv_mo_covers : MV mi_mo_covers 2 ∧ Cond.instanceMethod mi_mo_covers.1 ∈ UW ∧ Cond.selects mi_mo_covers.1.cls mi_mo_covers.1 mi_mo_covers.1 ∈ UW := ⟨⟨uw_t 986 (by decide +kernel) rfl, uw_t 7 (by decide +kernel) rfl, by decide +kernel, by decide +kernel⟩, uw_t 985 (by decide +kernel) rfl, uw_s (q := (mi_mo_covers.1, 16)) 70 (by decide +kernel)⟩
abbrev mi_mo_meets : MI := (yX6_meets, cX6_meets, 7, (some .boolean), 6, 128, 0, 0, none)
theorem mv_mo_meets : MV mi_mo_meets 2 ∧ Cond.instanceMethod mi_mo_meets.1 ∈ UW ∧ Cond.selects mi_mo_meets.1.cls mi_mo_meets.1 mi_mo_meets.1 ∈ UW := ⟨⟨uw_t 990 (by decide +kernel) rfl, uw_t 7 (by decide +kernel) rfl, by decide +kernel, by decide +kernel⟩, uw_t 989 (by decide +kernel) rfl, uw_s (q := (mi_mo_meets.1, 16)) 71 (by decide +kernel)⟩
abbrev mi_mo_laysLanes : MI := (yX6_laysLanes, cX6_laysLanes, 4, none, 7, 154, 0, 0, none)
theorem mv_mo_laysLanes : MV mi_mo_laysLanes 0 ∧ Cond.instanceMethod mi_mo_laysLanes.1 ∈ UW ∧ Cond.selects mi_mo_laysLanes.1.cls mi_mo_laysLanes.1 mi_mo_laysLanes.1 ∈ UW := ⟨⟨uw_t 962 (by decide +kernel) rfl, uw_t 7 (by decide +kernel) rfl, by decide +kernel, by decide +kernel⟩, uw_t 961 (by decide +kernel) rfl, uw_s (q := (mi_mo_laysLanes.1, 16)) 64 (by decide +kernel)⟩
abbrev mi_mo_laneOf : MI := (yX6_laneOf, cX6_laneOf, 2, (some .int), 0, 0, 0, 0, none)
theorem mv_mo_laneOf : MV mi_mo_laneOf 1 ∧ Cond.instanceMethod mi_mo_laneOf.1 ∈ UW ∧ Cond.selects mi_mo_laneOf.1.cls mi_mo_laneOf.1 mi_mo_laneOf.1 ∈ UW := ⟨⟨uw_t 1014 (by decide +kernel) rfl, uw_t 7 (by decide +kernel) rfl, by decide +kernel, by decide +kernel⟩, uw_t 1013 (by decide +kernel) rfl, uw_s (q := (mi_mo_laneOf.1, 16)) 77 (by decide +kernel)⟩
abbrev mi_mo_lanes : MI := (yX6_lanes, cX6_lanes, 3, (some .int), 1, 21, 0, 0, none)
theorem mv_mo_lanes : MV mi_mo_lanes 0 ∧ Cond.instanceMethod mi_mo_lanes.1 ∈ UW ∧ Cond.selects mi_mo_lanes.1.cls mi_mo_lanes.1 mi_mo_lanes.1 ∈ UW := ⟨⟨uw_t 1097 (by decide +kernel) rfl, uw_t 7 (by decide +kernel) rfl, by decide +kernel, by decide +kernel⟩, uw_t 1096 (by decide +kernel) rfl, uw_s (q := (mi_mo_lanes.1, 16)) 89 (by decide +kernel)⟩
abbrev mi_mo_witness : MI := (yX6_witness, cX6_witness, 5, (some .int), 1, 22, 0, 0, none)
theorem mv_mo_witness : MV mi_mo_witness 1 ∧ Cond.instanceMethod mi_mo_witness.1 ∈ UW ∧ Cond.selects mi_mo_witness.1.cls mi_mo_witness.1 mi_mo_witness.1 ∈ UW := ⟨⟨uw_t 1010 (by decide +kernel) rfl, uw_t 7 (by decide +kernel) rfl, by decide +kernel, by decide +kernel⟩, uw_t 1009 (by decide +kernel) rfl, uw_s (q := (mi_mo_witness.1, 16)) 76 (by decide +kernel)⟩
abbrev mi_mo_crosses : MI := (yX6_crosses, cX6_crosses, 3, (some .boolean), 2, 46, 0, 0, none)
theorem mv_mo_crosses : MV mi_mo_crosses 2 ∧ Cond.instanceMethod mi_mo_crosses.1 ∈ UW ∧ Cond.selects mi_mo_crosses.1.cls mi_mo_crosses.1 mi_mo_crosses.1 ∈ UW := ⟨⟨uw_t 1022 (by decide +kernel) rfl, uw_t 7 (by decide +kernel) rfl, by decide +kernel, by decide +kernel⟩, uw_t 1021 (by decide +kernel) rfl, uw_s (q := (mi_mo_crosses.1, 16)) 79 (by decide +kernel)⟩
abbrev mi_mo_crossings : MI := (yX6_crossings, cX6_crossings, 7, (some .int), 3, 68, 0, 0, none)
theorem mv_mo_crossings : MV mi_mo_crossings 2 ∧ Cond.instanceMethod mi_mo_crossings.1 ∈ UW ∧ Cond.selects mi_mo_crossings.1.cls mi_mo_crossings.1 mi_mo_crossings.1 ∈ UW := ⟨⟨uw_t 1018 (by decide +kernel) rfl, uw_t 7 (by decide +kernel) rfl, by decide +kernel, by decide +kernel⟩, uw_t 1017 (by decide +kernel) rfl, uw_s (q := (mi_mo_crossings.1, 16)) 78 (by decide +kernel)⟩
abbrev mi_mo_bounds : MI := (yX6_bounds, cX6_bounds, 4, none, 0, 0, 0, 0, none)
theorem mv_mo_bounds : MV mi_mo_bounds 3 ∧ Cond.instanceMethod mi_mo_bounds.1 ∈ UW ∧ Cond.selects mi_mo_bounds.1.cls mi_mo_bounds.1 mi_mo_bounds.1 ∈ UW := ⟨⟨uw_t 942 (by decide +kernel) rfl, uw_t 7 (by decide +kernel) rfl, by decide +kernel, by decide +kernel⟩, uw_t 941 (by decide +kernel) rfl, uw_s (q := (mi_mo_bounds.1, 16)) 59 (by decide +kernel)⟩
abbrev mi_mo_laysDistances : MI := (yX6_laysDistances, cX6_laysDistances, 7, none, 3, 64, 0, 0, none)
theorem mv_mo_laysDistances : MV mi_mo_laysDistances 2 ∧ Cond.instanceMethod mi_mo_laysDistances.1 ∈ UW ∧ Cond.selects mi_mo_laysDistances.1.cls mi_mo_laysDistances.1 mi_mo_laysDistances.1 ∈ UW := ⟨⟨uw_t 925 (by decide +kernel) rfl, uw_t 7 (by decide +kernel) rfl, by decide +kernel, by decide +kernel⟩, uw_t 924 (by decide +kernel) rfl, uw_s (q := (mi_mo_laysDistances.1, 16)) 55 (by decide +kernel)⟩
abbrev mi_mo_areBound : MI := (yX6_areBound, cX6_areBound, 3, (some .boolean), 0, 0, 0, 0, none)
theorem mv_mo_areBound : MV mi_mo_areBound 2 ∧ Cond.instanceMethod mi_mo_areBound.1 ∈ UW ∧ Cond.selects mi_mo_areBound.1.cls mi_mo_areBound.1 mi_mo_areBound.1 ∈ UW := ⟨⟨uw_t 950 (by decide +kernel) rfl, uw_t 7 (by decide +kernel) rfl, by decide +kernel, by decide +kernel⟩, uw_t 949 (by decide +kernel) rfl, uw_s (q := (mi_mo_areBound.1, 16)) 61 (by decide +kernel)⟩
abbrev mi_mo_range : MI := (yX6_range, cX6_range, 3, (some .int), 0, 0, 0, 0, none)
theorem mv_mo_range : MV mi_mo_range 2 ∧ Cond.instanceMethod mi_mo_range.1 ∈ UW ∧ Cond.selects mi_mo_range.1.cls mi_mo_range.1 mi_mo_range.1 ∈ UW := ⟨⟨uw_t 1057 (by decide +kernel) rfl, uw_t 7 (by decide +kernel) rfl, by decide +kernel, by decide +kernel⟩, uw_t 1056 (by decide +kernel) rfl, uw_s (q := (mi_mo_range.1, 16)) 83 (by decide +kernel)⟩
abbrev mi_mo_isSuperfluous : MI := (yX6_isSuperfluous, cX6_isSuperfluous, 5, (some .boolean), 4, 90, 0, 0, none)
theorem mv_mo_isSuperfluous : MV mi_mo_isSuperfluous 2 ∧ Cond.instanceMethod mi_mo_isSuperfluous.1 ∈ UW ∧ Cond.selects mi_mo_isSuperfluous.1.cls mi_mo_isSuperfluous.1 mi_mo_isSuperfluous.1 ∈ UW := ⟨⟨uw_t 1030 (by decide +kernel) rfl, uw_t 7 (by decide +kernel) rfl, by decide +kernel, by decide +kernel⟩, uw_t 1029 (by decide +kernel) rfl, uw_s (q := (mi_mo_isSuperfluous.1, 16)) 80 (by decide +kernel)⟩
abbrev mi_mo_isFirst : MI := (yX6_isFirst, cX6_isFirst, 4, (some .boolean), 1, 22, 0, 0, none)
theorem mv_mo_isFirst : MV mi_mo_isFirst 1 ∧ Cond.instanceMethod mi_mo_isFirst.1 ∈ UW ∧ Cond.selects mi_mo_isFirst.1.cls mi_mo_isFirst.1 mi_mo_isFirst.1 ∈ UW := ⟨⟨uw_t 958 (by decide +kernel) rfl, uw_t 7 (by decide +kernel) rfl, by decide +kernel, by decide +kernel⟩, uw_t 957 (by decide +kernel) rfl, uw_s (q := (mi_mo_isFirst.1, 16)) 63 (by decide +kernel)⟩
abbrev mi_mo_groupOfFirst : MI := (yX6_groupOfFirst, cX6_groupOfFirst, 4, (some .int), 2, 45, 0, 0, none)
theorem mv_mo_groupOfFirst : MV mi_mo_groupOfFirst 1 ∧ Cond.instanceMethod mi_mo_groupOfFirst.1 ∈ UW ∧ Cond.selects mi_mo_groupOfFirst.1.cls mi_mo_groupOfFirst.1 mi_mo_groupOfFirst.1 ∈ UW := ⟨⟨uw_t 954 (by decide +kernel) rfl, uw_t 7 (by decide +kernel) rfl, by decide +kernel, by decide +kernel⟩, uw_t 953 (by decide +kernel) rfl, uw_s (q := (mi_mo_groupOfFirst.1, 16)) 62 (by decide +kernel)⟩
abbrev mi_mo_group : MI := (yX6_group, cX6_group, 4, (some .int), 3, 68, 0, 0, none)
theorem mv_mo_group : MV mi_mo_group 1 ∧ Cond.instanceMethod mi_mo_group.1 ∈ UW ∧ Cond.selects mi_mo_group.1.cls mi_mo_group.1 mi_mo_group.1 ∈ UW := ⟨⟨uw_t 946 (by decide +kernel) rfl, uw_t 7 (by decide +kernel) rfl, by decide +kernel, by decide +kernel⟩, uw_t 945 (by decide +kernel) rfl, uw_s (q := (mi_mo_group.1, 16)) 60 (by decide +kernel)⟩
abbrev mi_mo_point : MI := (yX6_point, cX6_point, 3, (some .int), 8, 177, 0, 0, none)
theorem mv_mo_point : MV mi_mo_point 2 ∧ Cond.instanceMethod mi_mo_point.1 ∈ UW ∧ Cond.selects mi_mo_point.1.cls mi_mo_point.1 mi_mo_point.1 ∈ UW := ⟨⟨uw_t 921 (by decide +kernel) rfl, uw_t 7 (by decide +kernel) rfl, by decide +kernel, by decide +kernel⟩, uw_t 919 (by decide +kernel) rfl, uw_t 920 (by decide +kernel) rfl⟩
abbrev mi_mo_placeOf : MI := (yX6_placeOf, cX6_placeOf, 1, (some .int), 0, 0, 0, 0, none)
theorem mv_mo_placeOf : MV mi_mo_placeOf 1 ∧ Cond.static mi_mo_placeOf.1 ∈ UW := ⟨⟨uw_t 1033 (by decide +kernel) rfl, uw_t 7 (by decide +kernel) rfl, by decide +kernel, by decide +kernel⟩, uw_t 1032 (by decide +kernel) rfl⟩
abbrev mi_mo_dimension : MI := (yX6_dimension, cX6_dimension, 3, (some .int), 8, 177, 0, 0, none)
theorem mv_mo_dimension : MV mi_mo_dimension 2 ∧ Cond.instanceMethod mi_mo_dimension.1 ∈ UW ∧ Cond.selects mi_mo_dimension.1.cls mi_mo_dimension.1 mi_mo_dimension.1 ∈ UW := ⟨⟨uw_t 1026 (by decide +kernel) rfl, uw_t 7 (by decide +kernel) rfl, by decide +kernel, by decide +kernel⟩, uw_t 1024 (by decide +kernel) rfl, uw_t 1025 (by decide +kernel) rfl⟩
abbrev mi_mo_at : MI := (yX6_at, cX6_at, 4, (some .int), 8, 177, 0, 0, none)
theorem mv_mo_at : MV mi_mo_at 2 ∧ Cond.instanceMethod mi_mo_at.1 ∈ UW ∧ Cond.selects mi_mo_at.1.cls mi_mo_at.1 mi_mo_at.1 ∈ UW := ⟨⟨uw_t 1037 (by decide +kernel) rfl, uw_t 7 (by decide +kernel) rfl, by decide +kernel, by decide +kernel⟩, uw_t 1035 (by decide +kernel) rfl, uw_t 1036 (by decide +kernel) rfl⟩
abbrev mi_mo_arePoints : MI := (yX6_arePoints, cX6_arePoints, 3, (some .boolean), 2, 43, 0, 0, none)
theorem mv_mo_arePoints : MV mi_mo_arePoints 2 ∧ Cond.instanceMethod mi_mo_arePoints.1 ∈ UW ∧ Cond.selects mi_mo_arePoints.1.cls mi_mo_arePoints.1 mi_mo_arePoints.1 ∈ UW := ⟨⟨uw_t 1045 (by decide +kernel) rfl, uw_t 7 (by decide +kernel) rfl, by decide +kernel, by decide +kernel⟩, uw_t 1044 (by decide +kernel) rfl, uw_s (q := (mi_mo_arePoints.1, 16)) 81 (by decide +kernel)⟩
abbrev mi_mo_distance : MI := (yX6_distance, cX6_distance, 4, (some .int), 4, 90, 0, 0, none)
theorem mv_mo_distance : MV mi_mo_distance 3 ∧ Cond.instanceMethod mi_mo_distance.1 ∈ UW ∧ Cond.selects mi_mo_distance.1.cls mi_mo_distance.1 mi_mo_distance.1 ∈ UW := ⟨⟨uw_t 1041 (by decide +kernel) rfl, uw_t 7 (by decide +kernel) rfl, by decide +kernel, by decide +kernel⟩, uw_t 1039 (by decide +kernel) rfl, uw_t 1040 (by decide +kernel) rfl⟩
abbrev mi_mo_adds : MI := (yX6_adds, cX6_adds, 5, (some .int), 4, 90, 0, 0, none)
theorem mv_mo_adds : MV mi_mo_adds 3 ∧ Cond.instanceMethod mi_mo_adds.1 ∈ UW ∧ Cond.selects mi_mo_adds.1.cls mi_mo_adds.1 mi_mo_adds.1 ∈ UW := ⟨⟨uw_t 1053 (by decide +kernel) rfl, uw_t 7 (by decide +kernel) rfl, by decide +kernel, by decide +kernel⟩, uw_t 1052 (by decide +kernel) rfl, uw_s (q := (mi_mo_adds.1, 16)) 82 (by decide +kernel)⟩
abbrev mi_mo_ifExact : MI := (yX6_ifExact, cX6_ifExact, 4, (some .int), 5, 114, 0, 0, none)
theorem mv_mo_ifExact : MV mi_mo_ifExact 3 ∧ Cond.instanceMethod mi_mo_ifExact.1 ∈ UW ∧ Cond.selects mi_mo_ifExact.1.cls mi_mo_ifExact.1 mi_mo_ifExact.1 ∈ UW := ⟨⟨uw_t 1049 (by decide +kernel) rfl, uw_t 7 (by decide +kernel) rfl, by decide +kernel, by decide +kernel⟩, uw_t 1047 (by decide +kernel) rfl, uw_t 1048 (by decide +kernel) rfl⟩
abbrev mi_mo_critical : MI := (yX6_critical, cX6_critical, 8, (some .int), 5, 114, 0, 0, none)
theorem mv_mo_critical : MV mi_mo_critical 2 ∧ Cond.instanceMethod mi_mo_critical.1 ∈ UW ∧ Cond.selects mi_mo_critical.1.cls mi_mo_critical.1 mi_mo_critical.1 ∈ UW := ⟨⟨uw_t 1061 (by decide +kernel) rfl, uw_t 7 (by decide +kernel) rfl, by decide +kernel, by decide +kernel⟩, uw_t 1059 (by decide +kernel) rfl, uw_t 1060 (by decide +kernel) rfl⟩
abbrev mi_mo_needed : MI := (yX6_needed, cX6_needed, 5, (some .int), 5, 114, 0, 0, none)
theorem mv_mo_needed : MV mi_mo_needed 0 ∧ Cond.instanceMethod mi_mo_needed.1 ∈ UW ∧ Cond.selects mi_mo_needed.1.cls mi_mo_needed.1 mi_mo_needed.1 ∈ UW := ⟨⟨uw_t 1065 (by decide +kernel) rfl, uw_t 7 (by decide +kernel) rfl, by decide +kernel, by decide +kernel⟩, uw_t 1063 (by decide +kernel) rfl, uw_t 1064 (by decide +kernel) rfl⟩
abbrev mi_mo_sumOf : MI := (yX6_sumOf, cX6_sumOf, 6, (some .int), 3, 64, 0, 0, none)
theorem mv_mo_sumOf : MV mi_mo_sumOf 2 ∧ Cond.instanceMethod mi_mo_sumOf.1 ∈ UW ∧ Cond.selects mi_mo_sumOf.1.cls mi_mo_sumOf.1 mi_mo_sumOf.1 ∈ UW := ⟨⟨uw_t 1073 (by decide +kernel) rfl, uw_t 7 (by decide +kernel) rfl, by decide +kernel, by decide +kernel⟩, uw_t 1072 (by decide +kernel) rfl, uw_s (q := (mi_mo_sumOf.1, 16)) 84 (by decide +kernel)⟩
abbrev mi_mo_endOf : MI := (yX6_endOf, cX6_endOf, 6, (some .int), 1, 22, 0, 0, none)
theorem mv_mo_endOf : MV mi_mo_endOf 2 ∧ Cond.instanceMethod mi_mo_endOf.1 ∈ UW ∧ Cond.selects mi_mo_endOf.1.cls mi_mo_endOf.1 mi_mo_endOf.1 ∈ UW := ⟨⟨uw_t 1077 (by decide +kernel) rfl, uw_t 7 (by decide +kernel) rfl, by decide +kernel, by decide +kernel⟩, uw_t 1076 (by decide +kernel) rfl, uw_s (q := (mi_mo_endOf.1, 16)) 85 (by decide +kernel)⟩
abbrev mi_mo_isClosed : MI := (yX6_isClosed, cX6_isClosed, 9, (some .boolean), 4, 89, 0, 0, none)
theorem mv_mo_isClosed : MV mi_mo_isClosed 1 ∧ Cond.instanceMethod mi_mo_isClosed.1 ∈ UW ∧ Cond.selects mi_mo_isClosed.1.cls mi_mo_isClosed.1 mi_mo_isClosed.1 ∈ UW := ⟨⟨uw_t 1081 (by decide +kernel) rfl, uw_t 7 (by decide +kernel) rfl, by decide +kernel, by decide +kernel⟩, uw_t 1080 (by decide +kernel) rfl, uw_s (q := (mi_mo_isClosed.1, 16)) 86 (by decide +kernel)⟩
abbrev mi_mo_over : MI := (yX6_over, cX6_over, 3, (some .int), 2, 47, 0, 0, none)
theorem mv_mo_over : MV mi_mo_over 1 ∧ Cond.instanceMethod mi_mo_over.1 ∈ UW ∧ Cond.selects mi_mo_over.1.cls mi_mo_over.1 mi_mo_over.1 ∈ UW := ⟨⟨uw_t 1085 (by decide +kernel) rfl, uw_t 7 (by decide +kernel) rfl, by decide +kernel, by decide +kernel⟩, uw_t 1084 (by decide +kernel) rfl, uw_s (q := (mi_mo_over.1, 16)) 87 (by decide +kernel)⟩
abbrev mi_mo_laneOfChain : MI := (yX6_laneOfChain, cX6_laneOfChain, 3, (some .int), 8, 177, 0, 0, none)
theorem mv_mo_laneOfChain : MV mi_mo_laneOfChain 1 ∧ Cond.instanceMethod mi_mo_laneOfChain.1 ∈ UW ∧ Cond.selects mi_mo_laneOfChain.1.cls mi_mo_laneOfChain.1 mi_mo_laneOfChain.1 ∈ UW := ⟨⟨uw_t 1089 (by decide +kernel) rfl, uw_t 7 (by decide +kernel) rfl, by decide +kernel, by decide +kernel⟩, uw_t 1088 (by decide +kernel) rfl, uw_s (q := (mi_mo_laneOfChain.1, 16)) 88 (by decide +kernel)⟩
abbrev mi_mo_chain : MI := (yX6_chain, cX6_chain, 3, (some .int), 9, 199, 0, 0, none)
theorem mv_mo_chain : MV mi_mo_chain 2 ∧ Cond.instanceMethod mi_mo_chain.1 ∈ UW ∧ Cond.selects mi_mo_chain.1.cls mi_mo_chain.1 mi_mo_chain.1 ∈ UW := ⟨⟨uw_t 1069 (by decide +kernel) rfl, uw_t 7 (by decide +kernel) rfl, by decide +kernel, by decide +kernel⟩, uw_t 1067 (by decide +kernel) rfl, uw_t 1068 (by decide +kernel) rfl⟩
abbrev mi_mo_ifArrow : MI := (yX6_ifArrow, cX6_ifArrow, 3, (some .int), 8, 177, 0, 0, none)
theorem mv_mo_ifArrow : MV mi_mo_ifArrow 1 ∧ Cond.instanceMethod mi_mo_ifArrow.1 ∈ UW ∧ Cond.selects mi_mo_ifArrow.1.cls mi_mo_ifArrow.1 mi_mo_ifArrow.1 ∈ UW := ⟨⟨uw_t 1093 (by decide +kernel) rfl, uw_t 7 (by decide +kernel) rfl, by decide +kernel, by decide +kernel⟩, uw_t 1091 (by decide +kernel) rfl, uw_t 1092 (by decide +kernel) rfl⟩
abbrev mi_mo_units : MI := (yX6_units, cX6_units, 3, (some .int), 2, 44, 0, 0, none)
theorem mv_mo_units : MV mi_mo_units 0 ∧ Cond.instanceMethod mi_mo_units.1 ∈ UW ∧ Cond.selects mi_mo_units.1.cls mi_mo_units.1 mi_mo_units.1 ∈ UW := ⟨⟨uw_t 1105 (by decide +kernel) rfl, uw_t 7 (by decide +kernel) rfl, by decide +kernel, by decide +kernel⟩, uw_t 1104 (by decide +kernel) rfl, uw_s (q := (mi_mo_units.1, 16)) 90 (by decide +kernel)⟩
abbrev mi_mo_groups : MI := (yX6_groups, cX6_groups, 3, (some .int), 4, 90, 0, 0, none)
theorem mv_mo_groups : MV mi_mo_groups 0 ∧ Cond.instanceMethod mi_mo_groups.1 ∈ UW ∧ Cond.selects mi_mo_groups.1.cls mi_mo_groups.1 mi_mo_groups.1 ∈ UW := ⟨⟨uw_t 1109 (by decide +kernel) rfl, uw_t 7 (by decide +kernel) rfl, by decide +kernel, by decide +kernel⟩, uw_t 1108 (by decide +kernel) rfl, uw_s (q := (mi_mo_groups.1, 16)) 91 (by decide +kernel)⟩
abbrev mi_mo_superfluous : MI := (yX6_superfluous, cX6_superfluous, 3, (some .int), 5, 114, 0, 0, none)
theorem mv_mo_superfluous : MV mi_mo_superfluous 0 ∧ Cond.instanceMethod mi_mo_superfluous.1 ∈ UW ∧ Cond.selects mi_mo_superfluous.1.cls mi_mo_superfluous.1 mi_mo_superfluous.1 ∈ UW := ⟨⟨uw_t 1113 (by decide +kernel) rfl, uw_t 7 (by decide +kernel) rfl, by decide +kernel, by decide +kernel⟩, uw_t 1112 (by decide +kernel) rfl, uw_s (q := (mi_mo_superfluous.1, 16)) 92 (by decide +kernel)⟩
abbrev mi_mo_count : MI := (yX6_count, cX6_count, 2, (some .int), 8, 177, 0, 0, none)
theorem mv_mo_count : MV mi_mo_count 1 ∧ Cond.instanceMethod mi_mo_count.1 ∈ UW ∧ Cond.selects mi_mo_count.1.cls mi_mo_count.1 mi_mo_count.1 ∈ UW := ⟨⟨uw_t 1101 (by decide +kernel) rfl, uw_t 7 (by decide +kernel) rfl, by decide +kernel, by decide +kernel⟩, uw_t 1099 (by decide +kernel) rfl, uw_t 1100 (by decide +kernel) rfl⟩
abbrev mi_mo_mixes : MI := (yX6_mixes, cX6_mixes, 2, none, 0, 0, 0, 0, none)
theorem mv_mo_mixes : MV mi_mo_mixes 1 ∧ Cond.instanceMethod mi_mo_mixes.1 ∈ UW ∧ Cond.selects mi_mo_mixes.1.cls mi_mo_mixes.1 mi_mo_mixes.1 ∈ UW := ⟨⟨uw_t 1123 (by decide +kernel) rfl, uw_t 7 (by decide +kernel) rfl, by decide +kernel, by decide +kernel⟩, uw_t 1122 (by decide +kernel) rfl, uw_s (q := (mi_mo_mixes.1, 16)) 93 (by decide +kernel)⟩
abbrev mi_mo_digest : MI := (yX6_digest, cX6_digest, 3, (some .long), 10, 221, 0, 0, none)
theorem mv_mo_digest : MV mi_mo_digest 0 ∧ Cond.instanceMethod mi_mo_digest.1 ∈ UW ∧ Cond.selects mi_mo_digest.1.cls mi_mo_digest.1 mi_mo_digest.1 ∈ UW := ⟨⟨uw_t 1117 (by decide +kernel) rfl, uw_t 7 (by decide +kernel) rfl, by decide +kernel, by decide +kernel⟩, uw_t 1115 (by decide +kernel) rfl, uw_t 1116 (by decide +kernel) rfl⟩
