/-! every word of the tables that is good, by its place -/
theorem k_0 : (Cond.initialized "HeatMachinesLaw") ∈ ut := mu 0 rfl rfl
theorem k_1 : (Cond.initialized "HeatMachines") ∈ ut := mu 1 rfl rfl
theorem k_2 : (Cond.initialized "HeatMachines$Planner") ∈ ut := mu 2 rfl rfl
theorem k_3 : (Cond.initialized "HeatMachines$House") ∈ ut := mu 3 rfl rfl
theorem k_4 : (Cond.initialized "HeatMachines$Machine") ∈ ut := mu 4 rfl rfl
theorem k_5 : (Cond.initialized "HeatMachines$Line") ∈ ut := mu 5 rfl rfl
theorem k_6 : (Cond.initialized "java/lang/Math") ∈ ut := mu 6 rfl rfl
theorem k_7 : (Cond.initialized "HeatMachines$States") ∈ ut := mu 7 rfl rfl
theorem k_8 : (Cond.initialized "HeatMachines$Borehole") ∈ ut := mu 8 rfl rfl
theorem k_9 : (Cond.initialized "HeatMachinesModel") ∈ ut := mu 9 rfl rfl
theorem k_10 : (Cond.initialized "java/lang/Throwable") ∈ ut := mu 10 rfl rfl
theorem k_11 : (Cond.initialized "java/lang/Exception") ∈ ut := mu 11 rfl rfl
theorem k_12 : (Cond.initialized "java/lang/RuntimeException") ∈ ut := mu 12 rfl rfl
theorem k_13 : (Cond.initialized "java/lang/IllegalArgumentException") ∈ ut := mu 13 rfl rfl
theorem k_14 : (Cond.initialized "java/lang/IllegalStateException") ∈ ut := mu 14 rfl rfl
theorem k_15 : (Cond.initialized "java/lang/Integer") ∈ ut := mu 15 rfl rfl
theorem k_16 : (Cond.classLink "HeatMachinesLaw" 8 "HeatMachines") ∈ ut := mu 16 rfl rfl
theorem k_17 : (Cond.instantiable "HeatMachines" 6) ∈ ut := mu 17 rfl rfl
theorem k_18 : (Cond.methodLink "HeatMachinesLaw" 64 ⟨"HeatMachines", "<init>", "()V"⟩) ∈ ut := mu 18 rfl rfl
theorem k_19 : (Cond.instanceMethod ⟨"HeatMachines", "<init>", "()V"⟩) ∈ ut := mu 19 rfl rfl
theorem k_20 : (Cond.code ⟨"HeatMachines", "<init>", "()V"⟩ prog_1_method_1_code 1 none) ∈ ut := mu 20 rfl rfl
theorem k_21 : (Cond.methodLink "HeatMachines" 3 ⟨"java/lang/Object", "<init>", "()V"⟩) ∈ ut := mu 21 rfl rfl
theorem k_22 : (Cond.instanceMethod ⟨"java/lang/Object", "<init>", "()V"⟩) ∈ ut := mu 22 rfl rfl
theorem k_23 : (Cond.code ⟨"java/lang/Object", "<init>", "()V"⟩ object_method_1_code 1 none) ∈ ut := mu 23 rfl rfl
theorem k_24 : (Cond.classLink "HeatMachines" 9 "HeatMachines$Planner") ∈ ut := mu 24 rfl rfl
theorem k_25 : (Cond.instantiable "HeatMachines$Planner" 11) ∈ ut := mu 25 rfl rfl
theorem k_27 : (Cond.instanceMethod ⟨"HeatMachines$Planner", "<init>", "()V"⟩) ∈ ut := mu 27 rfl rfl
theorem k_28 : (Cond.code ⟨"HeatMachines$Planner", "<init>", "()V"⟩ prog_6_method_1_code 1 none) ∈ ut := mu 28 rfl rfl
theorem k_29 : (Cond.methodLink "HeatMachines$Planner" 3 ⟨"java/lang/Object", "<init>", "()V"⟩) ∈ ut := mu 29 rfl rfl
theorem k_30 : (Cond.classLink "HeatMachines$Planner" 9 "HeatMachines$House") ∈ ut := mu 30 rfl rfl
theorem k_31 : (Cond.instantiable "HeatMachines$House" 3) ∈ ut := mu 31 rfl rfl
theorem k_32 : (Cond.methodLink "HeatMachines$Planner" 11 ⟨"HeatMachines$House", "<init>", "()V"⟩) ∈ ut := mu 32 rfl rfl
theorem k_33 : (Cond.instanceMethod ⟨"HeatMachines$House", "<init>", "()V"⟩) ∈ ut := mu 33 rfl rfl
theorem k_34 : (Cond.code ⟨"HeatMachines$House", "<init>", "()V"⟩ prog_3_method_1_code 2 none) ∈ ut := mu 34 rfl rfl
theorem k_35 : (Cond.methodLink "HeatMachines$House" 3 ⟨"java/lang/Object", "<init>", "()V"⟩) ∈ ut := mu 35 rfl rfl
theorem k_36 : (Cond.classLink "HeatMachines$House" 9 "HeatMachines$Machine") ∈ ut := mu 36 rfl rfl
theorem k_38 : (Cond.classLink "HeatMachines$House" 21 "[[I") ∈ ut := mu 38 rfl rfl
theorem k_40 : (Cond.instantiable "HeatMachines$Machine" 6) ∈ ut := mu 40 rfl rfl
theorem k_42 : (Cond.instanceMethod ⟨"HeatMachines$Machine", "<init>", "()V"⟩) ∈ ut := mu 42 rfl rfl
theorem k_43 : (Cond.code ⟨"HeatMachines$Machine", "<init>", "()V"⟩ prog_5_method_1_code 1 none) ∈ ut := mu 43 rfl rfl
theorem k_44 : (Cond.methodLink "HeatMachines$Machine" 3 ⟨"java/lang/Object", "<init>", "()V"⟩) ∈ ut := mu 44 rfl rfl
theorem k_45 : (Cond.classLink "HeatMachines$Machine" 21 "HeatMachines$Line") ∈ ut := mu 45 rfl rfl
theorem k_46 : (Cond.instantiable "HeatMachines$Line" 3) ∈ ut := mu 46 rfl rfl
theorem k_47 : (Cond.methodLink "HeatMachines$Machine" 23 ⟨"HeatMachines$Line", "<init>", "(I)V"⟩) ∈ ut := mu 47 rfl rfl
theorem k_48 : (Cond.instanceMethod ⟨"HeatMachines$Line", "<init>", "(I)V"⟩) ∈ ut := mu 48 rfl rfl
theorem k_49 : (Cond.code ⟨"HeatMachines$Line", "<init>", "(I)V"⟩ prog_4_method_1_code 3 none) ∈ ut := mu 49 rfl rfl
theorem k_50 : (Cond.methodLink "HeatMachines$Line" 3 ⟨"java/lang/Object", "<init>", "()V"⟩) ∈ ut := mu 50 rfl rfl
theorem k_51 : (Cond.methodLink "HeatMachines$Line" 15 ⟨"java/lang/Math", "max", "(II)I"⟩) ∈ ut := mu 51 rfl rfl
theorem k_52 : (Cond.static ⟨"java/lang/Math", "max", "(II)I"⟩) ∈ ut := mu 52 rfl rfl
theorem k_53 : (Cond.code ⟨"java/lang/Math", "max", "(II)I"⟩ prog_14_method_65_code 2 (some .int)) ∈ ut := mu 53 rfl rfl
theorem k_54 : (Cond.fieldLink "HeatMachines$Line" 21 "HeatMachines$Line" "warmths" "[I") ∈ ut := mu 54 rfl rfl
theorem k_55 : (Cond.fieldLink "HeatMachines$Line" 25 "HeatMachines$Line" "values" "[I") ∈ ut := mu 55 rfl rfl
theorem k_56 : (Cond.fieldLink "HeatMachines$Line" 9 "HeatMachines$Line" "size" "I") ∈ ut := mu 56 rfl rfl
theorem k_65 : (Cond.arrayClass .int) ∈ ut := mu 65 rfl rfl
theorem k_66 : (Cond.fieldLink "HeatMachines$Machine" 9 "HeatMachines$Machine" "leastRun" "I") ∈ ut := mu 66 rfl rfl
theorem k_68 : (Cond.fieldLink "HeatMachines$Machine" 15 "HeatMachines$Machine" "leastPause" "I") ∈ ut := mu 68 rfl rfl
theorem k_70 : (Cond.fieldLink "HeatMachines$Machine" 18 "HeatMachines$Machine" "startCents" "I") ∈ ut := mu 70 rfl rfl
theorem k_73 : (Cond.fieldLink "HeatMachines$Machine" 26 "HeatMachines$Machine" "heats" "LHeatMachines$Line;") ∈ ut := mu 73 rfl rfl
theorem k_76 : (Cond.fieldLink "HeatMachines$Machine" 30 "HeatMachines$Machine" "powers" "LHeatMachines$Line;") ∈ ut := mu 76 rfl rfl
theorem k_79 : (Cond.fieldLink "HeatMachines$Machine" 33 "HeatMachines$Machine" "outages" "[Z") ∈ ut := mu 79 rfl rfl
theorem k_95 : (Cond.arrayClass .boolean) ∈ ut := mu 95 rfl rfl
theorem k_96 : (Cond.fieldLink "HeatMachines$House" 11 "HeatMachines$House" "machines" "[LHeatMachines$Machine;") ∈ ut := mu 96 rfl rfl
theorem k_100 : (Cond.fieldLink "HeatMachines$House" 17 "HeatMachines$House" "count" "I") ∈ ut := mu 100 rfl rfl
theorem k_104 : (Cond.fieldLink "HeatMachines$House" 23 "HeatMachines$House" "facts" "[[I") ∈ ut := mu 104 rfl rfl
theorem k_114 : (Cond.classLink "HeatMachines$Planner" 18 "HeatMachines$States") ∈ ut := mu 114 rfl rfl
theorem k_115 : (Cond.instantiable "HeatMachines$States" 6) ∈ ut := mu 115 rfl rfl
theorem k_117 : (Cond.instanceMethod ⟨"HeatMachines$States", "<init>", "()V"⟩) ∈ ut := mu 117 rfl rfl
theorem k_118 : (Cond.code ⟨"HeatMachines$States", "<init>", "()V"⟩ prog_7_method_1_code 1 none) ∈ ut := mu 118 rfl rfl
theorem k_119 : (Cond.methodLink "HeatMachines$States" 3 ⟨"java/lang/Object", "<init>", "()V"⟩) ∈ ut := mu 119 rfl rfl
theorem k_120 : (Cond.fieldLink "HeatMachines$States" 9 "HeatMachines$States" "reachable" "[I") ∈ ut := mu 120 rfl rfl
theorem k_122 : (Cond.fieldLink "HeatMachines$States" 15 "HeatMachines$States" "count" "I") ∈ ut := mu 122 rfl rfl
theorem k_124 : (Cond.fieldLink "HeatMachines$States" 19 "HeatMachines$States" "ranBefore" "[I") ∈ ut := mu 124 rfl rfl
theorem k_126 : (Cond.fieldLink "HeatMachines$States" 22 "HeatMachines$States" "mustRun" "[I") ∈ ut := mu 126 rfl rfl
theorem k_128 : (Cond.fieldLink "HeatMachines$States" 25 "HeatMachines$States" "mustPause" "[I") ∈ ut := mu 128 rfl rfl
theorem k_130 : (Cond.fieldLink "HeatMachines$States" 28 "HeatMachines$States" "after" "[I") ∈ ut := mu 130 rfl rfl
theorem k_145 : (Cond.fieldLink "HeatMachines$Planner" 12 "HeatMachines$Planner" "house" "LHeatMachines$House;") ∈ ut := mu 145 rfl rfl
theorem k_147 : (Cond.fieldLink "HeatMachines$Planner" 21 "HeatMachines$Planner" "states" "LHeatMachines$States;") ∈ ut := mu 147 rfl rfl
theorem k_148 : (Cond.fieldLink "HeatMachines$Planner" 25 "HeatMachines$Planner" "over" "I") ∈ ut := mu 148 rfl rfl
theorem k_150 : (Cond.fieldLink "HeatMachines$Planner" 29 "HeatMachines$Planner" "state" "I") ∈ ut := mu 150 rfl rfl
theorem k_152 : (Cond.fieldLink "HeatMachines$Planner" 32 "HeatMachines$Planner" "stale" "I") ∈ ut := mu 152 rfl rfl
theorem k_153 : (Cond.fieldLink "HeatMachines$Planner" 35 "HeatMachines$Planner" "sets" "[I") ∈ ut := mu 153 rfl rfl
theorem k_155 : (Cond.fieldLink "HeatMachines$Planner" 39 "HeatMachines$Planner" "able" "[I") ∈ ut := mu 155 rfl rfl
theorem k_156 : (Cond.fieldLink "HeatMachines$Planner" 42 "HeatMachines$Planner" "heats" "[I") ∈ ut := mu 156 rfl rfl
theorem k_157 : (Cond.fieldLink "HeatMachines$Planner" 45 "HeatMachines$Planner" "powers" "[I") ∈ ut := mu 157 rfl rfl
theorem k_158 : (Cond.fieldLink "HeatMachines$Planner" 48 "HeatMachines$Planner" "startCents" "[I") ∈ ut := mu 158 rfl rfl
theorem k_159 : (Cond.fieldLink "HeatMachines$Planner" 51 "HeatMachines$Planner" "best" "[J") ∈ ut := mu 159 rfl rfl
theorem k_183 : (Cond.arrayClass .long) ∈ ut := mu 183 rfl rfl
theorem k_184 : (Cond.classLink "HeatMachines" 29 "HeatMachines$Line") ∈ ut := mu 184 rfl rfl
theorem k_185 : (Cond.methodLink "HeatMachines" 31 ⟨"HeatMachines$Line", "<init>", "(I)V"⟩) ∈ ut := mu 185 rfl rfl
theorem k_186 : (Cond.classLink "HeatMachines" 38 "HeatMachines$Borehole") ∈ ut := mu 186 rfl rfl
theorem k_187 : (Cond.instantiable "HeatMachines$Borehole" 3) ∈ ut := mu 187 rfl rfl
theorem k_189 : (Cond.instanceMethod ⟨"HeatMachines$Borehole", "<init>", "()V"⟩) ∈ ut := mu 189 rfl rfl
theorem k_190 : (Cond.code ⟨"HeatMachines$Borehole", "<init>", "()V"⟩ prog_2_method_1_code 1 none) ∈ ut := mu 190 rfl rfl
theorem k_191 : (Cond.methodLink "HeatMachines$Borehole" 3 ⟨"java/lang/Object", "<init>", "()V"⟩) ∈ ut := mu 191 rfl rfl
theorem k_192 : (Cond.fieldLink "HeatMachines$Borehole" 9 "HeatMachines$Borehole" "table" "[I") ∈ ut := mu 192 rfl rfl
theorem k_193 : (Cond.fieldLink "HeatMachines$Borehole" 15 "HeatMachines$Borehole" "size" "I") ∈ ut := mu 193 rfl rfl
theorem k_195 : (Cond.fieldLink "HeatMachines$Borehole" 19 "HeatMachines$Borehole" "loads" "[I") ∈ ut := mu 195 rfl rfl
theorem k_204 : (Cond.fieldLink "HeatMachines" 12 "HeatMachines" "planner" "LHeatMachines$Planner;") ∈ ut := mu 204 rfl rfl
theorem k_205 : (Cond.fieldLink "HeatMachines" 20 "HeatMachines" "house" "LHeatMachines$House;") ∈ ut := mu 205 rfl rfl
theorem k_206 : (Cond.fieldLink "HeatMachines" 21 "HeatMachines" "ranSets" "[I") ∈ ut := mu 206 rfl rfl
theorem k_207 : (Cond.fieldLink "HeatMachines" 25 "HeatMachines" "totals" "[J") ∈ ut := mu 207 rfl rfl
theorem k_208 : (Cond.fieldLink "HeatMachines" 34 "HeatMachines" "waters" "LHeatMachines$Line;") ∈ ut := mu 208 rfl rfl
theorem k_209 : (Cond.fieldLink "HeatMachines" 41 "HeatMachines" "borehole" "LHeatMachines$Borehole;") ∈ ut := mu 209 rfl rfl
theorem k_223 : (Cond.methodLink "HeatMachinesLaw" 92 ⟨"HeatMachines", "cost", "()J"⟩) ∈ ut := mu 223 rfl rfl
theorem k_224 : (Cond.instanceMethod ⟨"HeatMachines", "cost", "()J"⟩) ∈ ut := mu 224 rfl rfl
theorem k_225 : (Cond.selects "HeatMachines" ⟨"HeatMachines", "cost", "()J"⟩ ⟨"HeatMachines", "cost", "()J"⟩) ∈ ut := mu 225 rfl rfl
theorem k_226 : (Cond.code ⟨"HeatMachines", "cost", "()J"⟩ prog_1_method_7_code 1 (some .long)) ∈ ut := mu 226 rfl rfl
theorem k_227 : (Cond.methodLink "HeatMachines" 126 ⟨"HeatMachines$Planner", "refresh", "()V"⟩) ∈ ut := mu 227 rfl rfl
theorem k_228 : (Cond.instanceMethod ⟨"HeatMachines$Planner", "refresh", "()V"⟩) ∈ ut := mu 228 rfl rfl
theorem k_229 : (Cond.selects "HeatMachines$Planner" ⟨"HeatMachines$Planner", "refresh", "()V"⟩ ⟨"HeatMachines$Planner", "refresh", "()V"⟩) ∈ ut := mu 229 rfl rfl
theorem k_230 : (Cond.code ⟨"HeatMachines$Planner", "refresh", "()V"⟩ prog_6_method_4_code 2 none) ∈ ut := mu 230 rfl rfl
theorem k_231 : (Cond.methodLink "HeatMachines$Planner" 77 ⟨"HeatMachines$Planner", "weigh", "(I)V"⟩) ∈ ut := mu 231 rfl rfl
theorem k_233 : (Cond.instanceMethod ⟨"HeatMachines$Planner", "weigh", "(I)V"⟩) ∈ ut := mu 233 rfl rfl
theorem k_234 : (Cond.code ⟨"HeatMachines$Planner", "weigh", "(I)V"⟩ prog_6_method_12_code 3 none) ∈ ut := mu 234 rfl rfl
theorem k_235 : (Cond.methodLink "HeatMachines$Planner" 107 ⟨"HeatMachines$Planner", "weighMachine", "(II)V"⟩) ∈ ut := mu 235 rfl rfl
theorem k_237 : (Cond.instanceMethod ⟨"HeatMachines$Planner", "weighMachine", "(II)V"⟩) ∈ ut := mu 237 rfl rfl
theorem k_238 : (Cond.code ⟨"HeatMachines$Planner", "weighMachine", "(II)V"⟩ prog_6_method_13_code 11 none) ∈ ut := mu 238 rfl rfl
theorem k_239 : (Cond.methodLink "HeatMachines$Planner" 118 ⟨"HeatMachines$Line", "valueAt", "(IZ)I"⟩) ∈ ut := mu 239 rfl rfl
theorem k_240 : (Cond.instanceMethod ⟨"HeatMachines$Line", "valueAt", "(IZ)I"⟩) ∈ ut := mu 240 rfl rfl
theorem k_241 : (Cond.selects "HeatMachines$Line" ⟨"HeatMachines$Line", "valueAt", "(IZ)I"⟩ ⟨"HeatMachines$Line", "valueAt", "(IZ)I"⟩) ∈ ut := mu 241 rfl rfl
theorem k_242 : (Cond.code ⟨"HeatMachines$Line", "valueAt", "(IZ)I"⟩ prog_4_method_4_code 4 (some .int)) ∈ ut := mu 242 rfl rfl
theorem k_243 : (Cond.methodLink "HeatMachines$Line" 32 ⟨"HeatMachines$Line", "between", "(IIZ)I"⟩) ∈ ut := mu 243 rfl rfl
theorem k_245 : (Cond.instanceMethod ⟨"HeatMachines$Line", "between", "(IIZ)I"⟩) ∈ ut := mu 245 rfl rfl
theorem k_246 : (Cond.code ⟨"HeatMachines$Line", "between", "(IIZ)I"⟩ prog_4_method_6_code 9 (some .int)) ∈ ut := mu 246 rfl rfl
theorem k_247 : (Cond.methodLink "HeatMachines$Line" 43 ⟨"java/lang/Math", "floorDiv", "(JJ)J"⟩) ∈ ut := mu 247 rfl rfl
theorem k_248 : (Cond.static ⟨"java/lang/Math", "floorDiv", "(JJ)J"⟩) ∈ ut := mu 248 rfl rfl
theorem k_249 : (Cond.code ⟨"java/lang/Math", "floorDiv", "(JJ)J"⟩ prog_14_method_49_code 6 (some .long)) ∈ ut := mu 249 rfl rfl
theorem k_250 : (Cond.methodLink "HeatMachines$Planner" 80 ⟨"HeatMachines$Planner", "fill", "(I)V"⟩) ∈ ut := mu 250 rfl rfl
theorem k_252 : (Cond.instanceMethod ⟨"HeatMachines$Planner", "fill", "(I)V"⟩) ∈ ut := mu 252 rfl rfl
theorem k_253 : (Cond.code ⟨"HeatMachines$Planner", "fill", "(I)V"⟩ prog_6_method_14_code 4 none) ∈ ut := mu 253 rfl rfl
theorem k_254 : (Cond.methodLink "HeatMachines$Planner" 130 ⟨"HeatMachines$Planner", "bestChoice", "(II)J"⟩) ∈ ut := mu 254 rfl rfl
theorem k_256 : (Cond.instanceMethod ⟨"HeatMachines$Planner", "bestChoice", "(II)J"⟩) ∈ ut := mu 256 rfl rfl
theorem k_257 : (Cond.code ⟨"HeatMachines$Planner", "bestChoice", "(II)J"⟩ prog_6_method_16_code 12 (some .long)) ∈ ut := mu 257 rfl rfl
theorem k_258 : (Cond.methodLink "HeatMachines$Planner" 140 ⟨"java/lang/Integer", "bitCount", "(I)I"⟩) ∈ ut := mu 258 rfl rfl
theorem k_259 : (Cond.static ⟨"java/lang/Integer", "bitCount", "(I)I"⟩) ∈ ut := mu 259 rfl rfl
theorem k_260 : (Cond.code ⟨"java/lang/Integer", "bitCount", "(I)I"⟩ prog_13_method_49_code 1 (some .int)) ∈ ut := mu 260 rfl rfl
theorem k_261 : (Cond.constant "java/lang/Integer" 265 (1431655765)) ∈ ut := mu 261 rfl rfl
theorem k_262 : (Cond.constant "java/lang/Integer" 266 (858993459)) ∈ ut := mu 262 rfl rfl
theorem k_263 : (Cond.constant "java/lang/Integer" 267 (252645135)) ∈ ut := mu 263 rfl rfl
theorem k_264 : (Cond.constantLong "HeatMachines$Planner" 86 (-1)) ∈ ut := mu 264 rfl rfl
theorem k_265 : (Cond.methodLink "HeatMachines$Planner" 146 ⟨"HeatMachines$Planner", "choiceOf", "(III)J"⟩) ∈ ut := mu 265 rfl rfl
theorem k_267 : (Cond.instanceMethod ⟨"HeatMachines$Planner", "choiceOf", "(III)J"⟩) ∈ ut := mu 267 rfl rfl
theorem k_268 : (Cond.code ⟨"HeatMachines$Planner", "choiceOf", "(III)J"⟩ prog_6_method_17_code 6 (some .long)) ∈ ut := mu 268 rfl rfl
theorem k_269 : (Cond.constantLong "HeatMachines$Planner" 92 (8)) ∈ ut := mu 269 rfl rfl
theorem k_270 : (Cond.methodLink "HeatMachines$Planner" 150 ⟨"HeatMachines$Planner", "centsOf", "(III)J"⟩) ∈ ut := mu 270 rfl rfl
theorem k_271 : (Cond.instanceMethod ⟨"HeatMachines$Planner", "centsOf", "(III)J"⟩) ∈ ut := mu 271 rfl rfl
theorem k_272 : (Cond.selects "HeatMachines$Planner" ⟨"HeatMachines$Planner", "centsOf", "(III)J"⟩ ⟨"HeatMachines$Planner", "centsOf", "(III)J"⟩) ∈ ut := mu 272 rfl rfl
theorem k_273 : (Cond.code ⟨"HeatMachines$Planner", "centsOf", "(III)J"⟩ prog_6_method_11_code 4 (some .long)) ∈ ut := mu 273 rfl rfl
theorem k_274 : (Cond.methodLink "HeatMachines$Planner" 83 ⟨"HeatMachines$Planner", "layPlan", "()V"⟩) ∈ ut := mu 274 rfl rfl
theorem k_276 : (Cond.instanceMethod ⟨"HeatMachines$Planner", "layPlan", "()V"⟩) ∈ ut := mu 276 rfl rfl
theorem k_277 : (Cond.code ⟨"HeatMachines$Planner", "layPlan", "()V"⟩ prog_6_method_15_code 5 none) ∈ ut := mu 277 rfl rfl
theorem k_278 : (Cond.methodLink "HeatMachines$Planner" 88 ⟨"HeatMachines$Planner", "hasPlan", "()Z"⟩) ∈ ut := mu 278 rfl rfl
theorem k_279 : (Cond.instanceMethod ⟨"HeatMachines$Planner", "hasPlan", "()Z"⟩) ∈ ut := mu 279 rfl rfl
theorem k_280 : (Cond.selects "HeatMachines$Planner" ⟨"HeatMachines$Planner", "hasPlan", "()Z"⟩ ⟨"HeatMachines$Planner", "hasPlan", "()Z"⟩) ∈ ut := mu 280 rfl rfl
theorem k_281 : (Cond.code ⟨"HeatMachines$Planner", "hasPlan", "()Z"⟩ prog_6_method_5_code 1 (some .boolean)) ∈ ut := mu 281 rfl rfl
theorem k_282 : (Cond.methodLink "HeatMachines" 129 ⟨"HeatMachines$Planner", "leastCents", "()J"⟩) ∈ ut := mu 282 rfl rfl
theorem k_283 : (Cond.instanceMethod ⟨"HeatMachines$Planner", "leastCents", "()J"⟩) ∈ ut := mu 283 rfl rfl
theorem k_284 : (Cond.selects "HeatMachines$Planner" ⟨"HeatMachines$Planner", "leastCents", "()J"⟩ ⟨"HeatMachines$Planner", "leastCents", "()J"⟩) ∈ ut := mu 284 rfl rfl
theorem k_285 : (Cond.code ⟨"HeatMachines$Planner", "leastCents", "()J"⟩ prog_6_method_6_code 1 (some .long)) ∈ ut := mu 285 rfl rfl
theorem k_286 : (Cond.methodLink "HeatMachinesLaw" 68 ⟨"HeatMachinesLaw", "machine", "(LHeatMachines;III[J)I"⟩) ∈ ut := mu 286 rfl rfl
theorem k_287 : (Cond.static ⟨"HeatMachinesLaw", "machine", "(LHeatMachines;III[J)I"⟩) ∈ ut := mu 287 rfl rfl
theorem k_288 : (Cond.codeWith ⟨"HeatMachinesLaw", "machine", "(LHeatMachines;III[J)I"⟩ method_3_code 6 (some .int) [(0, 12, 15, 13), (0, 12, 19, 15)]) ∈ ut := mu 288 rfl rfl
theorem k_289 : (Cond.classLink "HeatMachinesLaw" 13 "java/lang/IllegalArgumentException") ∈ ut := mu 289 rfl rfl
theorem k_290 : (Cond.classLink "HeatMachinesLaw" 15 "java/lang/IllegalStateException") ∈ ut := mu 290 rfl rfl
theorem k_291 : (Cond.methodLink "HeatMachinesLaw" 7 ⟨"HeatMachines", "machine", "(III)I"⟩) ∈ ut := mu 291 rfl rfl
theorem k_292 : (Cond.instanceMethod ⟨"HeatMachines", "machine", "(III)I"⟩) ∈ ut := mu 292 rfl rfl
theorem k_293 : (Cond.selects "HeatMachines" ⟨"HeatMachines", "machine", "(III)I"⟩ ⟨"HeatMachines", "machine", "(III)I"⟩) ∈ ut := mu 293 rfl rfl
theorem k_294 : (Cond.code ⟨"HeatMachines", "machine", "(III)I"⟩ prog_1_method_2_code 5 (some .int)) ∈ ut := mu 294 rfl rfl
theorem k_295 : (Cond.methodLink "HeatMachines" 45 ⟨"HeatMachines", "isWithin", "(III)Z"⟩) ∈ ut := mu 295 rfl rfl
theorem k_296 : (Cond.static ⟨"HeatMachines", "isWithin", "(III)Z"⟩) ∈ ut := mu 296 rfl rfl
theorem k_297 : (Cond.code ⟨"HeatMachines", "isWithin", "(III)Z"⟩ prog_1_method_22_code 3 (some .boolean)) ∈ ut := mu 297 rfl rfl
theorem k_298 : (Cond.constant "HeatMachines" 49 (100000)) ∈ ut := mu 298 rfl rfl
theorem k_299 : (Cond.methodLink "HeatMachines" 50 ⟨"HeatMachines", "requireArgument", "(Z)V"⟩) ∈ ut := mu 299 rfl rfl
theorem k_300 : (Cond.static ⟨"HeatMachines", "requireArgument", "(Z)V"⟩) ∈ ut := mu 300 rfl rfl
theorem k_301 : (Cond.code ⟨"HeatMachines", "requireArgument", "(Z)V"⟩ prog_1_method_23_code 1 none) ∈ ut := mu 301 rfl rfl
theorem k_302 : (Cond.classLink "HeatMachines" 181 "java/lang/IllegalArgumentException") ∈ ut := mu 302 rfl rfl
theorem k_303 : (Cond.instantiable "java/lang/IllegalArgumentException" 6) ∈ ut := mu 303 rfl rfl
theorem k_311 : (Cond.selects "java/lang/IllegalArgumentException" ⟨"java/lang/Throwable", "fillInStackTrace", "(I)Ljava/lang/Throwable;"⟩ ⟨"java/lang/Throwable", "fillInStackTrace", "(I)Ljava/lang/Throwable;"⟩) ∈ ut := mu 311 rfl rfl
theorem k_312 : (Cond.selects "java/lang/IllegalArgumentException" ⟨"java/lang/Throwable", "fillInStackTrace", "()Ljava/lang/Throwable;"⟩ ⟨"java/lang/Throwable", "fillInStackTrace", "()Ljava/lang/Throwable;"⟩) ∈ ut := mu 312 rfl rfl
theorem k_323 : (Cond.fieldLink "java/lang/Throwable" 198 "java/lang/Throwable" "backtrace" "Ljava/lang/Object;") ∈ ut := mu 323 rfl rfl
theorem k_325 : (Cond.instanceMethod ⟨"java/lang/Throwable", "<init>", "()V"⟩) ∈ ut := mu 325 rfl rfl
theorem k_326 : (Cond.code ⟨"java/lang/Throwable", "<init>", "()V"⟩ prog_17_method_1_code 1 none) ∈ ut := mu 326 rfl rfl
theorem k_327 : (Cond.methodLink "java/lang/Throwable" 1 ⟨"java/lang/Object", "<init>", "()V"⟩) ∈ ut := mu 327 rfl rfl
theorem k_328 : (Cond.fieldLink "java/lang/Throwable" 13 "java/lang/Throwable" "UNASSIGNED_STACK" "[Ljava/lang/StackTraceElement;") ∈ ut := mu 328 rfl rfl
theorem k_330 : (Cond.fieldLink "java/lang/Throwable" 20 "java/lang/Throwable" "SUPPRESSED_SENTINEL" "Ljava/util/List;") ∈ ut := mu 330 rfl rfl
theorem k_332 : (Cond.methodLink "java/lang/Throwable" 27 ⟨"java/lang/Throwable", "fillInStackTrace", "()Ljava/lang/Throwable;"⟩) ∈ ut := mu 332 rfl rfl
theorem k_333 : (Cond.instanceMethod ⟨"java/lang/Throwable", "fillInStackTrace", "()Ljava/lang/Throwable;"⟩) ∈ ut := mu 333 rfl rfl
theorem k_335 : (Cond.selects "java/lang/IllegalStateException" ⟨"java/lang/Throwable", "fillInStackTrace", "()Ljava/lang/Throwable;"⟩ ⟨"java/lang/Throwable", "fillInStackTrace", "()Ljava/lang/Throwable;"⟩) ∈ ut := mu 335 rfl rfl
theorem k_337 : (Cond.methodLink "java/lang/Throwable" 202 ⟨"java/lang/Throwable", "fillInStackTrace", "(I)Ljava/lang/Throwable;"⟩) ∈ ut := mu 337 rfl rfl
theorem k_339 : (Cond.instanceMethod ⟨"java/lang/Throwable", "fillInStackTrace", "(I)Ljava/lang/Throwable;"⟩) ∈ ut := mu 339 rfl rfl
theorem k_340 : (Cond.instantiable "java/lang/Throwable" 6) ∈ ut := mu 340 rfl rfl
theorem k_343 : (Cond.methodLink "HeatMachines" 185 ⟨"java/lang/IllegalArgumentException", "<init>", "(Ljava/lang/String;)V"⟩) ∈ ut := mu 343 rfl rfl
theorem k_344 : (Cond.instanceMethod ⟨"java/lang/IllegalArgumentException", "<init>", "(Ljava/lang/String;)V"⟩) ∈ ut := mu 344 rfl rfl
theorem k_345 : (Cond.code ⟨"java/lang/IllegalArgumentException", "<init>", "(Ljava/lang/String;)V"⟩ prog_11_method_2_code 2 none) ∈ ut := mu 345 rfl rfl
theorem k_346 : (Cond.methodLink "java/lang/IllegalArgumentException" 7 ⟨"java/lang/RuntimeException", "<init>", "(Ljava/lang/String;)V"⟩) ∈ ut := mu 346 rfl rfl
theorem k_347 : (Cond.instanceMethod ⟨"java/lang/RuntimeException", "<init>", "(Ljava/lang/String;)V"⟩) ∈ ut := mu 347 rfl rfl
theorem k_348 : (Cond.code ⟨"java/lang/RuntimeException", "<init>", "(Ljava/lang/String;)V"⟩ prog_15_method_2_code 2 none) ∈ ut := mu 348 rfl rfl
theorem k_349 : (Cond.methodLink "java/lang/RuntimeException" 7 ⟨"java/lang/Exception", "<init>", "(Ljava/lang/String;)V"⟩) ∈ ut := mu 349 rfl rfl
theorem k_350 : (Cond.instanceMethod ⟨"java/lang/Exception", "<init>", "(Ljava/lang/String;)V"⟩) ∈ ut := mu 350 rfl rfl
theorem k_351 : (Cond.code ⟨"java/lang/Exception", "<init>", "(Ljava/lang/String;)V"⟩ prog_10_method_2_code 2 none) ∈ ut := mu 351 rfl rfl
theorem k_352 : (Cond.methodLink "java/lang/Exception" 7 ⟨"java/lang/Throwable", "<init>", "(Ljava/lang/String;)V"⟩) ∈ ut := mu 352 rfl rfl
theorem k_353 : (Cond.instanceMethod ⟨"java/lang/Throwable", "<init>", "(Ljava/lang/String;)V"⟩) ∈ ut := mu 353 rfl rfl
theorem k_354 : (Cond.code ⟨"java/lang/Throwable", "<init>", "(Ljava/lang/String;)V"⟩ prog_17_method_2_code 2 none) ∈ ut := mu 354 rfl rfl
theorem k_355 : (Cond.fieldLink "java/lang/Throwable" 198 "java/lang/Throwable" "backtrace" "Ljava/lang/Object;") ∈ ut := mu 355 rfl rfl
theorem k_356 : (Cond.fieldLink "java/lang/Throwable" 31 "java/lang/Throwable" "detailMessage" "Ljava/lang/String;") ∈ ut := mu 356 rfl rfl
theorem k_357 : (Cond.fieldLink "java/lang/Throwable" 7 "java/lang/Throwable" "cause" "Ljava/lang/Throwable;") ∈ ut := mu 357 rfl rfl
theorem k_358 : (Cond.fieldLink "java/lang/Throwable" 17 "java/lang/Throwable" "stackTrace" "[Ljava/lang/StackTraceElement;") ∈ ut := mu 358 rfl rfl
theorem k_359 : (Cond.fieldLink "java/lang/Throwable" 24 "java/lang/Throwable" "suppressedExceptions" "Ljava/util/List;") ∈ ut := mu 359 rfl rfl
theorem k_368 : (Cond.arrayClass .byte) ∈ ut := mu 368 rfl rfl
theorem k_369 : (Cond.methodLink "HeatMachines" 63 ⟨"HeatMachines", "requireState", "(Z)V"⟩) ∈ ut := mu 369 rfl rfl
theorem k_370 : (Cond.static ⟨"HeatMachines", "requireState", "(Z)V"⟩) ∈ ut := mu 370 rfl rfl
theorem k_371 : (Cond.code ⟨"HeatMachines", "requireState", "(Z)V"⟩ prog_1_method_24_code 1 none) ∈ ut := mu 371 rfl rfl
theorem k_372 : (Cond.classLink "HeatMachines" 188 "java/lang/IllegalStateException") ∈ ut := mu 372 rfl rfl
theorem k_373 : (Cond.instantiable "java/lang/IllegalStateException" 6) ∈ ut := mu 373 rfl rfl
theorem k_375 : (Cond.selects "java/lang/IllegalStateException" ⟨"java/lang/Throwable", "fillInStackTrace", "(I)Ljava/lang/Throwable;"⟩ ⟨"java/lang/Throwable", "fillInStackTrace", "(I)Ljava/lang/Throwable;"⟩) ∈ ut := mu 375 rfl rfl
set_option maxRecDepth 20000 in
theorem k_382 : (Cond.methodLink "HeatMachines" 192 ⟨"java/lang/IllegalStateException", "<init>", "(Ljava/lang/String;)V"⟩) ∈ ut := mu 382 rfl rfl
set_option maxRecDepth 20000 in
theorem k_383 : (Cond.instanceMethod ⟨"java/lang/IllegalStateException", "<init>", "(Ljava/lang/String;)V"⟩) ∈ ut := mu 383 rfl rfl
set_option maxRecDepth 20000 in
theorem k_384 : (Cond.code ⟨"java/lang/IllegalStateException", "<init>", "(Ljava/lang/String;)V"⟩ prog_12_method_2_code 2 none) ∈ ut := mu 384 rfl rfl
set_option maxRecDepth 20000 in
theorem k_385 : (Cond.methodLink "java/lang/IllegalStateException" 7 ⟨"java/lang/RuntimeException", "<init>", "(Ljava/lang/String;)V"⟩) ∈ ut := mu 385 rfl rfl
set_option maxRecDepth 20000 in
theorem k_388 : (Cond.methodLink "HeatMachines" 66 ⟨"HeatMachines$House", "take", "(III)I"⟩) ∈ ut := mu 388 rfl rfl
set_option maxRecDepth 20000 in
theorem k_389 : (Cond.instanceMethod ⟨"HeatMachines$House", "take", "(III)I"⟩) ∈ ut := mu 389 rfl rfl
set_option maxRecDepth 20000 in
theorem k_390 : (Cond.selects "HeatMachines$House" ⟨"HeatMachines$House", "take", "(III)I"⟩ ⟨"HeatMachines$House", "take", "(III)I"⟩) ∈ ut := mu 390 rfl rfl
set_option maxRecDepth 20000 in
theorem k_391 : (Cond.code ⟨"HeatMachines$House", "take", "(III)I"⟩ prog_3_method_2_code 5 (some .int)) ∈ ut := mu 391 rfl rfl
set_option maxRecDepth 20000 in
theorem k_392 : (Cond.methodLink "HeatMachines" 70 ⟨"HeatMachines$Planner", "join", "(I)V"⟩) ∈ ut := mu 392 rfl rfl
set_option maxRecDepth 20000 in
theorem k_393 : (Cond.instanceMethod ⟨"HeatMachines$Planner", "join", "(I)V"⟩) ∈ ut := mu 393 rfl rfl
set_option maxRecDepth 20000 in
theorem k_394 : (Cond.selects "HeatMachines$Planner" ⟨"HeatMachines$Planner", "join", "(I)V"⟩ ⟨"HeatMachines$Planner", "join", "(I)V"⟩) ∈ ut := mu 394 rfl rfl
set_option maxRecDepth 20000 in
theorem k_395 : (Cond.code ⟨"HeatMachines$Planner", "join", "(I)V"⟩ prog_6_method_2_code 4 none) ∈ ut := mu 395 rfl rfl
set_option maxRecDepth 20000 in
theorem k_396 : (Cond.methodLink "HeatMachines$Planner" 55 ⟨"HeatMachines$States", "extend", "(LHeatMachines$House;I)V"⟩) ∈ ut := mu 396 rfl rfl
set_option maxRecDepth 20000 in
theorem k_397 : (Cond.instanceMethod ⟨"HeatMachines$States", "extend", "(LHeatMachines$House;I)V"⟩) ∈ ut := mu 397 rfl rfl
set_option maxRecDepth 20000 in
theorem k_398 : (Cond.selects "HeatMachines$States" ⟨"HeatMachines$States", "extend", "(LHeatMachines$House;I)V"⟩ ⟨"HeatMachines$States", "extend", "(LHeatMachines$House;I)V"⟩) ∈ ut := mu 398 rfl rfl
set_option maxRecDepth 20000 in
theorem k_399 : (Cond.code ⟨"HeatMachines$States", "extend", "(LHeatMachines$House;I)V"⟩ prog_7_method_2_code 6 none) ∈ ut := mu 399 rfl rfl
set_option maxRecDepth 20000 in
theorem k_400 : (Cond.methodLink "HeatMachines$States" 37 ⟨"HeatMachines$Machine", "canReach", "(I)Z"⟩) ∈ ut := mu 400 rfl rfl
set_option maxRecDepth 20000 in
theorem k_401 : (Cond.instanceMethod ⟨"HeatMachines$Machine", "canReach", "(I)Z"⟩) ∈ ut := mu 401 rfl rfl
set_option maxRecDepth 20000 in
theorem k_402 : (Cond.selects "HeatMachines$Machine" ⟨"HeatMachines$Machine", "canReach", "(I)Z"⟩ ⟨"HeatMachines$Machine", "canReach", "(I)Z"⟩) ∈ ut := mu 402 rfl rfl
set_option maxRecDepth 20000 in
theorem k_403 : (Cond.code ⟨"HeatMachines$Machine", "canReach", "(I)Z"⟩ prog_5_method_4_code 2 (some .boolean)) ∈ ut := mu 403 rfl rfl
set_option maxRecDepth 20000 in
theorem k_404 : (Cond.methodLink "HeatMachines$Machine" 37 ⟨"HeatMachines$Machine", "hasRun", "(I)Z"⟩) ∈ ut := mu 404 rfl rfl
set_option maxRecDepth 20000 in
theorem k_405 : (Cond.static ⟨"HeatMachines$Machine", "hasRun", "(I)Z"⟩) ∈ ut := mu 405 rfl rfl
set_option maxRecDepth 20000 in
theorem k_406 : (Cond.code ⟨"HeatMachines$Machine", "hasRun", "(I)Z"⟩ prog_5_method_2_code 1 (some .boolean)) ∈ ut := mu 406 rfl rfl
set_option maxRecDepth 20000 in
theorem k_407 : (Cond.methodLink "HeatMachines$States" 43 ⟨"HeatMachines$States", "bindAll", "(LHeatMachines$House;I)V"⟩) ∈ ut := mu 407 rfl rfl
set_option maxRecDepth 20000 in
theorem k_409 : (Cond.instanceMethod ⟨"HeatMachines$States", "bindAll", "(LHeatMachines$House;I)V"⟩) ∈ ut := mu 409 rfl rfl
set_option maxRecDepth 20000 in
theorem k_410 : (Cond.code ⟨"HeatMachines$States", "bindAll", "(LHeatMachines$House;I)V"⟩ prog_7_method_3_code 5 none) ∈ ut := mu 410 rfl rfl
set_option maxRecDepth 20000 in
theorem k_411 : (Cond.methodLink "HeatMachines$States" 51 ⟨"HeatMachines$States", "digitOf", "(II)I"⟩) ∈ ut := mu 411 rfl rfl
set_option maxRecDepth 20000 in
theorem k_412 : (Cond.static ⟨"HeatMachines$States", "digitOf", "(II)I"⟩) ∈ ut := mu 412 rfl rfl
set_option maxRecDepth 20000 in
theorem k_413 : (Cond.code ⟨"HeatMachines$States", "digitOf", "(II)I"⟩ prog_7_method_5_code 2 (some .int)) ∈ ut := mu 413 rfl rfl
set_option maxRecDepth 20000 in
theorem k_414 : (Cond.methodLink "HeatMachines$States" 55 ⟨"HeatMachines$Machine", "hasRun", "(I)Z"⟩) ∈ ut := mu 414 rfl rfl
set_option maxRecDepth 20000 in
theorem k_415 : (Cond.methodLink "HeatMachines$States" 58 ⟨"HeatMachines$Machine", "isBound", "(I)Z"⟩) ∈ ut := mu 415 rfl rfl
set_option maxRecDepth 20000 in
theorem k_416 : (Cond.static ⟨"HeatMachines$Machine", "isBound", "(I)Z"⟩) ∈ ut := mu 416 rfl rfl
set_option maxRecDepth 20000 in
theorem k_417 : (Cond.code ⟨"HeatMachines$Machine", "isBound", "(I)Z"⟩ prog_5_method_3_code 1 (some .boolean)) ∈ ut := mu 417 rfl rfl
set_option maxRecDepth 20000 in
theorem k_418 : (Cond.methodLink "HeatMachines$States" 47 ⟨"HeatMachines$States", "followAll", "(LHeatMachines$House;I)V"⟩) ∈ ut := mu 418 rfl rfl
set_option maxRecDepth 20000 in
theorem k_420 : (Cond.instanceMethod ⟨"HeatMachines$States", "followAll", "(LHeatMachines$House;I)V"⟩) ∈ ut := mu 420 rfl rfl
set_option maxRecDepth 20000 in
theorem k_421 : (Cond.code ⟨"HeatMachines$States", "followAll", "(LHeatMachines$House;I)V"⟩ prog_7_method_4_code 8 none) ∈ ut := mu 421 rfl rfl
set_option maxRecDepth 20000 in
theorem k_422 : (Cond.methodLink "HeatMachines$States" 61 ⟨"HeatMachines$Machine", "digitAfter", "(IZ)I"⟩) ∈ ut := mu 422 rfl rfl
set_option maxRecDepth 20000 in
theorem k_423 : (Cond.instanceMethod ⟨"HeatMachines$Machine", "digitAfter", "(IZ)I"⟩) ∈ ut := mu 423 rfl rfl
set_option maxRecDepth 20000 in
theorem k_424 : (Cond.selects "HeatMachines$Machine" ⟨"HeatMachines$Machine", "digitAfter", "(IZ)I"⟩ ⟨"HeatMachines$Machine", "digitAfter", "(IZ)I"⟩) ∈ ut := mu 424 rfl rfl
set_option maxRecDepth 20000 in
theorem k_425 : (Cond.code ⟨"HeatMachines$Machine", "digitAfter", "(IZ)I"⟩ prog_5_method_5_code 3 (some .int)) ∈ ut := mu 425 rfl rfl
set_option maxRecDepth 20000 in
theorem k_426 : (Cond.methodLink "HeatMachines$Machine" 41 ⟨"HeatMachines$Machine", "isBound", "(I)Z"⟩) ∈ ut := mu 426 rfl rfl
set_option maxRecDepth 20000 in
theorem k_427 : (Cond.methodLink "HeatMachines$Planner" 67 ⟨"HeatMachines$Planner", "forgetUpTo", "(I)V"⟩) ∈ ut := mu 427 rfl rfl
set_option maxRecDepth 20000 in
theorem k_428 : (Cond.instanceMethod ⟨"HeatMachines$Planner", "forgetUpTo", "(I)V"⟩) ∈ ut := mu 428 rfl rfl
set_option maxRecDepth 20000 in
theorem k_429 : (Cond.selects "HeatMachines$Planner" ⟨"HeatMachines$Planner", "forgetUpTo", "(I)V"⟩ ⟨"HeatMachines$Planner", "forgetUpTo", "(I)V"⟩) ∈ ut := mu 429 rfl rfl
set_option maxRecDepth 20000 in
theorem k_430 : (Cond.code ⟨"HeatMachines$Planner", "forgetUpTo", "(I)V"⟩ prog_6_method_3_code 2 none) ∈ ut := mu 430 rfl rfl
set_option maxRecDepth 20000 in
theorem k_431 : (Cond.methodLink "HeatMachines$Planner" 71 ⟨"java/lang/Math", "max", "(II)I"⟩) ∈ ut := mu 431 rfl rfl
set_option maxRecDepth 20000 in
theorem k_432 : (Cond.methodLink "HeatMachinesLaw" 78 ⟨"HeatMachinesLaw", "row", "(LHeatMachines;IIII[J)I"⟩) ∈ ut := mu 432 rfl rfl
set_option maxRecDepth 20000 in
theorem k_433 : (Cond.static ⟨"HeatMachinesLaw", "row", "(LHeatMachines;IIII[J)I"⟩) ∈ ut := mu 433 rfl rfl
set_option maxRecDepth 20000 in
theorem k_434 : (Cond.codeWith ⟨"HeatMachinesLaw", "row", "(LHeatMachines;IIII[J)I"⟩ method_4_code 7 (some .int) [(0, 14, 17, 13), (0, 14, 21, 15)]) ∈ ut := mu 434 rfl rfl
set_option maxRecDepth 20000 in
theorem k_435 : (Cond.methodLink "HeatMachinesLaw" 17 ⟨"HeatMachines", "row", "(IIII)I"⟩) ∈ ut := mu 435 rfl rfl
set_option maxRecDepth 20000 in
theorem k_436 : (Cond.instanceMethod ⟨"HeatMachines", "row", "(IIII)I"⟩) ∈ ut := mu 436 rfl rfl
set_option maxRecDepth 20000 in
theorem k_437 : (Cond.selects "HeatMachines" ⟨"HeatMachines", "row", "(IIII)I"⟩ ⟨"HeatMachines", "row", "(IIII)I"⟩) ∈ ut := mu 437 rfl rfl
set_option maxRecDepth 20000 in
theorem k_438 : (Cond.code ⟨"HeatMachines", "row", "(IIII)I"⟩ prog_1_method_3_code 6 (some .int)) ∈ ut := mu 438 rfl rfl
set_option maxRecDepth 20000 in
theorem k_439 : (Cond.methodLink "HeatMachines" 73 ⟨"HeatMachines", "isMachine", "(I)Z"⟩) ∈ ut := mu 439 rfl rfl
set_option maxRecDepth 20000 in
theorem k_441 : (Cond.instanceMethod ⟨"HeatMachines", "isMachine", "(I)Z"⟩) ∈ ut := mu 441 rfl rfl
set_option maxRecDepth 20000 in
theorem k_442 : (Cond.code ⟨"HeatMachines", "isMachine", "(I)Z"⟩ prog_1_method_19_code 2 (some .boolean)) ∈ ut := mu 442 rfl rfl
set_option maxRecDepth 20000 in
theorem k_443 : (Cond.methodLink "HeatMachines" 77 ⟨"HeatMachines", "isWarmth", "(I)Z"⟩) ∈ ut := mu 443 rfl rfl
set_option maxRecDepth 20000 in
theorem k_444 : (Cond.static ⟨"HeatMachines", "isWarmth", "(I)Z"⟩) ∈ ut := mu 444 rfl rfl
set_option maxRecDepth 20000 in
theorem k_445 : (Cond.code ⟨"HeatMachines", "isWarmth", "(I)Z"⟩ prog_1_method_21_code 1 (some .boolean)) ∈ ut := mu 445 rfl rfl
set_option maxRecDepth 20000 in
theorem k_446 : (Cond.methodLink "HeatMachines" 89 ⟨"HeatMachines$Line", "hasRoomAt", "(I)Z"⟩) ∈ ut := mu 446 rfl rfl
set_option maxRecDepth 20000 in
theorem k_447 : (Cond.instanceMethod ⟨"HeatMachines$Line", "hasRoomAt", "(I)Z"⟩) ∈ ut := mu 447 rfl rfl
set_option maxRecDepth 20000 in
theorem k_448 : (Cond.selects "HeatMachines$Line" ⟨"HeatMachines$Line", "hasRoomAt", "(I)Z"⟩ ⟨"HeatMachines$Line", "hasRoomAt", "(I)Z"⟩) ∈ ut := mu 448 rfl rfl
set_option maxRecDepth 20000 in
theorem k_449 : (Cond.code ⟨"HeatMachines$Line", "hasRoomAt", "(I)Z"⟩ prog_4_method_2_code 2 (some .boolean)) ∈ ut := mu 449 rfl rfl
set_option maxRecDepth 20000 in
theorem k_450 : (Cond.methodLink "HeatMachines" 92 ⟨"HeatMachines$Line", "add", "(II)V"⟩) ∈ ut := mu 450 rfl rfl
set_option maxRecDepth 20000 in
theorem k_451 : (Cond.instanceMethod ⟨"HeatMachines$Line", "add", "(II)V"⟩) ∈ ut := mu 451 rfl rfl
set_option maxRecDepth 20000 in
theorem k_452 : (Cond.selects "HeatMachines$Line" ⟨"HeatMachines$Line", "add", "(II)V"⟩ ⟨"HeatMachines$Line", "add", "(II)V"⟩) ∈ ut := mu 452 rfl rfl
set_option maxRecDepth 20000 in
theorem k_453 : (Cond.code ⟨"HeatMachines$Line", "add", "(II)V"⟩ prog_4_method_3_code 3 none) ∈ ut := mu 453 rfl rfl
set_option maxRecDepth 20000 in
theorem k_454 : (Cond.methodLink "HeatMachines$Line" 28 ⟨"HeatMachines$Line", "hasRoomAt", "(I)Z"⟩) ∈ ut := mu 454 rfl rfl
set_option maxRecDepth 20000 in
theorem k_455 : (Cond.methodLink "HeatMachines" 99 ⟨"HeatMachines$Planner", "forgetUpTo", "(I)V"⟩) ∈ ut := mu 455 rfl rfl
set_option maxRecDepth 20000 in
theorem k_456 : (Cond.methodLink "HeatMachinesLaw" 82 ⟨"HeatMachinesLaw", "hour", "(LHeatMachines;III[J)I"⟩) ∈ ut := mu 456 rfl rfl
set_option maxRecDepth 20000 in
theorem k_457 : (Cond.static ⟨"HeatMachinesLaw", "hour", "(LHeatMachines;III[J)I"⟩) ∈ ut := mu 457 rfl rfl
set_option maxRecDepth 20000 in
theorem k_458 : (Cond.codeWith ⟨"HeatMachinesLaw", "hour", "(LHeatMachines;III[J)I"⟩ method_5_code 6 (some .int) [(0, 12, 15, 13), (0, 12, 19, 15)]) ∈ ut := mu 458 rfl rfl
set_option maxRecDepth 20000 in
theorem k_459 : (Cond.methodLink "HeatMachinesLaw" 21 ⟨"HeatMachines", "hour", "(III)I"⟩) ∈ ut := mu 459 rfl rfl
set_option maxRecDepth 20000 in
theorem k_460 : (Cond.instanceMethod ⟨"HeatMachines", "hour", "(III)I"⟩) ∈ ut := mu 460 rfl rfl
set_option maxRecDepth 20000 in
theorem k_461 : (Cond.selects "HeatMachines" ⟨"HeatMachines", "hour", "(III)I"⟩ ⟨"HeatMachines", "hour", "(III)I"⟩) ∈ ut := mu 461 rfl rfl
set_option maxRecDepth 20000 in
theorem k_462 : (Cond.code ⟨"HeatMachines", "hour", "(III)I"⟩ prog_1_method_4_code 5 (some .int)) ∈ ut := mu 462 rfl rfl
set_option maxRecDepth 20000 in
theorem k_463 : (Cond.methodLink "HeatMachines" 105 ⟨"HeatMachines", "isHour", "(I)Z"⟩) ∈ ut := mu 463 rfl rfl
set_option maxRecDepth 20000 in
theorem k_464 : (Cond.static ⟨"HeatMachines", "isHour", "(I)Z"⟩) ∈ ut := mu 464 rfl rfl
set_option maxRecDepth 20000 in
theorem k_465 : (Cond.code ⟨"HeatMachines", "isHour", "(I)Z"⟩ prog_1_method_20_code 1 (some .boolean)) ∈ ut := mu 465 rfl rfl
set_option maxRecDepth 20000 in
theorem k_466 : (Cond.fieldLink "HeatMachines" 108 "HeatMachines" "LEAST_FACT" "[I") ∈ ut := mu 466 rfl rfl
set_option maxRecDepth 20000 in
theorem k_468 : (Cond.fieldLink "HeatMachines" 111 "HeatMachines" "MOST_FACT" "[I") ∈ ut := mu 468 rfl rfl
set_option maxRecDepth 20000 in
theorem k_470 : (Cond.methodLink "HeatMachinesLaw" 85 ⟨"HeatMachinesLaw", "out", "(LHeatMachines;IIZ[J)I"⟩) ∈ ut := mu 470 rfl rfl
set_option maxRecDepth 20000 in
theorem k_471 : (Cond.static ⟨"HeatMachinesLaw", "out", "(LHeatMachines;IIZ[J)I"⟩) ∈ ut := mu 471 rfl rfl
set_option maxRecDepth 20000 in
theorem k_472 : (Cond.codeWith ⟨"HeatMachinesLaw", "out", "(LHeatMachines;IIZ[J)I"⟩ method_6_code 6 (some .int) [(0, 19, 22, 13), (0, 19, 26, 15)]) ∈ ut := mu 472 rfl rfl
set_option maxRecDepth 20000 in
theorem k_473 : (Cond.methodLink "HeatMachinesLaw" 24 ⟨"HeatMachines", "out", "(IIZ)Z"⟩) ∈ ut := mu 473 rfl rfl
set_option maxRecDepth 20000 in
theorem k_474 : (Cond.instanceMethod ⟨"HeatMachines", "out", "(IIZ)Z"⟩) ∈ ut := mu 474 rfl rfl
set_option maxRecDepth 20000 in
theorem k_475 : (Cond.selects "HeatMachines" ⟨"HeatMachines", "out", "(IIZ)Z"⟩ ⟨"HeatMachines", "out", "(IIZ)Z"⟩) ∈ ut := mu 475 rfl rfl
set_option maxRecDepth 20000 in
theorem k_476 : (Cond.code ⟨"HeatMachines", "out", "(IIZ)Z"⟩ prog_1_method_5_code 6 (some .boolean)) ∈ ut := mu 476 rfl rfl
set_option maxRecDepth 20000 in
theorem k_477 : (Cond.methodLink "HeatMachinesLaw" 89 ⟨"HeatMachinesLaw", "gives", "(LHeatMachines;III[J)I"⟩) ∈ ut := mu 477 rfl rfl
set_option maxRecDepth 20000 in
theorem k_478 : (Cond.static ⟨"HeatMachinesLaw", "gives", "(LHeatMachines;III[J)I"⟩) ∈ ut := mu 478 rfl rfl
set_option maxRecDepth 20000 in
theorem k_479 : (Cond.codeWith ⟨"HeatMachinesLaw", "gives", "(LHeatMachines;III[J)I"⟩ method_7_code 6 (some .int) [(0, 12, 15, 13)]) ∈ ut := mu 479 rfl rfl
set_option maxRecDepth 20000 in
theorem k_480 : (Cond.methodLink "HeatMachinesLaw" 28 ⟨"HeatMachines", "gives", "(III)I"⟩) ∈ ut := mu 480 rfl rfl
set_option maxRecDepth 20000 in
theorem k_481 : (Cond.instanceMethod ⟨"HeatMachines", "gives", "(III)I"⟩) ∈ ut := mu 481 rfl rfl
set_option maxRecDepth 20000 in
theorem k_482 : (Cond.selects "HeatMachines" ⟨"HeatMachines", "gives", "(III)I"⟩ ⟨"HeatMachines", "gives", "(III)I"⟩) ∈ ut := mu 482 rfl rfl
set_option maxRecDepth 20000 in
theorem k_483 : (Cond.code ⟨"HeatMachines", "gives", "(III)I"⟩ prog_1_method_6_code 5 (some .int)) ∈ ut := mu 483 rfl rfl
set_option maxRecDepth 20000 in
theorem k_484 : (Cond.methodLink "HeatMachines" 122 ⟨"HeatMachines$Line", "valueAt", "(IZ)I"⟩) ∈ ut := mu 484 rfl rfl
set_option maxRecDepth 20000 in
theorem k_485 : (Cond.methodLink "HeatMachinesLaw" 97 ⟨"HeatMachinesLaw", "planned", "(LHeatMachines;I[J)I"⟩) ∈ ut := mu 485 rfl rfl
set_option maxRecDepth 20000 in
theorem k_486 : (Cond.static ⟨"HeatMachinesLaw", "planned", "(LHeatMachines;I[J)I"⟩) ∈ ut := mu 486 rfl rfl
set_option maxRecDepth 20000 in
theorem k_487 : (Cond.codeWith ⟨"HeatMachinesLaw", "planned", "(LHeatMachines;I[J)I"⟩ method_8_code 4 (some .int) [(0, 9, 12, 13)]) ∈ ut := mu 487 rfl rfl
set_option maxRecDepth 20000 in
theorem k_488 : (Cond.methodLink "HeatMachinesLaw" 31 ⟨"HeatMachines", "planned", "(I)I"⟩) ∈ ut := mu 488 rfl rfl
set_option maxRecDepth 20000 in
theorem k_489 : (Cond.instanceMethod ⟨"HeatMachines", "planned", "(I)I"⟩) ∈ ut := mu 489 rfl rfl
set_option maxRecDepth 20000 in
theorem k_490 : (Cond.selects "HeatMachines" ⟨"HeatMachines", "planned", "(I)I"⟩ ⟨"HeatMachines", "planned", "(I)I"⟩) ∈ ut := mu 490 rfl rfl
set_option maxRecDepth 20000 in
theorem k_491 : (Cond.code ⟨"HeatMachines", "planned", "(I)I"⟩ prog_1_method_8_code 2 (some .int)) ∈ ut := mu 491 rfl rfl
set_option maxRecDepth 20000 in
theorem k_492 : (Cond.methodLink "HeatMachinesLaw" 101 ⟨"HeatMachinesLaw", "starts", "(LHeatMachines;I[J)I"⟩) ∈ ut := mu 492 rfl rfl
set_option maxRecDepth 20000 in
theorem k_493 : (Cond.static ⟨"HeatMachinesLaw", "starts", "(LHeatMachines;I[J)I"⟩) ∈ ut := mu 493 rfl rfl
set_option maxRecDepth 20000 in
theorem k_494 : (Cond.codeWith ⟨"HeatMachinesLaw", "starts", "(LHeatMachines;I[J)I"⟩ method_9_code 4 (some .int) [(0, 9, 12, 13)]) ∈ ut := mu 494 rfl rfl
set_option maxRecDepth 20000 in
theorem k_495 : (Cond.methodLink "HeatMachinesLaw" 35 ⟨"HeatMachines", "starts", "(I)I"⟩) ∈ ut := mu 495 rfl rfl
set_option maxRecDepth 20000 in
theorem k_496 : (Cond.instanceMethod ⟨"HeatMachines", "starts", "(I)I"⟩) ∈ ut := mu 496 rfl rfl
set_option maxRecDepth 20000 in
theorem k_497 : (Cond.selects "HeatMachines" ⟨"HeatMachines", "starts", "(I)I"⟩ ⟨"HeatMachines", "starts", "(I)I"⟩) ∈ ut := mu 497 rfl rfl
set_option maxRecDepth 20000 in
theorem k_498 : (Cond.code ⟨"HeatMachines", "starts", "(I)I"⟩ prog_1_method_9_code 2 (some .int)) ∈ ut := mu 498 rfl rfl
set_option maxRecDepth 20000 in
theorem k_499 : (Cond.methodLink "HeatMachines" 136 ⟨"HeatMachines$Planner", "hasPlan", "()Z"⟩) ∈ ut := mu 499 rfl rfl
set_option maxRecDepth 20000 in
theorem k_500 : (Cond.methodLink "HeatMachines" 140 ⟨"HeatMachines$Planner", "countStarts", "(I)I"⟩) ∈ ut := mu 500 rfl rfl
set_option maxRecDepth 20000 in
theorem k_501 : (Cond.instanceMethod ⟨"HeatMachines$Planner", "countStarts", "(I)I"⟩) ∈ ut := mu 501 rfl rfl
set_option maxRecDepth 20000 in
theorem k_502 : (Cond.selects "HeatMachines$Planner" ⟨"HeatMachines$Planner", "countStarts", "(I)I"⟩ ⟨"HeatMachines$Planner", "countStarts", "(I)I"⟩) ∈ ut := mu 502 rfl rfl
set_option maxRecDepth 20000 in
theorem k_503 : (Cond.code ⟨"HeatMachines$Planner", "countStarts", "(I)I"⟩ prog_6_method_7_code 5 (some .int)) ∈ ut := mu 503 rfl rfl
set_option maxRecDepth 20000 in
theorem k_504 : (Cond.methodLink "HeatMachinesLaw" 104 ⟨"HeatMachinesLaw", "run", "(LHeatMachines;I[J)I"⟩) ∈ ut := mu 504 rfl rfl
set_option maxRecDepth 20000 in
theorem k_505 : (Cond.static ⟨"HeatMachinesLaw", "run", "(LHeatMachines;I[J)I"⟩) ∈ ut := mu 505 rfl rfl
set_option maxRecDepth 20000 in
theorem k_506 : (Cond.codeWith ⟨"HeatMachinesLaw", "run", "(LHeatMachines;I[J)I"⟩ method_10_code 4 (some .int) [(0, 9, 12, 13)]) ∈ ut := mu 506 rfl rfl
set_option maxRecDepth 20000 in
theorem k_507 : (Cond.methodLink "HeatMachinesLaw" 38 ⟨"HeatMachines", "run", "(I)I"⟩) ∈ ut := mu 507 rfl rfl
set_option maxRecDepth 20000 in
theorem k_508 : (Cond.instanceMethod ⟨"HeatMachines", "run", "(I)I"⟩) ∈ ut := mu 508 rfl rfl
set_option maxRecDepth 20000 in
theorem k_509 : (Cond.selects "HeatMachines" ⟨"HeatMachines", "run", "(I)I"⟩ ⟨"HeatMachines", "run", "(I)I"⟩) ∈ ut := mu 509 rfl rfl
set_option maxRecDepth 20000 in
theorem k_510 : (Cond.code ⟨"HeatMachines", "run", "(I)I"⟩ prog_1_method_10_code 3 (some .int)) ∈ ut := mu 510 rfl rfl
set_option maxRecDepth 20000 in
theorem k_511 : (Cond.methodLink "HeatMachines" 144 ⟨"HeatMachines", "passHour", "(I)V"⟩) ∈ ut := mu 511 rfl rfl
set_option maxRecDepth 20000 in
theorem k_513 : (Cond.instanceMethod ⟨"HeatMachines", "passHour", "(I)V"⟩) ∈ ut := mu 513 rfl rfl
set_option maxRecDepth 20000 in
theorem k_514 : (Cond.code ⟨"HeatMachines", "passHour", "(I)V"⟩ prog_1_method_18_code 3 none) ∈ ut := mu 514 rfl rfl
set_option maxRecDepth 20000 in
theorem k_515 : (Cond.methodLink "HeatMachines" 167 ⟨"HeatMachines$Planner", "centsOf", "(III)J"⟩) ∈ ut := mu 515 rfl rfl
set_option maxRecDepth 20000 in
theorem k_516 : (Cond.methodLink "HeatMachines" 171 ⟨"HeatMachines$Planner", "heatOf", "(II)I"⟩) ∈ ut := mu 516 rfl rfl
set_option maxRecDepth 20000 in
theorem k_517 : (Cond.instanceMethod ⟨"HeatMachines$Planner", "heatOf", "(II)I"⟩) ∈ ut := mu 517 rfl rfl
set_option maxRecDepth 20000 in
theorem k_518 : (Cond.selects "HeatMachines$Planner" ⟨"HeatMachines$Planner", "heatOf", "(II)I"⟩ ⟨"HeatMachines$Planner", "heatOf", "(II)I"⟩) ∈ ut := mu 518 rfl rfl
set_option maxRecDepth 20000 in
theorem k_519 : (Cond.code ⟨"HeatMachines$Planner", "heatOf", "(II)I"⟩ prog_6_method_9_code 3 (some .int)) ∈ ut := mu 519 rfl rfl
set_option maxRecDepth 20000 in
theorem k_520 : (Cond.methodLink "HeatMachines" 175 ⟨"HeatMachines$Planner", "powerOf", "(II)I"⟩) ∈ ut := mu 520 rfl rfl
set_option maxRecDepth 20000 in
theorem k_521 : (Cond.instanceMethod ⟨"HeatMachines$Planner", "powerOf", "(II)I"⟩) ∈ ut := mu 521 rfl rfl
set_option maxRecDepth 20000 in
theorem k_522 : (Cond.selects "HeatMachines$Planner" ⟨"HeatMachines$Planner", "powerOf", "(II)I"⟩ ⟨"HeatMachines$Planner", "powerOf", "(II)I"⟩) ∈ ut := mu 522 rfl rfl
set_option maxRecDepth 20000 in
theorem k_523 : (Cond.code ⟨"HeatMachines$Planner", "powerOf", "(II)I"⟩ prog_6_method_10_code 3 (some .int)) ∈ ut := mu 523 rfl rfl
set_option maxRecDepth 20000 in
theorem k_524 : (Cond.methodLink "HeatMachines" 178 ⟨"HeatMachines$Planner", "advance", "()V"⟩) ∈ ut := mu 524 rfl rfl
set_option maxRecDepth 20000 in
theorem k_525 : (Cond.instanceMethod ⟨"HeatMachines$Planner", "advance", "()V"⟩) ∈ ut := mu 525 rfl rfl
set_option maxRecDepth 20000 in
theorem k_526 : (Cond.selects "HeatMachines$Planner" ⟨"HeatMachines$Planner", "advance", "()V"⟩ ⟨"HeatMachines$Planner", "advance", "()V"⟩) ∈ ut := mu 526 rfl rfl
set_option maxRecDepth 20000 in
theorem k_527 : (Cond.code ⟨"HeatMachines$Planner", "advance", "()V"⟩ prog_6_method_8_code 1 none) ∈ ut := mu 527 rfl rfl
set_option maxRecDepth 20000 in
theorem k_528 : (Cond.methodLink "HeatMachinesLaw" 107 ⟨"HeatMachinesLaw", "ran", "(LHeatMachines;I[J)I"⟩) ∈ ut := mu 528 rfl rfl
set_option maxRecDepth 20000 in
theorem k_529 : (Cond.static ⟨"HeatMachinesLaw", "ran", "(LHeatMachines;I[J)I"⟩) ∈ ut := mu 529 rfl rfl
set_option maxRecDepth 20000 in
theorem k_530 : (Cond.codeWith ⟨"HeatMachinesLaw", "ran", "(LHeatMachines;I[J)I"⟩ method_11_code 4 (some .int) [(0, 9, 12, 13)]) ∈ ut := mu 530 rfl rfl
set_option maxRecDepth 20000 in
theorem k_531 : (Cond.methodLink "HeatMachinesLaw" 41 ⟨"HeatMachines", "ran", "(I)I"⟩) ∈ ut := mu 531 rfl rfl
set_option maxRecDepth 20000 in
theorem k_532 : (Cond.instanceMethod ⟨"HeatMachines", "ran", "(I)I"⟩) ∈ ut := mu 532 rfl rfl
set_option maxRecDepth 20000 in
theorem k_533 : (Cond.selects "HeatMachines" ⟨"HeatMachines", "ran", "(I)I"⟩ ⟨"HeatMachines", "ran", "(I)I"⟩) ∈ ut := mu 533 rfl rfl
set_option maxRecDepth 20000 in
theorem k_534 : (Cond.code ⟨"HeatMachines", "ran", "(I)I"⟩ prog_1_method_11_code 2 (some .int)) ∈ ut := mu 534 rfl rfl
set_option maxRecDepth 20000 in
theorem k_535 : (Cond.methodLink "HeatMachinesLaw" 110 ⟨"HeatMachinesLaw", "told", "(LHeatMachines;I[J)I"⟩) ∈ ut := mu 535 rfl rfl
set_option maxRecDepth 20000 in
theorem k_536 : (Cond.static ⟨"HeatMachinesLaw", "told", "(LHeatMachines;I[J)I"⟩) ∈ ut := mu 536 rfl rfl
set_option maxRecDepth 20000 in
theorem k_537 : (Cond.codeWith ⟨"HeatMachinesLaw", "told", "(LHeatMachines;I[J)I"⟩ method_12_code 4 (some .int) [(0, 8, 11, 13)]) ∈ ut := mu 537 rfl rfl
set_option maxRecDepth 20000 in
theorem k_538 : (Cond.methodLink "HeatMachinesLaw" 44 ⟨"HeatMachines", "told", "(I)J"⟩) ∈ ut := mu 538 rfl rfl
set_option maxRecDepth 20000 in
theorem k_539 : (Cond.instanceMethod ⟨"HeatMachines", "told", "(I)J"⟩) ∈ ut := mu 539 rfl rfl
set_option maxRecDepth 20000 in
theorem k_540 : (Cond.selects "HeatMachines" ⟨"HeatMachines", "told", "(I)J"⟩ ⟨"HeatMachines", "told", "(I)J"⟩) ∈ ut := mu 540 rfl rfl
set_option maxRecDepth 20000 in
theorem k_541 : (Cond.code ⟨"HeatMachines", "told", "(I)J"⟩ prog_1_method_12_code 2 (some .long)) ∈ ut := mu 541 rfl rfl
set_option maxRecDepth 20000 in
theorem k_542 : (Cond.methodLink "HeatMachinesLaw" 113 ⟨"HeatMachinesLaw", "corner", "(LHeatMachines;II[J)I"⟩) ∈ ut := mu 542 rfl rfl
set_option maxRecDepth 20000 in
theorem k_543 : (Cond.static ⟨"HeatMachinesLaw", "corner", "(LHeatMachines;II[J)I"⟩) ∈ ut := mu 543 rfl rfl
set_option maxRecDepth 20000 in
theorem k_544 : (Cond.codeWith ⟨"HeatMachinesLaw", "corner", "(LHeatMachines;II[J)I"⟩ method_13_code 5 (some .int) [(0, 10, 13, 13), (0, 10, 17, 15)]) ∈ ut := mu 544 rfl rfl
set_option maxRecDepth 20000 in
theorem k_545 : (Cond.methodLink "HeatMachinesLaw" 48 ⟨"HeatMachines", "corner", "(II)I"⟩) ∈ ut := mu 545 rfl rfl
set_option maxRecDepth 20000 in
theorem k_546 : (Cond.instanceMethod ⟨"HeatMachines", "corner", "(II)I"⟩) ∈ ut := mu 546 rfl rfl
set_option maxRecDepth 20000 in
theorem k_547 : (Cond.selects "HeatMachines" ⟨"HeatMachines", "corner", "(II)I"⟩ ⟨"HeatMachines", "corner", "(II)I"⟩) ∈ ut := mu 547 rfl rfl
set_option maxRecDepth 20000 in
theorem k_548 : (Cond.code ⟨"HeatMachines", "corner", "(II)I"⟩ prog_1_method_13_code 3 (some .int)) ∈ ut := mu 548 rfl rfl
set_option maxRecDepth 20000 in
theorem k_549 : (Cond.methodLink "HeatMachinesLaw" 117 ⟨"HeatMachinesLaw", "curve", "(LHeatMachines;I[J)I"⟩) ∈ ut := mu 549 rfl rfl
set_option maxRecDepth 20000 in
theorem k_550 : (Cond.static ⟨"HeatMachinesLaw", "curve", "(LHeatMachines;I[J)I"⟩) ∈ ut := mu 550 rfl rfl
set_option maxRecDepth 20000 in
theorem k_551 : (Cond.codeWith ⟨"HeatMachinesLaw", "curve", "(LHeatMachines;I[J)I"⟩ method_14_code 4 (some .int) [(0, 9, 12, 13)]) ∈ ut := mu 551 rfl rfl
set_option maxRecDepth 20000 in
theorem k_552 : (Cond.methodLink "HeatMachinesLaw" 52 ⟨"HeatMachines", "curve", "(I)I"⟩) ∈ ut := mu 552 rfl rfl
set_option maxRecDepth 20000 in
theorem k_553 : (Cond.instanceMethod ⟨"HeatMachines", "curve", "(I)I"⟩) ∈ ut := mu 553 rfl rfl
set_option maxRecDepth 20000 in
theorem k_554 : (Cond.selects "HeatMachines" ⟨"HeatMachines", "curve", "(I)I"⟩ ⟨"HeatMachines", "curve", "(I)I"⟩) ∈ ut := mu 554 rfl rfl
set_option maxRecDepth 20000 in
theorem k_555 : (Cond.code ⟨"HeatMachines", "curve", "(I)I"⟩ prog_1_method_14_code 2 (some .int)) ∈ ut := mu 555 rfl rfl
set_option maxRecDepth 20000 in
theorem k_556 : (Cond.methodLink "HeatMachines" 147 ⟨"HeatMachines$Line", "heldValueAt", "(I)I"⟩) ∈ ut := mu 556 rfl rfl
set_option maxRecDepth 20000 in
theorem k_557 : (Cond.instanceMethod ⟨"HeatMachines$Line", "heldValueAt", "(I)I"⟩) ∈ ut := mu 557 rfl rfl
set_option maxRecDepth 20000 in
theorem k_558 : (Cond.selects "HeatMachines$Line" ⟨"HeatMachines$Line", "heldValueAt", "(I)I"⟩ ⟨"HeatMachines$Line", "heldValueAt", "(I)I"⟩) ∈ ut := mu 558 rfl rfl
set_option maxRecDepth 20000 in
theorem k_559 : (Cond.code ⟨"HeatMachines$Line", "heldValueAt", "(I)I"⟩ prog_4_method_5_code 2 (some .int)) ∈ ut := mu 559 rfl rfl
set_option maxRecDepth 20000 in
theorem k_560 : (Cond.methodLink "HeatMachines$Line" 36 ⟨"java/lang/Math", "min", "(II)I"⟩) ∈ ut := mu 560 rfl rfl
set_option maxRecDepth 20000 in
theorem k_561 : (Cond.static ⟨"java/lang/Math", "min", "(II)I"⟩) ∈ ut := mu 561 rfl rfl
set_option maxRecDepth 20000 in
theorem k_562 : (Cond.code ⟨"java/lang/Math", "min", "(II)I"⟩ prog_14_method_69_code 2 (some .int)) ∈ ut := mu 562 rfl rfl
set_option maxRecDepth 20000 in
theorem k_563 : (Cond.methodLink "HeatMachines$Line" 39 ⟨"HeatMachines$Line", "valueAt", "(IZ)I"⟩) ∈ ut := mu 563 rfl rfl
set_option maxRecDepth 20000 in
theorem k_564 : (Cond.methodLink "HeatMachinesLaw" 120 ⟨"HeatMachinesLaw", "ground", "(LHeatMachines;I[J)I"⟩) ∈ ut := mu 564 rfl rfl
set_option maxRecDepth 20000 in
theorem k_565 : (Cond.static ⟨"HeatMachinesLaw", "ground", "(LHeatMachines;I[J)I"⟩) ∈ ut := mu 565 rfl rfl
set_option maxRecDepth 20000 in
theorem k_566 : (Cond.codeWith ⟨"HeatMachinesLaw", "ground", "(LHeatMachines;I[J)I"⟩ method_15_code 4 (some .int) [(0, 9, 12, 13), (0, 9, 15, 15)]) ∈ ut := mu 566 rfl rfl
set_option maxRecDepth 20000 in
theorem k_567 : (Cond.methodLink "HeatMachinesLaw" 55 ⟨"HeatMachines", "ground", "(I)I"⟩) ∈ ut := mu 567 rfl rfl
set_option maxRecDepth 20000 in
theorem k_568 : (Cond.instanceMethod ⟨"HeatMachines", "ground", "(I)I"⟩) ∈ ut := mu 568 rfl rfl
set_option maxRecDepth 20000 in
theorem k_569 : (Cond.selects "HeatMachines" ⟨"HeatMachines", "ground", "(I)I"⟩ ⟨"HeatMachines", "ground", "(I)I"⟩) ∈ ut := mu 569 rfl rfl
set_option maxRecDepth 20000 in
theorem k_570 : (Cond.code ⟨"HeatMachines", "ground", "(I)I"⟩ prog_1_method_15_code 2 (some .int)) ∈ ut := mu 570 rfl rfl
set_option maxRecDepth 20000 in
theorem k_571 : (Cond.methodLink "HeatMachines" 150 ⟨"HeatMachines$Borehole", "lastNumber", "()I"⟩) ∈ ut := mu 571 rfl rfl
set_option maxRecDepth 20000 in
theorem k_572 : (Cond.instanceMethod ⟨"HeatMachines$Borehole", "lastNumber", "()I"⟩) ∈ ut := mu 572 rfl rfl
set_option maxRecDepth 20000 in
theorem k_573 : (Cond.selects "HeatMachines$Borehole" ⟨"HeatMachines$Borehole", "lastNumber", "()I"⟩ ⟨"HeatMachines$Borehole", "lastNumber", "()I"⟩) ∈ ut := mu 573 rfl rfl
set_option maxRecDepth 20000 in
theorem k_574 : (Cond.code ⟨"HeatMachines$Borehole", "lastNumber", "()I"⟩ prog_2_method_2_code 1 (some .int)) ∈ ut := mu 574 rfl rfl
set_option maxRecDepth 20000 in
theorem k_575 : (Cond.methodLink "HeatMachines" 155 ⟨"HeatMachines$Borehole", "add", "(I)V"⟩) ∈ ut := mu 575 rfl rfl
set_option maxRecDepth 20000 in
theorem k_576 : (Cond.instanceMethod ⟨"HeatMachines$Borehole", "add", "(I)V"⟩) ∈ ut := mu 576 rfl rfl
set_option maxRecDepth 20000 in
theorem k_577 : (Cond.selects "HeatMachines$Borehole" ⟨"HeatMachines$Borehole", "add", "(I)V"⟩ ⟨"HeatMachines$Borehole", "add", "(I)V"⟩) ∈ ut := mu 577 rfl rfl
set_option maxRecDepth 20000 in
theorem k_578 : (Cond.code ⟨"HeatMachines$Borehole", "add", "(I)V"⟩ prog_2_method_3_code 2 none) ∈ ut := mu 578 rfl rfl
set_option maxRecDepth 20000 in
theorem k_579 : (Cond.methodLink "HeatMachinesLaw" 123 ⟨"HeatMachinesLaw", "load", "(LHeatMachines;II[J)I"⟩) ∈ ut := mu 579 rfl rfl
set_option maxRecDepth 20000 in
theorem k_580 : (Cond.static ⟨"HeatMachinesLaw", "load", "(LHeatMachines;II[J)I"⟩) ∈ ut := mu 580 rfl rfl
set_option maxRecDepth 20000 in
theorem k_581 : (Cond.codeWith ⟨"HeatMachinesLaw", "load", "(LHeatMachines;II[J)I"⟩ method_16_code 5 (some .int) [(0, 10, 13, 13)]) ∈ ut := mu 581 rfl rfl
set_option maxRecDepth 20000 in
theorem k_582 : (Cond.methodLink "HeatMachinesLaw" 58 ⟨"HeatMachines", "load", "(II)I"⟩) ∈ ut := mu 582 rfl rfl
set_option maxRecDepth 20000 in
theorem k_583 : (Cond.instanceMethod ⟨"HeatMachines", "load", "(II)I"⟩) ∈ ut := mu 583 rfl rfl
set_option maxRecDepth 20000 in
theorem k_584 : (Cond.selects "HeatMachines" ⟨"HeatMachines", "load", "(II)I"⟩ ⟨"HeatMachines", "load", "(II)I"⟩) ∈ ut := mu 584 rfl rfl
set_option maxRecDepth 20000 in
theorem k_585 : (Cond.code ⟨"HeatMachines", "load", "(II)I"⟩ prog_1_method_16_code 4 (some .int)) ∈ ut := mu 585 rfl rfl
set_option maxRecDepth 20000 in
theorem k_586 : (Cond.methodLink "HeatMachinesLaw" 126 ⟨"HeatMachinesLaw", "fall", "(LHeatMachines;I[J)I"⟩) ∈ ut := mu 586 rfl rfl
set_option maxRecDepth 20000 in
theorem k_587 : (Cond.static ⟨"HeatMachinesLaw", "fall", "(LHeatMachines;I[J)I"⟩) ∈ ut := mu 587 rfl rfl
set_option maxRecDepth 20000 in
theorem k_588 : (Cond.codeWith ⟨"HeatMachinesLaw", "fall", "(LHeatMachines;I[J)I"⟩ method_17_code 4 (some .int) [(0, 8, 11, 13)]) ∈ ut := mu 588 rfl rfl
set_option maxRecDepth 20000 in
theorem k_589 : (Cond.methodLink "HeatMachinesLaw" 61 ⟨"HeatMachines", "fall", "(I)J"⟩) ∈ ut := mu 589 rfl rfl
set_option maxRecDepth 20000 in
theorem k_590 : (Cond.instanceMethod ⟨"HeatMachines", "fall", "(I)J"⟩) ∈ ut := mu 590 rfl rfl
set_option maxRecDepth 20000 in
theorem k_591 : (Cond.selects "HeatMachines" ⟨"HeatMachines", "fall", "(I)J"⟩ ⟨"HeatMachines", "fall", "(I)J"⟩) ∈ ut := mu 591 rfl rfl
set_option maxRecDepth 20000 in
theorem k_592 : (Cond.code ⟨"HeatMachines", "fall", "(I)J"⟩ prog_1_method_17_code 2 (some .long)) ∈ ut := mu 592 rfl rfl
set_option maxRecDepth 20000 in
theorem k_593 : (Cond.methodLink "HeatMachines" 160 ⟨"HeatMachines$Borehole", "fallIn", "(I)J"⟩) ∈ ut := mu 593 rfl rfl
set_option maxRecDepth 20000 in
theorem k_594 : (Cond.instanceMethod ⟨"HeatMachines$Borehole", "fallIn", "(I)J"⟩) ∈ ut := mu 594 rfl rfl
set_option maxRecDepth 20000 in
theorem k_595 : (Cond.selects "HeatMachines$Borehole" ⟨"HeatMachines$Borehole", "fallIn", "(I)J"⟩ ⟨"HeatMachines$Borehole", "fallIn", "(I)J"⟩) ∈ ut := mu 595 rfl rfl
set_option maxRecDepth 20000 in
theorem k_596 : (Cond.code ⟨"HeatMachines$Borehole", "fallIn", "(I)J"⟩ prog_2_method_4_code 6 (some .long)) ∈ ut := mu 596 rfl rfl
set_option maxRecDepth 20000 in
theorem k_597 : (Cond.methodLink "HeatMachines$Borehole" 22 ⟨"HeatMachines$Borehole", "numberAfter", "(I)I"⟩) ∈ ut := mu 597 rfl rfl
set_option maxRecDepth 20000 in
theorem k_599 : (Cond.instanceMethod ⟨"HeatMachines$Borehole", "numberAfter", "(I)I"⟩) ∈ ut := mu 599 rfl rfl
set_option maxRecDepth 20000 in
theorem k_600 : (Cond.code ⟨"HeatMachines$Borehole", "numberAfter", "(I)I"⟩ prog_2_method_5_code 2 (some .int)) ∈ ut := mu 600 rfl rfl
set_option maxRecDepth 20000 in
theorem k_601 : (Cond.methodLink "HeatMachines$Borehole" 26 ⟨"HeatMachines$Borehole", "lastNumber", "()I"⟩) ∈ ut := mu 601 rfl rfl
set_option maxRecDepth 20000 in
theorem k_602 : (Cond.classLink "HeatMachinesLaw" 65 "HeatMachinesModel") ∈ ut := mu 602 rfl rfl
set_option maxRecDepth 20000 in
theorem k_603 : (Cond.instantiable "HeatMachinesModel" 38) ∈ ut := mu 603 rfl rfl
set_option maxRecDepth 20000 in
theorem k_604 : (Cond.methodLink "HeatMachinesLaw" 67 ⟨"HeatMachinesModel", "<init>", "()V"⟩) ∈ ut := mu 604 rfl rfl
set_option maxRecDepth 20000 in
theorem k_605 : (Cond.instanceMethod ⟨"HeatMachinesModel", "<init>", "()V"⟩) ∈ ut := mu 605 rfl rfl
set_option maxRecDepth 20000 in
theorem k_606 : (Cond.code ⟨"HeatMachinesModel", "<init>", "()V"⟩ prog_9_method_1_code 2 none) ∈ ut := mu 606 rfl rfl
set_option maxRecDepth 20000 in
theorem k_607 : (Cond.methodLink "HeatMachinesModel" 1 ⟨"java/lang/Object", "<init>", "()V"⟩) ∈ ut := mu 607 rfl rfl
set_option maxRecDepth 20000 in
theorem k_608 : (Cond.fieldLink "HeatMachinesModel" 103 "HeatMachinesModel" "thrown" "I") ∈ ut := mu 608 rfl rfl
set_option maxRecDepth 20000 in
theorem k_609 : (Cond.fieldLink "HeatMachinesModel" 111 "HeatMachinesModel" "machines" "I") ∈ ut := mu 609 rfl rfl
set_option maxRecDepth 20000 in
theorem k_610 : (Cond.fieldLink "HeatMachinesModel" 7 "HeatMachinesModel" "leastRuns" "[I") ∈ ut := mu 610 rfl rfl
set_option maxRecDepth 20000 in
theorem k_611 : (Cond.fieldLink "HeatMachinesModel" 13 "HeatMachinesModel" "leastPauses" "[I") ∈ ut := mu 611 rfl rfl
set_option maxRecDepth 20000 in
theorem k_612 : (Cond.fieldLink "HeatMachinesModel" 16 "HeatMachinesModel" "cents" "[I") ∈ ut := mu 612 rfl rfl
set_option maxRecDepth 20000 in
theorem k_613 : (Cond.fieldLink "HeatMachinesModel" 19 "HeatMachinesModel" "rows" "[I") ∈ ut := mu 613 rfl rfl
set_option maxRecDepth 20000 in
theorem k_614 : (Cond.fieldLink "HeatMachinesModel" 22 "HeatMachinesModel" "rowOutside" "[I") ∈ ut := mu 614 rfl rfl
set_option maxRecDepth 20000 in
theorem k_615 : (Cond.fieldLink "HeatMachinesModel" 25 "HeatMachinesModel" "rowHeat" "[I") ∈ ut := mu 615 rfl rfl
set_option maxRecDepth 20000 in
theorem k_616 : (Cond.fieldLink "HeatMachinesModel" 28 "HeatMachinesModel" "rowPower" "[I") ∈ ut := mu 616 rfl rfl
set_option maxRecDepth 20000 in
theorem k_617 : (Cond.fieldLink "HeatMachinesModel" 31 "HeatMachinesModel" "outside" "[I") ∈ ut := mu 617 rfl rfl
set_option maxRecDepth 20000 in
theorem k_618 : (Cond.fieldLink "HeatMachinesModel" 34 "HeatMachinesModel" "prices" "[I") ∈ ut := mu 618 rfl rfl
set_option maxRecDepth 20000 in
theorem k_619 : (Cond.fieldLink "HeatMachinesModel" 37 "HeatMachinesModel" "needs" "[I") ∈ ut := mu 619 rfl rfl
set_option maxRecDepth 20000 in
theorem k_620 : (Cond.fieldLink "HeatMachinesModel" 40 "HeatMachinesModel" "isOut" "[Z") ∈ ut := mu 620 rfl rfl
set_option maxRecDepth 20000 in
theorem k_621 : (Cond.fieldLink "HeatMachinesModel" 114 "HeatMachinesModel" "over" "I") ∈ ut := mu 621 rfl rfl
set_option maxRecDepth 20000 in
theorem k_622 : (Cond.fieldLink "HeatMachinesModel" 44 "HeatMachinesModel" "ran" "[I") ∈ ut := mu 622 rfl rfl
set_option maxRecDepth 20000 in
theorem k_623 : (Cond.fieldLink "HeatMachinesModel" 47 "HeatMachinesModel" "sums" "[J") ∈ ut := mu 623 rfl rfl
set_option maxRecDepth 20000 in
theorem k_624 : (Cond.fieldLink "HeatMachinesModel" 99 "HeatMachinesModel" "stands" "I") ∈ ut := mu 624 rfl rfl
set_option maxRecDepth 20000 in
theorem k_625 : (Cond.fieldLink "HeatMachinesModel" 51 "HeatMachinesModel" "there" "[Z") ∈ ut := mu 625 rfl rfl
set_option maxRecDepth 20000 in
theorem k_626 : (Cond.fieldLink "HeatMachinesModel" 54 "HeatMachinesModel" "costs" "[J") ∈ ut := mu 626 rfl rfl
set_option maxRecDepth 20000 in
theorem k_627 : (Cond.fieldLink "HeatMachinesModel" 57 "HeatMachinesModel" "ranks" "[I") ∈ ut := mu 627 rfl rfl
set_option maxRecDepth 20000 in
theorem k_628 : (Cond.fieldLink "HeatMachinesModel" 60 "HeatMachinesModel" "thereNext" "[Z") ∈ ut := mu 628 rfl rfl
set_option maxRecDepth 20000 in
theorem k_629 : (Cond.fieldLink "HeatMachinesModel" 63 "HeatMachinesModel" "costsNext" "[J") ∈ ut := mu 629 rfl rfl
set_option maxRecDepth 20000 in
theorem k_630 : (Cond.fieldLink "HeatMachinesModel" 66 "HeatMachinesModel" "keysNext" "[I") ∈ ut := mu 630 rfl rfl
set_option maxRecDepth 20000 in
theorem k_631 : (Cond.fieldLink "HeatMachinesModel" 69 "HeatMachinesModel" "ways" "[I") ∈ ut := mu 631 rfl rfl
set_option maxRecDepth 20000 in
theorem k_632 : (Cond.fieldLink "HeatMachinesModel" 72 "HeatMachinesModel" "seen" "[Z") ∈ ut := mu 632 rfl rfl
set_option maxRecDepth 20000 in
theorem k_633 : (Cond.fieldLink "HeatMachinesModel" 75 "HeatMachinesModel" "places" "[I") ∈ ut := mu 633 rfl rfl
set_option maxRecDepth 20000 in
theorem k_634 : (Cond.fieldLink "HeatMachinesModel" 78 "HeatMachinesModel" "heatNow" "[I") ∈ ut := mu 634 rfl rfl
set_option maxRecDepth 20000 in
theorem k_635 : (Cond.fieldLink "HeatMachinesModel" 81 "HeatMachinesModel" "powerNow" "[I") ∈ ut := mu 635 rfl rfl
set_option maxRecDepth 20000 in
theorem k_636 : (Cond.fieldLink "HeatMachinesModel" 117 "HeatMachinesModel" "known" "Z") ∈ ut := mu 636 rfl rfl
set_option maxRecDepth 20000 in
theorem k_637 : (Cond.fieldLink "HeatMachinesModel" 159 "HeatMachinesModel" "found" "Z") ∈ ut := mu 637 rfl rfl
set_option maxRecDepth 20000 in
theorem k_638 : (Cond.fieldLink "HeatMachinesModel" 84 "HeatMachinesModel" "plan" "[I") ∈ ut := mu 638 rfl rfl
set_option maxRecDepth 20000 in
theorem k_639 : (Cond.fieldLink "HeatMachinesModel" 165 "HeatMachinesModel" "planCost" "J") ∈ ut := mu 639 rfl rfl
set_option maxRecDepth 20000 in
theorem k_640 : (Cond.fieldLink "HeatMachinesModel" 174 "HeatMachinesModel" "corners" "I") ∈ ut := mu 640 rfl rfl
set_option maxRecDepth 20000 in
theorem k_641 : (Cond.fieldLink "HeatMachinesModel" 87 "HeatMachinesModel" "cornerAt" "[I") ∈ ut := mu 641 rfl rfl
set_option maxRecDepth 20000 in
theorem k_642 : (Cond.fieldLink "HeatMachinesModel" 90 "HeatMachinesModel" "cornerWater" "[I") ∈ ut := mu 642 rfl rfl
set_option maxRecDepth 20000 in
theorem k_643 : (Cond.fieldLink "HeatMachinesModel" 177 "HeatMachinesModel" "table" "I") ∈ ut := mu 643 rfl rfl
set_option maxRecDepth 20000 in
theorem k_644 : (Cond.fieldLink "HeatMachinesModel" 93 "HeatMachinesModel" "grounds" "[I") ∈ ut := mu 644 rfl rfl
set_option maxRecDepth 20000 in
theorem k_645 : (Cond.fieldLink "HeatMachinesModel" 96 "HeatMachinesModel" "loads" "[I") ∈ ut := mu 645 rfl rfl
set_option maxRecDepth 20000 in
theorem k_723 : (Cond.methodLink "HeatMachinesLaw" 74 ⟨"HeatMachinesModel", "thrown", "()I"⟩) ∈ ut := mu 723 rfl rfl
set_option maxRecDepth 20000 in
theorem k_724 : (Cond.instanceMethod ⟨"HeatMachinesModel", "thrown", "()I"⟩) ∈ ut := mu 724 rfl rfl
set_option maxRecDepth 20000 in
theorem k_725 : (Cond.selects "HeatMachinesModel" ⟨"HeatMachinesModel", "thrown", "()I"⟩ ⟨"HeatMachinesModel", "thrown", "()I"⟩) ∈ ut := mu 725 rfl rfl
set_option maxRecDepth 20000 in
theorem k_726 : (Cond.code ⟨"HeatMachinesModel", "thrown", "()I"⟩ prog_9_method_2_code 1 (some .int)) ∈ ut := mu 726 rfl rfl
set_option maxRecDepth 20000 in
theorem k_727 : (Cond.methodLink "HeatMachinesLaw" 73 ⟨"HeatMachinesModel", "machine", "(III)I"⟩) ∈ ut := mu 727 rfl rfl
set_option maxRecDepth 20000 in
theorem k_728 : (Cond.instanceMethod ⟨"HeatMachinesModel", "machine", "(III)I"⟩) ∈ ut := mu 728 rfl rfl
set_option maxRecDepth 20000 in
theorem k_729 : (Cond.selects "HeatMachinesModel" ⟨"HeatMachinesModel", "machine", "(III)I"⟩ ⟨"HeatMachinesModel", "machine", "(III)I"⟩) ∈ ut := mu 729 rfl rfl
set_option maxRecDepth 20000 in
theorem k_730 : (Cond.code ⟨"HeatMachinesModel", "machine", "(III)I"⟩ prog_9_method_4_code 4 (some .int)) ∈ ut := mu 730 rfl rfl
set_option maxRecDepth 20000 in
theorem k_731 : (Cond.methodLink "HeatMachinesModel" 106 ⟨"HeatMachinesModel", "in", "(III)Z"⟩) ∈ ut := mu 731 rfl rfl
set_option maxRecDepth 20000 in
theorem k_732 : (Cond.static ⟨"HeatMachinesModel", "in", "(III)Z"⟩) ∈ ut := mu 732 rfl rfl
set_option maxRecDepth 20000 in
theorem k_733 : (Cond.code ⟨"HeatMachinesModel", "in", "(III)Z"⟩ prog_9_method_3_code 3 (some .boolean)) ∈ ut := mu 733 rfl rfl
set_option maxRecDepth 20000 in
theorem k_734 : (Cond.constant "HeatMachinesModel" 110 (100000)) ∈ ut := mu 734 rfl rfl
set_option maxRecDepth 20000 in
theorem k_735 : (Cond.methodLink "HeatMachinesLaw" 81 ⟨"HeatMachinesModel", "row", "(IIII)I"⟩) ∈ ut := mu 735 rfl rfl
set_option maxRecDepth 20000 in
theorem k_736 : (Cond.instanceMethod ⟨"HeatMachinesModel", "row", "(IIII)I"⟩) ∈ ut := mu 736 rfl rfl
set_option maxRecDepth 20000 in
theorem k_737 : (Cond.selects "HeatMachinesModel" ⟨"HeatMachinesModel", "row", "(IIII)I"⟩ ⟨"HeatMachinesModel", "row", "(IIII)I"⟩) ∈ ut := mu 737 rfl rfl
set_option maxRecDepth 20000 in
theorem k_738 : (Cond.code ⟨"HeatMachinesModel", "row", "(IIII)I"⟩ prog_9_method_6_code 7 (some .int)) ∈ ut := mu 738 rfl rfl
set_option maxRecDepth 20000 in
theorem k_739 : (Cond.methodLink "HeatMachinesModel" 121 ⟨"HeatMachinesModel", "isMachine", "(I)Z"⟩) ∈ ut := mu 739 rfl rfl
set_option maxRecDepth 20000 in
theorem k_741 : (Cond.instanceMethod ⟨"HeatMachinesModel", "isMachine", "(I)Z"⟩) ∈ ut := mu 741 rfl rfl
set_option maxRecDepth 20000 in
theorem k_742 : (Cond.code ⟨"HeatMachinesModel", "isMachine", "(I)Z"⟩ prog_9_method_5_code 2 (some .boolean)) ∈ ut := mu 742 rfl rfl
set_option maxRecDepth 20000 in
theorem k_743 : (Cond.methodLink "HeatMachinesLaw" 84 ⟨"HeatMachinesModel", "hour", "(III)I"⟩) ∈ ut := mu 743 rfl rfl
set_option maxRecDepth 20000 in
theorem k_744 : (Cond.instanceMethod ⟨"HeatMachinesModel", "hour", "(III)I"⟩) ∈ ut := mu 744 rfl rfl
set_option maxRecDepth 20000 in
theorem k_745 : (Cond.selects "HeatMachinesModel" ⟨"HeatMachinesModel", "hour", "(III)I"⟩ ⟨"HeatMachinesModel", "hour", "(III)I"⟩) ∈ ut := mu 745 rfl rfl
set_option maxRecDepth 20000 in
theorem k_746 : (Cond.code ⟨"HeatMachinesModel", "hour", "(III)I"⟩ prog_9_method_7_code 6 (some .int)) ∈ ut := mu 746 rfl rfl
set_option maxRecDepth 20000 in
theorem k_747 : (Cond.methodLink "HeatMachinesLaw" 88 ⟨"HeatMachinesModel", "out", "(IIZ)Z"⟩) ∈ ut := mu 747 rfl rfl
set_option maxRecDepth 20000 in
theorem k_748 : (Cond.instanceMethod ⟨"HeatMachinesModel", "out", "(IIZ)Z"⟩) ∈ ut := mu 748 rfl rfl
set_option maxRecDepth 20000 in
theorem k_749 : (Cond.selects "HeatMachinesModel" ⟨"HeatMachinesModel", "out", "(IIZ)Z"⟩ ⟨"HeatMachinesModel", "out", "(IIZ)Z"⟩) ∈ ut := mu 749 rfl rfl
set_option maxRecDepth 20000 in
theorem k_750 : (Cond.code ⟨"HeatMachinesModel", "out", "(IIZ)Z"⟩ prog_9_method_8_code 5 (some .boolean)) ∈ ut := mu 750 rfl rfl
set_option maxRecDepth 20000 in
theorem k_751 : (Cond.methodLink "HeatMachinesLaw" 91 ⟨"HeatMachinesModel", "gives", "(III)I"⟩) ∈ ut := mu 751 rfl rfl
set_option maxRecDepth 20000 in
theorem k_752 : (Cond.instanceMethod ⟨"HeatMachinesModel", "gives", "(III)I"⟩) ∈ ut := mu 752 rfl rfl
set_option maxRecDepth 20000 in
theorem k_753 : (Cond.selects "HeatMachinesModel" ⟨"HeatMachinesModel", "gives", "(III)I"⟩ ⟨"HeatMachinesModel", "gives", "(III)I"⟩) ∈ ut := mu 753 rfl rfl
set_option maxRecDepth 20000 in
theorem k_754 : (Cond.code ⟨"HeatMachinesModel", "gives", "(III)I"⟩ prog_9_method_11_code 4 (some .int)) ∈ ut := mu 754 rfl rfl
set_option maxRecDepth 20000 in
theorem k_755 : (Cond.methodLink "HeatMachinesModel" 129 ⟨"HeatMachinesModel", "given", "(IIZ)I"⟩) ∈ ut := mu 755 rfl rfl
set_option maxRecDepth 20000 in
theorem k_757 : (Cond.instanceMethod ⟨"HeatMachinesModel", "given", "(IIZ)I"⟩) ∈ ut := mu 757 rfl rfl
set_option maxRecDepth 20000 in
theorem k_758 : (Cond.code ⟨"HeatMachinesModel", "given", "(IIZ)I"⟩ prog_9_method_10_code 7 (some .int)) ∈ ut := mu 758 rfl rfl
set_option maxRecDepth 20000 in
theorem k_759 : (Cond.methodLink "HeatMachinesModel" 125 ⟨"HeatMachinesModel", "quotient", "(JJZ)J"⟩) ∈ ut := mu 759 rfl rfl
set_option maxRecDepth 20000 in
theorem k_760 : (Cond.static ⟨"HeatMachinesModel", "quotient", "(JJZ)J"⟩) ∈ ut := mu 760 rfl rfl
set_option maxRecDepth 20000 in
theorem k_761 : (Cond.code ⟨"HeatMachinesModel", "quotient", "(JJZ)J"⟩ prog_9_method_9_code 9 (some .long)) ∈ ut := mu 761 rfl rfl
set_option maxRecDepth 20000 in
theorem k_762 : (Cond.methodLink "HeatMachinesLaw" 96 ⟨"HeatMachinesModel", "cost", "()J"⟩) ∈ ut := mu 762 rfl rfl
set_option maxRecDepth 20000 in
theorem k_763 : (Cond.instanceMethod ⟨"HeatMachinesModel", "cost", "()J"⟩) ∈ ut := mu 763 rfl rfl
set_option maxRecDepth 20000 in
theorem k_764 : (Cond.selects "HeatMachinesModel" ⟨"HeatMachinesModel", "cost", "()J"⟩ ⟨"HeatMachinesModel", "cost", "()J"⟩) ∈ ut := mu 764 rfl rfl
set_option maxRecDepth 20000 in
theorem k_765 : (Cond.code ⟨"HeatMachinesModel", "cost", "()J"⟩ prog_9_method_21_code 1 (some .long)) ∈ ut := mu 765 rfl rfl
set_option maxRecDepth 20000 in
theorem k_766 : (Cond.methodLink "HeatMachinesModel" 169 ⟨"HeatMachinesModel", "find", "()Z"⟩) ∈ ut := mu 766 rfl rfl
set_option maxRecDepth 20000 in
theorem k_768 : (Cond.instanceMethod ⟨"HeatMachinesModel", "find", "()Z"⟩) ∈ ut := mu 768 rfl rfl
set_option maxRecDepth 20000 in
theorem k_769 : (Cond.code ⟨"HeatMachinesModel", "find", "()Z"⟩ prog_9_method_19_code 1 (some .boolean)) ∈ ut := mu 769 rfl rfl
set_option maxRecDepth 20000 in
theorem k_770 : (Cond.methodLink "HeatMachinesModel" 155 ⟨"HeatMachinesModel", "search", "()Z"⟩) ∈ ut := mu 770 rfl rfl
set_option maxRecDepth 20000 in
theorem k_772 : (Cond.instanceMethod ⟨"HeatMachinesModel", "search", "()Z"⟩) ∈ ut := mu 772 rfl rfl
set_option maxRecDepth 20000 in
theorem k_773 : (Cond.code ⟨"HeatMachinesModel", "search", "()Z"⟩ prog_9_method_20_code 4 (some .boolean)) ∈ ut := mu 773 rfl rfl
set_option maxRecDepth 20000 in
theorem k_774 : (Cond.methodLink "HeatMachinesModel" 162 ⟨"HeatMachinesModel", "hourMore", "(I)V"⟩) ∈ ut := mu 774 rfl rfl
set_option maxRecDepth 20000 in
theorem k_776 : (Cond.instanceMethod ⟨"HeatMachinesModel", "hourMore", "(I)V"⟩) ∈ ut := mu 776 rfl rfl
set_option maxRecDepth 20000 in
theorem k_777 : (Cond.code ⟨"HeatMachinesModel", "hourMore", "(I)V"⟩ prog_9_method_18_code 8 none) ∈ ut := mu 777 rfl rfl
set_option maxRecDepth 20000 in
theorem k_778 : (Cond.methodLink "HeatMachinesModel" 141 ⟨"HeatMachinesModel", "look", "(I)V"⟩) ∈ ut := mu 778 rfl rfl
set_option maxRecDepth 20000 in
theorem k_780 : (Cond.instanceMethod ⟨"HeatMachinesModel", "look", "(I)V"⟩) ∈ ut := mu 780 rfl rfl
set_option maxRecDepth 20000 in
theorem k_781 : (Cond.code ⟨"HeatMachinesModel", "look", "(I)V"⟩ prog_9_method_14_code 3 none) ∈ ut := mu 781 rfl rfl
set_option maxRecDepth 20000 in
theorem k_782 : (Cond.methodLink "HeatMachinesModel" 145 ⟨"HeatMachinesModel", "may", "(III)Z"⟩) ∈ ut := mu 782 rfl rfl
set_option maxRecDepth 20000 in
theorem k_784 : (Cond.instanceMethod ⟨"HeatMachinesModel", "may", "(III)Z"⟩) ∈ ut := mu 784 rfl rfl
set_option maxRecDepth 20000 in
theorem k_785 : (Cond.code ⟨"HeatMachinesModel", "may", "(III)Z"⟩ prog_9_method_15_code 15 (some .boolean)) ∈ ut := mu 785 rfl rfl
set_option maxRecDepth 20000 in
theorem k_786 : (Cond.methodLink "HeatMachinesModel" 133 ⟨"HeatMachinesModel", "standOf", "(II)I"⟩) ∈ ut := mu 786 rfl rfl
set_option maxRecDepth 20000 in
theorem k_787 : (Cond.static ⟨"HeatMachinesModel", "standOf", "(II)I"⟩) ∈ ut := mu 787 rfl rfl
set_option maxRecDepth 20000 in
theorem k_788 : (Cond.code ⟨"HeatMachinesModel", "standOf", "(II)I"⟩ prog_9_method_12_code 2 (some .int)) ∈ ut := mu 788 rfl rfl
set_option maxRecDepth 20000 in
theorem k_789 : (Cond.methodLink "HeatMachinesModel" 137 ⟨"HeatMachinesModel", "runs", "(II)Z"⟩) ∈ ut := mu 789 rfl rfl
set_option maxRecDepth 20000 in
theorem k_790 : (Cond.static ⟨"HeatMachinesModel", "runs", "(II)Z"⟩) ∈ ut := mu 790 rfl rfl
set_option maxRecDepth 20000 in
theorem k_791 : (Cond.code ⟨"HeatMachinesModel", "runs", "(II)Z"⟩ prog_9_method_13_code 2 (some .boolean)) ∈ ut := mu 791 rfl rfl
set_option maxRecDepth 20000 in
theorem k_792 : (Cond.methodLink "HeatMachinesModel" 148 ⟨"HeatMachinesModel", "behind", "(II)I"⟩) ∈ ut := mu 792 rfl rfl
set_option maxRecDepth 20000 in
theorem k_794 : (Cond.instanceMethod ⟨"HeatMachinesModel", "behind", "(II)I"⟩) ∈ ut := mu 794 rfl rfl
set_option maxRecDepth 20000 in
theorem k_795 : (Cond.code ⟨"HeatMachinesModel", "behind", "(II)I"⟩ prog_9_method_16_code 8 (some .int)) ∈ ut := mu 795 rfl rfl
set_option maxRecDepth 20000 in
theorem k_796 : (Cond.methodLink "HeatMachinesModel" 151 ⟨"HeatMachinesModel", "costOf", "(III)J"⟩) ∈ ut := mu 796 rfl rfl
set_option maxRecDepth 20000 in
theorem k_798 : (Cond.instanceMethod ⟨"HeatMachinesModel", "costOf", "(III)J"⟩) ∈ ut := mu 798 rfl rfl
set_option maxRecDepth 20000 in
theorem k_799 : (Cond.code ⟨"HeatMachinesModel", "costOf", "(III)J"⟩ prog_9_method_17_code 8 (some .long)) ∈ ut := mu 799 rfl rfl
set_option maxRecDepth 20000 in
theorem k_800 : (Cond.constantLong "HeatMachinesModel" 172 (-1)) ∈ ut := mu 800 rfl rfl
set_option maxRecDepth 20000 in
theorem k_801 : (Cond.methodLink "HeatMachinesLaw" 100 ⟨"HeatMachinesModel", "planned", "(I)I"⟩) ∈ ut := mu 801 rfl rfl
set_option maxRecDepth 20000 in
theorem k_802 : (Cond.instanceMethod ⟨"HeatMachinesModel", "planned", "(I)I"⟩) ∈ ut := mu 802 rfl rfl
set_option maxRecDepth 20000 in
theorem k_803 : (Cond.selects "HeatMachinesModel" ⟨"HeatMachinesModel", "planned", "(I)I"⟩ ⟨"HeatMachinesModel", "planned", "(I)I"⟩) ∈ ut := mu 803 rfl rfl
set_option maxRecDepth 20000 in
theorem k_804 : (Cond.code ⟨"HeatMachinesModel", "planned", "(I)I"⟩ prog_9_method_22_code 2 (some .int)) ∈ ut := mu 804 rfl rfl
set_option maxRecDepth 20000 in
theorem k_805 : (Cond.methodLink "HeatMachinesLaw" 103 ⟨"HeatMachinesModel", "starts", "(I)I"⟩) ∈ ut := mu 805 rfl rfl
set_option maxRecDepth 20000 in
theorem k_806 : (Cond.instanceMethod ⟨"HeatMachinesModel", "starts", "(I)I"⟩) ∈ ut := mu 806 rfl rfl
set_option maxRecDepth 20000 in
theorem k_807 : (Cond.selects "HeatMachinesModel" ⟨"HeatMachinesModel", "starts", "(I)I"⟩ ⟨"HeatMachinesModel", "starts", "(I)I"⟩) ∈ ut := mu 807 rfl rfl
set_option maxRecDepth 20000 in
theorem k_808 : (Cond.code ⟨"HeatMachinesModel", "starts", "(I)I"⟩ prog_9_method_23_code 5 (some .int)) ∈ ut := mu 808 rfl rfl
set_option maxRecDepth 20000 in
theorem k_809 : (Cond.methodLink "HeatMachinesLaw" 106 ⟨"HeatMachinesModel", "run", "(I)I"⟩) ∈ ut := mu 809 rfl rfl
set_option maxRecDepth 20000 in
theorem k_810 : (Cond.instanceMethod ⟨"HeatMachinesModel", "run", "(I)I"⟩) ∈ ut := mu 810 rfl rfl
set_option maxRecDepth 20000 in
theorem k_811 : (Cond.selects "HeatMachinesModel" ⟨"HeatMachinesModel", "run", "(I)I"⟩ ⟨"HeatMachinesModel", "run", "(I)I"⟩) ∈ ut := mu 811 rfl rfl
set_option maxRecDepth 20000 in
theorem k_812 : (Cond.code ⟨"HeatMachinesModel", "run", "(I)I"⟩ prog_9_method_24_code 5 (some .int)) ∈ ut := mu 812 rfl rfl
set_option maxRecDepth 20000 in
theorem k_813 : (Cond.methodLink "HeatMachinesLaw" 109 ⟨"HeatMachinesModel", "ran", "(I)I"⟩) ∈ ut := mu 813 rfl rfl
set_option maxRecDepth 20000 in
theorem k_814 : (Cond.instanceMethod ⟨"HeatMachinesModel", "ran", "(I)I"⟩) ∈ ut := mu 814 rfl rfl
set_option maxRecDepth 20000 in
theorem k_815 : (Cond.selects "HeatMachinesModel" ⟨"HeatMachinesModel", "ran", "(I)I"⟩ ⟨"HeatMachinesModel", "ran", "(I)I"⟩) ∈ ut := mu 815 rfl rfl
set_option maxRecDepth 20000 in
theorem k_816 : (Cond.code ⟨"HeatMachinesModel", "ran", "(I)I"⟩ prog_9_method_25_code 2 (some .int)) ∈ ut := mu 816 rfl rfl
set_option maxRecDepth 20000 in
theorem k_817 : (Cond.methodLink "HeatMachinesLaw" 112 ⟨"HeatMachinesModel", "told", "(I)J"⟩) ∈ ut := mu 817 rfl rfl
set_option maxRecDepth 20000 in
theorem k_818 : (Cond.instanceMethod ⟨"HeatMachinesModel", "told", "(I)J"⟩) ∈ ut := mu 818 rfl rfl
set_option maxRecDepth 20000 in
theorem k_819 : (Cond.selects "HeatMachinesModel" ⟨"HeatMachinesModel", "told", "(I)J"⟩ ⟨"HeatMachinesModel", "told", "(I)J"⟩) ∈ ut := mu 819 rfl rfl
set_option maxRecDepth 20000 in
theorem k_820 : (Cond.code ⟨"HeatMachinesModel", "told", "(I)J"⟩ prog_9_method_26_code 2 (some .long)) ∈ ut := mu 820 rfl rfl
set_option maxRecDepth 20000 in
theorem k_821 : (Cond.methodLink "HeatMachinesLaw" 116 ⟨"HeatMachinesModel", "corner", "(II)I"⟩) ∈ ut := mu 821 rfl rfl
set_option maxRecDepth 20000 in
theorem k_822 : (Cond.instanceMethod ⟨"HeatMachinesModel", "corner", "(II)I"⟩) ∈ ut := mu 822 rfl rfl
set_option maxRecDepth 20000 in
theorem k_823 : (Cond.selects "HeatMachinesModel" ⟨"HeatMachinesModel", "corner", "(II)I"⟩ ⟨"HeatMachinesModel", "corner", "(II)I"⟩) ∈ ut := mu 823 rfl rfl
set_option maxRecDepth 20000 in
theorem k_824 : (Cond.code ⟨"HeatMachinesModel", "corner", "(II)I"⟩ prog_9_method_27_code 3 (some .int)) ∈ ut := mu 824 rfl rfl
set_option maxRecDepth 20000 in
theorem k_825 : (Cond.methodLink "HeatMachinesLaw" 119 ⟨"HeatMachinesModel", "curve", "(I)I"⟩) ∈ ut := mu 825 rfl rfl
set_option maxRecDepth 20000 in
theorem k_826 : (Cond.instanceMethod ⟨"HeatMachinesModel", "curve", "(I)I"⟩) ∈ ut := mu 826 rfl rfl
set_option maxRecDepth 20000 in
theorem k_827 : (Cond.selects "HeatMachinesModel" ⟨"HeatMachinesModel", "curve", "(I)I"⟩ ⟨"HeatMachinesModel", "curve", "(I)I"⟩) ∈ ut := mu 827 rfl rfl
set_option maxRecDepth 20000 in
theorem k_828 : (Cond.code ⟨"HeatMachinesModel", "curve", "(I)I"⟩ prog_9_method_28_code 5 (some .int)) ∈ ut := mu 828 rfl rfl
set_option maxRecDepth 20000 in
theorem k_829 : (Cond.methodLink "HeatMachinesLaw" 122 ⟨"HeatMachinesModel", "ground", "(I)I"⟩) ∈ ut := mu 829 rfl rfl
set_option maxRecDepth 20000 in
theorem k_830 : (Cond.instanceMethod ⟨"HeatMachinesModel", "ground", "(I)I"⟩) ∈ ut := mu 830 rfl rfl
set_option maxRecDepth 20000 in
theorem k_831 : (Cond.selects "HeatMachinesModel" ⟨"HeatMachinesModel", "ground", "(I)I"⟩ ⟨"HeatMachinesModel", "ground", "(I)I"⟩) ∈ ut := mu 831 rfl rfl
set_option maxRecDepth 20000 in
theorem k_832 : (Cond.code ⟨"HeatMachinesModel", "ground", "(I)I"⟩ prog_9_method_29_code 2 (some .int)) ∈ ut := mu 832 rfl rfl
set_option maxRecDepth 20000 in
theorem k_833 : (Cond.methodLink "HeatMachinesLaw" 125 ⟨"HeatMachinesModel", "load", "(II)I"⟩) ∈ ut := mu 833 rfl rfl
set_option maxRecDepth 20000 in
theorem k_834 : (Cond.instanceMethod ⟨"HeatMachinesModel", "load", "(II)I"⟩) ∈ ut := mu 834 rfl rfl
set_option maxRecDepth 20000 in
theorem k_835 : (Cond.selects "HeatMachinesModel" ⟨"HeatMachinesModel", "load", "(II)I"⟩ ⟨"HeatMachinesModel", "load", "(II)I"⟩) ∈ ut := mu 835 rfl rfl
set_option maxRecDepth 20000 in
theorem k_836 : (Cond.code ⟨"HeatMachinesModel", "load", "(II)I"⟩ prog_9_method_30_code 4 (some .int)) ∈ ut := mu 836 rfl rfl
set_option maxRecDepth 20000 in
theorem k_837 : (Cond.methodLink "HeatMachinesLaw" 128 ⟨"HeatMachinesModel", "fall", "(I)J"⟩) ∈ ut := mu 837 rfl rfl
set_option maxRecDepth 20000 in
theorem k_838 : (Cond.instanceMethod ⟨"HeatMachinesModel", "fall", "(I)J"⟩) ∈ ut := mu 838 rfl rfl
set_option maxRecDepth 20000 in
theorem k_839 : (Cond.selects "HeatMachinesModel" ⟨"HeatMachinesModel", "fall", "(I)J"⟩ ⟨"HeatMachinesModel", "fall", "(I)J"⟩) ∈ ut := mu 839 rfl rfl
set_option maxRecDepth 20000 in
theorem k_840 : (Cond.code ⟨"HeatMachinesModel", "fall", "(I)J"⟩ prog_9_method_31_code 6 (some .long)) ∈ ut := mu 840 rfl rfl
theorem k_26 : (Cond.methodLinkNest "HeatMachines" 11 ⟨"HeatMachines$Planner", "<init>", "()V"⟩ "HeatMachines") ∈ un := mn 26 rfl rfl
theorem k_41 : (Cond.methodLinkNest "HeatMachines$House" 26 ⟨"HeatMachines$Machine", "<init>", "()V"⟩ "HeatMachines") ∈ un := mn 41 rfl rfl
theorem k_57 : (Cond.fieldLinkNest "HeatMachines" 102 "HeatMachines$Line" "size" "I" "HeatMachines") ∈ un := mn 57 rfl rfl
theorem k_67 : (Cond.fieldLinkNest "HeatMachines$House" 27 "HeatMachines$Machine" "leastRun" "I" "HeatMachines") ∈ un := mn 67 rfl rfl
theorem k_69 : (Cond.fieldLinkNest "HeatMachines$House" 30 "HeatMachines$Machine" "leastPause" "I" "HeatMachines") ∈ un := mn 69 rfl rfl
theorem k_71 : (Cond.fieldLinkNest "HeatMachines$House" 33 "HeatMachines$Machine" "startCents" "I" "HeatMachines") ∈ un := mn 71 rfl rfl
theorem k_72 : (Cond.fieldLinkNest "HeatMachines$Planner" 63 "HeatMachines$Machine" "startCents" "I" "HeatMachines") ∈ un := mn 72 rfl rfl
theorem k_74 : (Cond.fieldLinkNest "HeatMachines" 84 "HeatMachines$Machine" "heats" "LHeatMachines$Line;" "HeatMachines") ∈ un := mn 74 rfl rfl
theorem k_75 : (Cond.fieldLinkNest "HeatMachines$Planner" 115 "HeatMachines$Machine" "heats" "LHeatMachines$Line;" "HeatMachines") ∈ un := mn 75 rfl rfl
theorem k_77 : (Cond.fieldLinkNest "HeatMachines" 96 "HeatMachines$Machine" "powers" "LHeatMachines$Line;" "HeatMachines") ∈ un := mn 77 rfl rfl
theorem k_78 : (Cond.fieldLinkNest "HeatMachines$Planner" 124 "HeatMachines$Machine" "powers" "LHeatMachines$Line;" "HeatMachines") ∈ un := mn 78 rfl rfl
theorem k_80 : (Cond.fieldLinkNest "HeatMachines" 118 "HeatMachines$Machine" "outages" "[Z" "HeatMachines") ∈ un := mn 80 rfl rfl
theorem k_81 : (Cond.fieldLinkNest "HeatMachines$Planner" 111 "HeatMachines$Machine" "outages" "[Z" "HeatMachines") ∈ un := mn 81 rfl rfl
theorem k_97 : (Cond.fieldLinkNest "HeatMachines$States" 31 "HeatMachines$House" "machines" "[LHeatMachines$Machine;" "HeatMachines") ∈ un := mn 97 rfl rfl
theorem k_98 : (Cond.fieldLinkNest "HeatMachines$Planner" 59 "HeatMachines$House" "machines" "[LHeatMachines$Machine;" "HeatMachines") ∈ un := mn 98 rfl rfl
theorem k_99 : (Cond.fieldLinkNest "HeatMachines" 80 "HeatMachines$House" "machines" "[LHeatMachines$Machine;" "HeatMachines") ∈ un := mn 99 rfl rfl
theorem k_101 : (Cond.fieldLinkNest "HeatMachines" 54 "HeatMachines$House" "count" "I" "HeatMachines") ∈ un := mn 101 rfl rfl
theorem k_102 : (Cond.fieldLinkNest "HeatMachines$States" 50 "HeatMachines$House" "count" "I" "HeatMachines") ∈ un := mn 102 rfl rfl
theorem k_103 : (Cond.fieldLinkNest "HeatMachines$Planner" 104 "HeatMachines$House" "count" "I" "HeatMachines") ∈ un := mn 103 rfl rfl
theorem k_105 : (Cond.fieldLinkNest "HeatMachines" 114 "HeatMachines$House" "facts" "[[I" "HeatMachines") ∈ un := mn 105 rfl rfl
theorem k_106 : (Cond.fieldLinkNest "HeatMachines$Planner" 100 "HeatMachines$House" "facts" "[[I" "HeatMachines") ∈ un := mn 106 rfl rfl
theorem k_116 : (Cond.methodLinkNest "HeatMachines$Planner" 20 ⟨"HeatMachines$States", "<init>", "()V"⟩ "HeatMachines") ∈ un := mn 116 rfl rfl
theorem k_121 : (Cond.fieldLinkNest "HeatMachines$Planner" 127 "HeatMachines$States" "reachable" "[I" "HeatMachines") ∈ un := mn 121 rfl rfl
theorem k_123 : (Cond.fieldLinkNest "HeatMachines$Planner" 126 "HeatMachines$States" "count" "I" "HeatMachines") ∈ un := mn 123 rfl rfl
theorem k_125 : (Cond.fieldLinkNest "HeatMachines$Planner" 94 "HeatMachines$States" "ranBefore" "[I" "HeatMachines") ∈ un := mn 125 rfl rfl
theorem k_127 : (Cond.fieldLinkNest "HeatMachines$Planner" 134 "HeatMachines$States" "mustRun" "[I" "HeatMachines") ∈ un := mn 127 rfl rfl
theorem k_129 : (Cond.fieldLinkNest "HeatMachines$Planner" 137 "HeatMachines$States" "mustPause" "[I" "HeatMachines") ∈ un := mn 129 rfl rfl
theorem k_131 : (Cond.fieldLinkNest "HeatMachines$Planner" 97 "HeatMachines$States" "after" "[I" "HeatMachines") ∈ un := mn 131 rfl rfl
theorem k_146 : (Cond.fieldLinkNest "HeatMachines" 16 "HeatMachines$Planner" "house" "LHeatMachines$House;" "HeatMachines") ∈ un := mn 146 rfl rfl
theorem k_149 : (Cond.fieldLinkNest "HeatMachines" 60 "HeatMachines$Planner" "over" "I" "HeatMachines") ∈ un := mn 149 rfl rfl
theorem k_151 : (Cond.fieldLinkNest "HeatMachines" 164 "HeatMachines$Planner" "state" "I" "HeatMachines") ∈ un := mn 151 rfl rfl
theorem k_154 : (Cond.fieldLinkNest "HeatMachines" 133 "HeatMachines$Planner" "sets" "[I" "HeatMachines") ∈ un := mn 154 rfl rfl
theorem k_188 : (Cond.methodLinkNest "HeatMachines" 40 ⟨"HeatMachines$Borehole", "<init>", "()V"⟩ "HeatMachines") ∈ un := mn 188 rfl rfl
theorem k_194 : (Cond.fieldLinkNest "HeatMachines" 154 "HeatMachines$Borehole" "size" "I" "HeatMachines") ∈ un := mn 194 rfl rfl
theorem k_196 : (Cond.fieldLinkNest "HeatMachines" 157 "HeatMachines$Borehole" "loads" "[I" "HeatMachines") ∈ un := mn 196 rfl rfl
/-! the classes' fields -/
theorem u_Bh : ∀ w ∈ u_ws "HeatMachines$Borehole" F_Bh 3, w ∈ ut := u_sub (by decide +kernel)
theorem u_Ho : ∀ w ∈ u_ws "HeatMachines$House" F_Ho 3, w ∈ ut := u_sub (by decide +kernel)
theorem u_Ln : ∀ w ∈ u_ws "HeatMachines$Line" F_Ln 3, w ∈ ut := u_sub (by decide +kernel)
theorem u_Mc : ∀ w ∈ u_ws "HeatMachines$Machine" F_Mc 6, w ∈ ut := u_sub (by decide +kernel)
theorem u_Pl : ∀ w ∈ u_ws "HeatMachines$Planner" F_Pl 11, w ∈ ut := u_sub (by decide +kernel)
theorem u_Sa : ∀ w ∈ u_ws "HeatMachines$States" F_Sa 6, w ∈ ut := u_sub (by decide +kernel)
theorem u_HM : ∀ w ∈ u_ws "HeatMachines" F_HM 6, w ∈ ut := u_sub (by decide +kernel)
theorem u_Md : ∀ w ∈ u_ws "HeatMachinesModel" F_Md 38, w ∈ ut := u_sub (by decide +kernel)
