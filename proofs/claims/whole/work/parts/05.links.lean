set_option maxRecDepth 100000 in
theorem kX7_1 : Cond.methodLink RX7 1 objectInit ∈ lw_tbl := List.mem_of_getElem? (i := 62) rfl
set_option maxRecDepth 100000 in
theorem kX7_7 : Cond.classLink RX7 7 RX6 ∈ lw_tbl := List.mem_of_getElem? (i := 65) rfl
set_option maxRecDepth 100000 in
theorem kX7_9 : Cond.methodLinkNest RX7 9 yX6_init "GarbledWires" ∈ lw_tbl := List.mem_of_getElem? (i := 67) rfl
set_option maxRecDepth 100000 in
theorem kX7_10 : Cond.fieldLink RX7 10 "GarbledWires" "tape" "LGarbledWires$Tape;" ∈ lw_tbl := List.mem_of_getElem? (i := 216) rfl
set_option maxRecDepth 100000 in
theorem kX7_16 : Cond.classLink RX7 16 RX2 ∈ lw_tbl := List.mem_of_getElem? (i := 80) rfl
set_option maxRecDepth 100000 in
theorem kX7_18 : Cond.methodLink RX7 18 yX2_init ∈ lw_tbl := List.mem_of_getElem? (i := 82) rfl
set_option maxRecDepth 100000 in
theorem kX7_21 : Cond.fieldLink RX7 21 "GarbledWires" "reader" "LGarbledWires$CircuitReader;" ∈ lw_tbl := List.mem_of_getElem? (i := 217) rfl
set_option maxRecDepth 100000 in
theorem kX7_25 : Cond.classLink RX7 25 RX0 ∈ lw_tbl := List.mem_of_getElem? (i := 99) rfl
set_option maxRecDepth 100000 in
theorem kX7_27 : Cond.methodLink RX7 27 yX0_init ∈ lw_tbl := List.mem_of_getElem? (i := 101) rfl
set_option maxRecDepth 100000 in
theorem kX7_28 : Cond.fieldLink RX7 28 "GarbledWires" "cipher" "LGarbledWires$Cipher;" ∈ lw_tbl := List.mem_of_getElem? (i := 218) rfl
set_option maxRecDepth 100000 in
theorem kX7_32 : Cond.classLink RX7 32 RX4 ∈ lw_tbl := List.mem_of_getElem? (i := 132) rfl
set_option maxRecDepth 100000 in
theorem kX7_34 : Cond.methodLink RX7 34 yX4_init ∈ lw_tbl := List.mem_of_getElem? (i := 134) rfl
set_option maxRecDepth 100000 in
theorem kX7_37 : Cond.fieldLink RX7 37 "GarbledWires" "garbler" "LGarbledWires$Garbler;" ∈ lw_tbl := List.mem_of_getElem? (i := 219) rfl
set_option maxRecDepth 100000 in
theorem kX7_41 : Cond.classLink RX7 41 RX5 ∈ lw_tbl := List.mem_of_getElem? (i := 156) rfl
set_option maxRecDepth 100000 in
theorem kX7_43 : Cond.methodLink RX7 43 yX5_init ∈ lw_tbl := List.mem_of_getElem? (i := 157) rfl
set_option maxRecDepth 100000 in
theorem kX7_46 : Cond.fieldLink RX7 46 "GarbledWires" "hand" "LGarbledWires$Labels;" ∈ lw_tbl := List.mem_of_getElem? (i := 220) rfl
set_option maxRecDepth 100000 in
theorem kX7_50 : Cond.fieldLink RX7 50 "GarbledWires" "spareRun" "LGarbledWires$Labels;" ∈ lw_tbl := List.mem_of_getElem? (i := 221) rfl
set_option maxRecDepth 100000 in
theorem kX7_53 : Cond.classLink RX7 53 RX1 ∈ lw_tbl := List.mem_of_getElem? (i := 158) rfl
set_option maxRecDepth 100000 in
theorem kX7_55 : Cond.fieldLink RX7 55 "GarbledWires" "circuits" "[LGarbledWires$Circuit;" ∈ lw_tbl := List.mem_of_getElem? (i := 222) rfl
set_option maxRecDepth 100000 in
theorem kX7_59 : Cond.classLink RX7 59 RX3 ∈ lw_tbl := List.mem_of_getElem? (i := 160) rfl
set_option maxRecDepth 100000 in
theorem kX7_61 : Cond.fieldLink RX7 61 "GarbledWires" "garbledOnes" "[LGarbledWires$Garbled;" ∈ lw_tbl := List.mem_of_getElem? (i := 223) rfl
set_option maxRecDepth 100000 in
theorem kX7_65 : Cond.methodLinkNest RX7 65 yX1_init "GarbledWires" ∈ lw_tbl := List.mem_of_getElem? (i := 163) rfl
set_option maxRecDepth 100000 in
theorem kX7_66 : Cond.methodLink RX7 66 yX6_append ∈ lw_tbl := List.mem_of_getElem? (i := 254) rfl
set_option maxRecDepth 100000 in
theorem kX7_70 : Cond.fieldLinkNest RX7 70 "GarbledWires$Tape" "size" "I" "GarbledWires" ∈ lw_tbl := List.mem_of_getElem? (i := 73) rfl
set_option maxRecDepth 100000 in
theorem kX7_74 : Cond.methodLink RX7 74 yX6_useUp ∈ lw_tbl := List.mem_of_getElem? (i := 262) rfl
set_option maxRecDepth 100000 in
theorem kX7_78 : Cond.fieldLink RX7 78 "GarbledWires" "garbledCount" "I" ∈ lw_tbl := List.mem_of_getElem? (i := 225) rfl
set_option maxRecDepth 100000 in
theorem kX7_81 : Cond.methodLink RX7 81 yX6_eightBytes ∈ lw_tbl := List.mem_of_getElem? (i := 270) rfl
set_option maxRecDepth 100000 in
theorem kX7_85 : Cond.methodLink RX7 85 yX0_takeKey ∈ lw_tbl := List.mem_of_getElem? (i := 278) rfl
set_option maxRecDepth 100000 in
theorem kX7_89 : Cond.methodLink RX7 89 yX5_putFromTape ∈ lw_tbl := List.mem_of_getElem? (i := 286) rfl
set_option maxRecDepth 100000 in
theorem kX7_93 : Cond.methodLink RX7 93 yX0_makeBlock ∈ lw_tbl := List.mem_of_getElem? (i := 295) rfl
set_option maxRecDepth 100000 in
theorem kX7_97 : Cond.methodLink RX7 97 yX5_copy ∈ lw_tbl := List.mem_of_getElem? (i := 319) rfl
set_option maxRecDepth 100000 in
theorem kX7_101 : Cond.methodLink RX7 101 yX5_makeDouble ∈ lw_tbl := List.mem_of_getElem? (i := 325) rfl
set_option maxRecDepth 100000 in
theorem kX7_104 : Cond.methodLink RX7 104 yX0_hashOne ∈ lw_tbl := List.mem_of_getElem? (i := 329) rfl
set_option maxRecDepth 100000 in
theorem kX7_108 : Cond.methodLink RX7 108 yX0_hashTwo ∈ lw_tbl := List.mem_of_getElem? (i := 344) rfl
set_option maxRecDepth 100000 in
theorem kX7_112 : Cond.methodLink RX7 112 yX7_isByteOfLabel ∈ lw_tbl := List.mem_of_getElem? (i := 356) rfl
set_option maxRecDepth 100000 in
theorem kX7_116 : Cond.methodLink RX7 116 yX5_byteOf ∈ lw_tbl := List.mem_of_getElem? (i := 359) rfl
set_option maxRecDepth 100000 in
theorem kX7_120 : Cond.fieldLink RX7 120 "GarbledWires" "circuitCount" "I" ∈ lw_tbl := List.mem_of_getElem? (i := 224) rfl
set_option maxRecDepth 100000 in
theorem kX7_123 : Cond.methodLink RX7 123 yX2_readInto ∈ lw_tbl := List.mem_of_getElem? (i := 371) rfl
set_option maxRecDepth 100000 in
theorem kX7_127 : Cond.methodLink RX7 127 yX7_circuitAt ∈ lw_tbl := List.mem_of_getElem? (i := 438) rfl
set_option maxRecDepth 100000 in
theorem kX7_131 : Cond.fieldLinkNest RX7 131 "GarbledWires$Circuit" "inputCount" "I" "GarbledWires" ∈ lw_tbl := List.mem_of_getElem? (i := 186) rfl
set_option maxRecDepth 100000 in
theorem kX7_134 : Cond.fieldLinkNest RX7 134 "GarbledWires$Circuit" "gateCount" "I" "GarbledWires" ∈ lw_tbl := List.mem_of_getElem? (i := 190) rfl
set_option maxRecDepth 100000 in
theorem kX7_137 : Cond.fieldLinkNest RX7 137 "GarbledWires$Circuit" "outputCount" "I" "GarbledWires" ∈ lw_tbl := List.mem_of_getElem? (i := 195) rfl
set_option maxRecDepth 100000 in
theorem kX7_140 : Cond.fieldLinkNest RX7 140 "GarbledWires$Circuit" "tabledCount" "I" "GarbledWires" ∈ lw_tbl := List.mem_of_getElem? (i := 193) rfl
set_option maxRecDepth 100000 in
theorem kX7_143 : Cond.methodLink RX7 143 yX1_wireCount ∈ lw_tbl := List.mem_of_getElem? (i := 442) rfl
set_option maxRecDepth 100000 in
theorem kX7_146 : Cond.fieldLinkNest RX7 146 "GarbledWires$Circuit" "signs" "[I" "GarbledWires" ∈ lw_tbl := List.mem_of_getElem? (i := 169) rfl
set_option maxRecDepth 100000 in
theorem kX7_150 : Cond.fieldLinkNest RX7 150 "GarbledWires$Circuit" "lefts" "[I" "GarbledWires" ∈ lw_tbl := List.mem_of_getElem? (i := 172) rfl
set_option maxRecDepth 100000 in
theorem kX7_153 : Cond.fieldLinkNest RX7 153 "GarbledWires$Circuit" "rights" "[I" "GarbledWires" ∈ lw_tbl := List.mem_of_getElem? (i := 175) rfl
set_option maxRecDepth 100000 in
theorem kX7_156 : Cond.fieldLinkNest RX7 156 "GarbledWires$Circuit" "tabledNumbers" "[I" "GarbledWires" ∈ lw_tbl := List.mem_of_getElem? (i := 179) rfl
set_option maxRecDepth 100000 in
theorem kX7_159 : Cond.fieldLinkNest RX7 159 "GarbledWires$Circuit" "outputs" "[I" "GarbledWires" ∈ lw_tbl := List.mem_of_getElem? (i := 181) rfl
set_option maxRecDepth 100000 in
theorem kX7_162 : Cond.methodLink RX7 162 yX1_outputTruths ∈ lw_tbl := List.mem_of_getElem? (i := 455) rfl
set_option maxRecDepth 100000 in
theorem kX7_166 : Cond.methodLink RX7 166 yX7_isKind ∈ lw_tbl := List.mem_of_getElem? (i := 469) rfl
set_option maxRecDepth 100000 in
theorem kX7_169 : Cond.methodLink RX7 169 yX1_coinsFor ∈ lw_tbl := List.mem_of_getElem? (i := 472) rfl
set_option maxRecDepth 100000 in
theorem kX7_172 : Cond.methodLink RX7 172 yX3_init ∈ lw_tbl := List.mem_of_getElem? (i := 477) rfl
set_option maxRecDepth 100000 in
theorem kX7_175 : Cond.methodLink RX7 175 yX3_takeCoins ∈ lw_tbl := List.mem_of_getElem? (i := 529) rfl
set_option maxRecDepth 100000 in
theorem kX7_178 : Cond.fieldLinkNest RX7 178 "GarbledWires$Cipher" "blocksMade" "I" "GarbledWires" ∈ lw_tbl := List.mem_of_getElem? (i := 121) rfl
set_option maxRecDepth 100000 in
theorem kX7_181 : Cond.methodLink RX7 181 yX4_makeTables ∈ lw_tbl := List.mem_of_getElem? (i := 537) rfl
set_option maxRecDepth 100000 in
theorem kX7_185 : Cond.fieldLinkNest RX7 185 "GarbledWires$Garbled" "blocksToGarble" "I" "GarbledWires" ∈ lw_tbl := List.mem_of_getElem? (i := 504) rfl
set_option maxRecDepth 100000 in
theorem kX7_188 : Cond.methodLink RX7 188 yX7_garbledAt ∈ lw_tbl := List.mem_of_getElem? (i := 589) rfl
set_option maxRecDepth 100000 in
theorem kX7_192 : Cond.fieldLinkNest RX7 192 "GarbledWires$Garbled" "circuitNumber" "I" "GarbledWires" ∈ lw_tbl := List.mem_of_getElem? (i := 487) rfl
set_option maxRecDepth 100000 in
theorem kX7_195 : Cond.fieldLinkNest RX7 195 "GarbledWires$Garbled" "way" "I" "GarbledWires" ∈ lw_tbl := List.mem_of_getElem? (i := 490) rfl
set_option maxRecDepth 100000 in
theorem kX7_198 : Cond.fieldLinkNest RX7 198 "GarbledWires$Garbled" "kind" "I" "GarbledWires" ∈ lw_tbl := List.mem_of_getElem? (i := 492) rfl
set_option maxRecDepth 100000 in
theorem kX7_201 : Cond.methodLink RX7 201 yX3_storedRows ∈ lw_tbl := List.mem_of_getElem? (i := 593) rfl
set_option maxRecDepth 100000 in
theorem kX7_204 : Cond.methodLink RX7 204 yX3_labelledWires ∈ lw_tbl := List.mem_of_getElem? (i := 597) rfl
set_option maxRecDepth 100000 in
theorem kX7_207 : Cond.fieldLinkNest RX7 207 "GarbledWires$Garbled" "blocksToWorkOut" "I" "GarbledWires" ∈ lw_tbl := List.mem_of_getElem? (i := 505) rfl
set_option maxRecDepth 100000 in
theorem kX7_210 : Cond.fieldLinkNest RX7 210 "GarbledWires$Garbled" "zeros" "LGarbledWires$Labels;" "GarbledWires" ∈ lw_tbl := List.mem_of_getElem? (i := 495) rfl
set_option maxRecDepth 100000 in
theorem kX7_213 : Cond.methodLink RX7 213 yX3_isWire ∈ lw_tbl := List.mem_of_getElem? (i := 614) rfl
set_option maxRecDepth 100000 in
theorem kX7_216 : Cond.methodLink RX7 216 yX7_isTruth ∈ lw_tbl := List.mem_of_getElem? (i := 618) rfl
set_option maxRecDepth 100000 in
theorem kX7_219 : Cond.methodLink RX7 219 yX3_isRow ∈ lw_tbl := List.mem_of_getElem? (i := 625) rfl
set_option maxRecDepth 100000 in
theorem kX7_223 : Cond.methodLink RX7 223 yX3_isStored ∈ lw_tbl := List.mem_of_getElem? (i := 629) rfl
set_option maxRecDepth 100000 in
theorem kX7_226 : Cond.fieldLinkNest RX7 226 "GarbledWires$Garbled" "rows" "LGarbledWires$Labels;" "GarbledWires" ∈ lw_tbl := List.mem_of_getElem? (i := 498) rfl
set_option maxRecDepth 100000 in
theorem kX7_229 : Cond.methodLink RX7 229 yX3_rowPlace ∈ lw_tbl := List.mem_of_getElem? (i := 633) rfl
set_option maxRecDepth 100000 in
theorem kX7_232 : Cond.methodLink RX7 232 yX5_mixByte ∈ lw_tbl := List.mem_of_getElem? (i := 638) rfl
set_option maxRecDepth 100000 in
theorem kX7_236 : Cond.methodLink RX7 236 yX3_isInput ∈ lw_tbl := List.mem_of_getElem? (i := 647) rfl
set_option maxRecDepth 100000 in
theorem kX7_239 : Cond.fieldLinkNest RX7 239 "GarbledWires$Garbled" "run" "LGarbledWires$Labels;" "GarbledWires" ∈ lw_tbl := List.mem_of_getElem? (i := 500) rfl
set_option maxRecDepth 100000 in
theorem kX7_242 : Cond.methodLink RX7 242 yX3_putLabelFor ∈ lw_tbl := List.mem_of_getElem? (i := 648) rfl
set_option maxRecDepth 100000 in
theorem kX7_246 : Cond.methodLink RX7 246 yX3_noteGiven ∈ lw_tbl := List.mem_of_getElem? (i := 649) rfl
set_option maxRecDepth 100000 in
theorem kX7_249 : Cond.methodLink RX7 249 yX3_putInputs ∈ lw_tbl := List.mem_of_getElem? (i := 657) rfl
set_option maxRecDepth 100000 in
theorem kX7_253 : Cond.fieldLinkNest RX7 253 "GarbledWires$Garbled" "circuit" "LGarbledWires$Circuit;" "GarbledWires" ∈ lw_tbl := List.mem_of_getElem? (i := 485) rfl
set_option maxRecDepth 100000 in
theorem kX7_257 : Cond.methodLink RX7 257 yX3_noteMissing ∈ lw_tbl := List.mem_of_getElem? (i := 666) rfl
set_option maxRecDepth 100000 in
theorem kX7_260 : Cond.methodLink RX7 260 yX3_hasAllInputs ∈ lw_tbl := List.mem_of_getElem? (i := 674) rfl
set_option maxRecDepth 100000 in
theorem kX7_264 : Cond.methodLink RX7 264 yX4_follow ∈ lw_tbl := List.mem_of_getElem? (i := 678) rfl
set_option maxRecDepth 100000 in
theorem kX7_268 : Cond.fieldLinkNest RX7 268 "GarbledWires$Garbled" "workedOut" "Z" "GarbledWires" ∈ lw_tbl := List.mem_of_getElem? (i := 503) rfl
set_option maxRecDepth 100000 in
theorem kX7_272 : Cond.methodLink RX7 272 yX3_hasLabel ∈ lw_tbl := List.mem_of_getElem? (i := 694) rfl
set_option maxRecDepth 100000 in
theorem kX7_275 : Cond.methodLink RX7 275 yX7_refusePlace ∈ lw_tbl := List.mem_of_getElem? (i := 699) rfl
set_option maxRecDepth 100000 in
theorem kX7_278 : Cond.methodLink RX7 278 yX7_isPlace ∈ lw_tbl := List.mem_of_getElem? (i := 703) rfl
set_option maxRecDepth 100000 in
theorem kX7_281 : Cond.fieldLink RX7 281 "GarbledWires" "placeStatus" "I" ∈ lw_tbl := List.mem_of_getElem? (i := 226) rfl
set_option maxRecDepth 100000 in
theorem kX7_284 : Cond.methodLink RX7 284 yX7_bytesOfPlace ∈ lw_tbl := List.mem_of_getElem? (i := 706) rfl
set_option maxRecDepth 100000 in
theorem kX7_287 : Cond.methodLink RX7 287 yX5_bitsOf ∈ lw_tbl := List.mem_of_getElem? (i := 709) rfl
set_option maxRecDepth 100000 in
theorem kX7_291 : Cond.methodLink RX7 291 yX7_asKind ∈ lw_tbl := List.mem_of_getElem? (i := 710) rfl
set_option maxRecDepth 100000 in
theorem kX7_295 : Cond.methodLink RX7 295 yX3_openWire ∈ lw_tbl := List.mem_of_getElem? (i := 717) rfl
set_option maxRecDepth 100000 in
theorem kX7_299 : Cond.methodLink RX7 299 yX3_hasAllOutputs ∈ lw_tbl := List.mem_of_getElem? (i := 725) rfl
set_option maxRecDepth 100000 in
theorem kX7_302 : Cond.methodLink RX7 302 yX3_openOutputs ∈ lw_tbl := List.mem_of_getElem? (i := 729) rfl
set_option maxRecDepth 100000 in
theorem kX7_306 : Cond.constant RX7 306 (65536) ∈ lw_tbl := List.mem_of_getElem? (i := 738) rfl
set_option maxRecDepth 100000 in
theorem kX0_3 : Cond.methodLink RX0 3 objectInit ∈ lw_tbl := List.mem_of_getElem? (i := 104) rfl
set_option maxRecDepth 100000 in
theorem kX0_9 : Cond.fieldLink RX0 9 "GarbledWires$Cipher" "keys" "[I" ∈ lw_tbl := List.mem_of_getElem? (i := 117) rfl
set_option maxRecDepth 100000 in
theorem kX0_13 : Cond.methodLink RX0 13 yX0_expandKeys ∈ lw_tbl := List.mem_of_getElem? (i := 105) rfl
set_option maxRecDepth 100000 in
theorem kX0_16 : Cond.methodLink RX0 16 yX0_lastColumn ∈ lw_tbl := List.mem_of_getElem? (i := 109) rfl
set_option maxRecDepth 100000 in
theorem kX0_20 : Cond.methodLink RX0 20 yX5_high ∈ lw_tbl := List.mem_of_getElem? (i := 299) rfl
set_option maxRecDepth 100000 in
theorem kX0_26 : Cond.methodLink RX0 26 yX5_low ∈ lw_tbl := List.mem_of_getElem? (i := 303) rfl
set_option maxRecDepth 100000 in
theorem kX0_29 : Cond.methodLink RX0 29 yX0_encrypt ∈ lw_tbl := List.mem_of_getElem? (i := 307) rfl
set_option maxRecDepth 100000 in
theorem kX0_33 : Cond.fieldLink RX0 33 "GarbledWires$Cipher" "high" "J" ∈ lw_tbl := List.mem_of_getElem? (i := 118) rfl
set_option maxRecDepth 100000 in
theorem kX0_36 : Cond.fieldLink RX0 36 "GarbledWires$Cipher" "low" "J" ∈ lw_tbl := List.mem_of_getElem? (i := 119) rfl
set_option maxRecDepth 100000 in
theorem kX0_38 : Cond.methodLink RX0 38 yX5_put ∈ lw_tbl := List.mem_of_getElem? (i := 318) rfl
set_option maxRecDepth 100000 in
theorem kX0_42 : Cond.methodLink RX0 42 yX5_copy ∈ lw_tbl := List.mem_of_getElem? (i := 333) rfl
set_option maxRecDepth 100000 in
theorem kX0_46 : Cond.methodLink RX0 46 yX5_makeDouble ∈ lw_tbl := List.mem_of_getElem? (i := 334) rfl
set_option maxRecDepth 100000 in
theorem kX0_50 : Cond.methodLink RX0 50 yX0_hashMade ∈ lw_tbl := List.mem_of_getElem? (i := 335) rfl
set_option maxRecDepth 100000 in
theorem kX0_54 : Cond.methodLink RX0 54 yX5_mix ∈ lw_tbl := List.mem_of_getElem? (i := 348) rfl
set_option maxRecDepth 100000 in
theorem kX0_57 : Cond.methodLink RX0 57 yX5_mixNumber ∈ lw_tbl := List.mem_of_getElem? (i := 339) rfl
set_option maxRecDepth 100000 in
theorem kX0_61 : Cond.methodLink RX0 61 yX0_mixedColumn ∈ lw_tbl := List.mem_of_getElem? (i := 311) rfl
set_option maxRecDepth 100000 in
theorem kX0_64 : Cond.methodLink RX0 64 yX0_joined ∈ lw_tbl := List.mem_of_getElem? (i := 314) rfl
set_option maxRecDepth 100000 in
theorem kX0_68 : Cond.fieldLink RX0 68 "GarbledWires$Cipher" "blocksMade" "I" ∈ lw_tbl := List.mem_of_getElem? (i := 120) rfl
set_option maxRecDepth 100000 in
theorem kX0_72 : Cond.fieldLink RX0 72 "GarbledWires$Cipher" "COLUMN_OF" "[I" ∈ lw_tbl := List.mem_of_getElem? (i := 112) rfl
set_option maxRecDepth 100000 in
theorem kX0_75 : Cond.constant RX0 75 (-16777216) ∈ lw_tbl := List.mem_of_getElem? (i := 114) rfl
set_option maxRecDepth 100000 in
theorem kX0_76 : Cond.constant RX0 76 (16711680) ∈ lw_tbl := List.mem_of_getElem? (i := 115) rfl
set_option maxRecDepth 100000 in
theorem kX0_77 : Cond.constant RX0 77 (65280) ∈ lw_tbl := List.mem_of_getElem? (i := 116) rfl
set_option maxRecDepth 100000 in
theorem kX0_78 : Cond.constantLong RX0 78 (4294967295) ∈ lw_tbl := List.mem_of_getElem? (i := 317) rfl
set_option maxRecDepth 100000 in
theorem kX1_3 : Cond.methodLink RX1 3 objectInit ∈ lw_tbl := List.mem_of_getElem? (i := 166) rfl
set_option maxRecDepth 100000 in
theorem kX1_9 : Cond.fieldLink RX1 9 "GarbledWires$Circuit" "signs" "[I" ∈ lw_tbl := List.mem_of_getElem? (i := 167) rfl
set_option maxRecDepth 100000 in
theorem kX1_15 : Cond.fieldLink RX1 15 "GarbledWires$Circuit" "lefts" "[I" ∈ lw_tbl := List.mem_of_getElem? (i := 170) rfl
set_option maxRecDepth 100000 in
theorem kX1_18 : Cond.fieldLink RX1 18 "GarbledWires$Circuit" "rights" "[I" ∈ lw_tbl := List.mem_of_getElem? (i := 173) rfl
set_option maxRecDepth 100000 in
theorem kX1_21 : Cond.fieldLink RX1 21 "GarbledWires$Circuit" "tabledNumbers" "[I" ∈ lw_tbl := List.mem_of_getElem? (i := 176) rfl
set_option maxRecDepth 100000 in
theorem kX1_24 : Cond.fieldLink RX1 24 "GarbledWires$Circuit" "outputs" "[I" ∈ lw_tbl := List.mem_of_getElem? (i := 180) rfl
set_option maxRecDepth 100000 in
theorem kX1_27 : Cond.fieldLink RX1 27 "GarbledWires$Circuit" "inputCount" "I" ∈ lw_tbl := List.mem_of_getElem? (i := 183) rfl
set_option maxRecDepth 100000 in
theorem kX1_31 : Cond.fieldLink RX1 31 "GarbledWires$Circuit" "gateCount" "I" ∈ lw_tbl := List.mem_of_getElem? (i := 187) rfl
set_option maxRecDepth 100000 in
theorem kX1_34 : Cond.fieldLink RX1 34 "GarbledWires$Circuit" "tabledCount" "I" ∈ lw_tbl := List.mem_of_getElem? (i := 191) rfl
set_option maxRecDepth 100000 in
theorem kX1_37 : Cond.fieldLink RX1 37 "GarbledWires$Circuit" "outputCount" "I" ∈ lw_tbl := List.mem_of_getElem? (i := 194) rfl
set_option maxRecDepth 100000 in
theorem kX1_40 : Cond.methodLink RX1 40 yX1_bitOf ∈ lw_tbl := List.mem_of_getElem? (i := 459) rfl
set_option maxRecDepth 100000 in
theorem kX1_44 : Cond.methodLink RX1 44 yX1_truthOf ∈ lw_tbl := List.mem_of_getElem? (i := 462) rfl
set_option maxRecDepth 100000 in
theorem kX2_3 : Cond.methodLink RX2 3 objectInit ∈ lw_tbl := List.mem_of_getElem? (i := 85) rfl
set_option maxRecDepth 100000 in
theorem kX2_9 : Cond.fieldLink RX2 9 "GarbledWires$CircuitReader" "tape" "LGarbledWires$Tape;" ∈ lw_tbl := List.mem_of_getElem? (i := 86) rfl
set_option maxRecDepth 100000 in
theorem kX2_15 : Cond.fieldLink RX2 15 "GarbledWires$CircuitReader" "size" "I" ∈ lw_tbl := List.mem_of_getElem? (i := 87) rfl
set_option maxRecDepth 100000 in
theorem kX2_19 : Cond.fieldLink RX2 19 "GarbledWires$CircuitReader" "at" "I" ∈ lw_tbl := List.mem_of_getElem? (i := 88) rfl
set_option maxRecDepth 100000 in
theorem kX2_22 : Cond.fieldLink RX2 22 "GarbledWires$CircuitReader" "faultPlace" "I" ∈ lw_tbl := List.mem_of_getElem? (i := 89) rfl
set_option maxRecDepth 100000 in
theorem kX2_25 : Cond.methodLink RX2 25 yX2_readNumber ∈ lw_tbl := List.mem_of_getElem? (i := 375) rfl
set_option maxRecDepth 100000 in
theorem kX2_29 : Cond.methodLink RX2 29 yX1_startWith ∈ lw_tbl := List.mem_of_getElem? (i := 399) rfl
set_option maxRecDepth 100000 in
theorem kX2_35 : Cond.methodLink RX2 35 yX2_readMark ∈ lw_tbl := List.mem_of_getElem? (i := 403) rfl
set_option maxRecDepth 100000 in
theorem kX2_38 : Cond.methodLink RX2 38 yX2_readGates ∈ lw_tbl := List.mem_of_getElem? (i := 407) rfl
set_option maxRecDepth 100000 in
theorem kX2_42 : Cond.methodLink RX2 42 yX2_readOutputs ∈ lw_tbl := List.mem_of_getElem? (i := 426) rfl
set_option maxRecDepth 100000 in
theorem kX2_45 : Cond.methodLink RX2 45 yX2_isFine ∈ lw_tbl := List.mem_of_getElem? (i := 379) rfl
set_option maxRecDepth 100000 in
theorem kX2_49 : Cond.methodLink RX2 49 yX2_skipBlanks ∈ lw_tbl := List.mem_of_getElem? (i := 383) rfl
set_option maxRecDepth 100000 in
theorem kX2_52 : Cond.methodLink RX2 52 yX2_look ∈ lw_tbl := List.mem_of_getElem? (i := 387) rfl
set_option maxRecDepth 100000 in
theorem kX2_56 : Cond.methodLink RX2 56 yX1_isSign ∈ lw_tbl := List.mem_of_getElem? (i := 411) rfl
set_option maxRecDepth 100000 in
theorem kX2_60 : Cond.methodLink RX2 60 yX2_fail ∈ lw_tbl := List.mem_of_getElem? (i := 395) rfl
set_option maxRecDepth 100000 in
theorem kX2_63 : Cond.methodLink RX2 63 yX2_readGate ∈ lw_tbl := List.mem_of_getElem? (i := 414) rfl
set_option maxRecDepth 100000 in
theorem kX2_67 : Cond.methodLink RX2 67 yX1_wireCount ∈ lw_tbl := List.mem_of_getElem? (i := 418) rfl
set_option maxRecDepth 100000 in
theorem kX2_70 : Cond.methodLink RX2 70 yX1_addGate ∈ lw_tbl := List.mem_of_getElem? (i := 422) rfl
set_option maxRecDepth 100000 in
theorem kX2_74 : Cond.methodLink RX2 74 yX1_addOutput ∈ lw_tbl := List.mem_of_getElem? (i := 430) rfl
set_option maxRecDepth 100000 in
theorem kX2_77 : Cond.methodLink RX2 77 yX2_isDigit ∈ lw_tbl := List.mem_of_getElem? (i := 392) rfl
set_option maxRecDepth 100000 in
theorem kX2_80 : Cond.methodLink RX2 80 yX6_byteAt ∈ lw_tbl := List.mem_of_getElem? (i := 391) rfl
set_option maxRecDepth 100000 in
theorem kX3_3 : Cond.methodLink RX3 3 objectInit ∈ lw_tbl := List.mem_of_getElem? (i := 480) rfl
set_option maxRecDepth 100000 in
theorem kX3_9 : Cond.classLink RX3 9 RX5 ∈ lw_tbl := List.mem_of_getElem? (i := 481) rfl
set_option maxRecDepth 100000 in
theorem kX3_11 : Cond.methodLink RX3 11 yX5_init ∈ lw_tbl := List.mem_of_getElem? (i := 482) rfl
set_option maxRecDepth 100000 in
theorem kX3_14 : Cond.fieldLink RX3 14 "GarbledWires$Garbled" "zeros" "LGarbledWires$Labels;" ∈ lw_tbl := List.mem_of_getElem? (i := 493) rfl
set_option maxRecDepth 100000 in
theorem kX3_20 : Cond.fieldLink RX3 20 "GarbledWires$Garbled" "rows" "LGarbledWires$Labels;" ∈ lw_tbl := List.mem_of_getElem? (i := 496) rfl
set_option maxRecDepth 100000 in
theorem kX3_23 : Cond.fieldLink RX3 23 "GarbledWires$Garbled" "run" "LGarbledWires$Labels;" ∈ lw_tbl := List.mem_of_getElem? (i := 499) rfl
set_option maxRecDepth 100000 in
theorem kX3_26 : Cond.fieldLink RX3 26 "GarbledWires$Garbled" "circuit" "LGarbledWires$Circuit;" ∈ lw_tbl := List.mem_of_getElem? (i := 483) rfl
set_option maxRecDepth 100000 in
theorem kX3_30 : Cond.fieldLink RX3 30 "GarbledWires$Garbled" "circuitNumber" "I" ∈ lw_tbl := List.mem_of_getElem? (i := 486) rfl
set_option maxRecDepth 100000 in
theorem kX3_34 : Cond.fieldLink RX3 34 "GarbledWires$Garbled" "way" "I" ∈ lw_tbl := List.mem_of_getElem? (i := 488) rfl
set_option maxRecDepth 100000 in
theorem kX3_37 : Cond.fieldLink RX3 37 "GarbledWires$Garbled" "kind" "I" ∈ lw_tbl := List.mem_of_getElem? (i := 491) rfl
set_option maxRecDepth 100000 in
theorem kX3_40 : Cond.methodLink RX3 40 yX5_putFromTape ∈ lw_tbl := List.mem_of_getElem? (i := 533) rfl
set_option maxRecDepth 100000 in
theorem kX3_44 : Cond.methodLink RX3 44 yX5_high ∈ lw_tbl := List.mem_of_getElem? (i := 534) rfl
set_option maxRecDepth 100000 in
theorem kX3_48 : Cond.methodLink RX3 48 yX5_low ∈ lw_tbl := List.mem_of_getElem? (i := 535) rfl
set_option maxRecDepth 100000 in
theorem kX3_51 : Cond.methodLink RX3 51 yX5_put ∈ lw_tbl := List.mem_of_getElem? (i := 536) rfl
set_option maxRecDepth 100000 in
theorem kX3_55 : Cond.fieldLinkNest RX3 55 "GarbledWires$Circuit" "inputCount" "I" "GarbledWires" ∈ lw_tbl := List.mem_of_getElem? (i := 185) rfl
set_option maxRecDepth 100000 in
theorem kX3_60 : Cond.fieldLinkNest RX3 60 "GarbledWires$Circuit" "gateCount" "I" "GarbledWires" ∈ lw_tbl := List.mem_of_getElem? (i := 189) rfl
set_option maxRecDepth 100000 in
theorem kX3_63 : Cond.fieldLinkNest RX3 63 "GarbledWires$Circuit" "tabledNumbers" "[I" "GarbledWires" ∈ lw_tbl := List.mem_of_getElem? (i := 177) rfl
set_option maxRecDepth 100000 in
theorem kX3_67 : Cond.methodLink RX3 67 yX1_wireCount ∈ lw_tbl := List.mem_of_getElem? (i := 601) rfl
set_option maxRecDepth 100000 in
theorem kX3_71 : Cond.fieldLinkNest RX3 71 "GarbledWires$Circuit" "tabledCount" "I" "GarbledWires" ∈ lw_tbl := List.mem_of_getElem? (i := 192) rfl
set_option maxRecDepth 100000 in
theorem kX3_74 : Cond.methodLink RX3 74 yX5_copy ∈ lw_tbl := List.mem_of_getElem? (i := 545) rfl
set_option maxRecDepth 100000 in
theorem kX3_78 : Cond.methodLink RX3 78 yX5_mixIf ∈ lw_tbl := List.mem_of_getElem? (i := 546) rfl
set_option maxRecDepth 100000 in
theorem kX3_82 : Cond.methodLink RX3 82 yX3_putLabelFor ∈ lw_tbl := List.mem_of_getElem? (i := 661) rfl
set_option maxRecDepth 100000 in
theorem kX3_85 : Cond.fieldLink RX3 85 "GarbledWires$Garbled" "givenInputs" "I" ∈ lw_tbl := List.mem_of_getElem? (i := 501) rfl
set_option maxRecDepth 100000 in
theorem kX3_88 : Cond.fieldLink RX3 88 "GarbledWires$Garbled" "workedOut" "Z" ∈ lw_tbl := List.mem_of_getElem? (i := 502) rfl
set_option maxRecDepth 100000 in
theorem kX3_92 : Cond.methodLink RX3 92 yX3_isInput ∈ lw_tbl := List.mem_of_getElem? (i := 606) rfl
set_option maxRecDepth 100000 in
theorem kX3_96 : Cond.fieldLinkNest RX3 96 "GarbledWires$Circuit" "outputCount" "I" "GarbledWires" ∈ lw_tbl := List.mem_of_getElem? (i := 196) rfl
set_option maxRecDepth 100000 in
theorem kX3_99 : Cond.fieldLinkNest RX3 99 "GarbledWires$Circuit" "outputs" "[I" "GarbledWires" ∈ lw_tbl := List.mem_of_getElem? (i := 182) rfl
set_option maxRecDepth 100000 in
theorem kX3_102 : Cond.methodLink RX3 102 yX3_hasLabel ∈ lw_tbl := List.mem_of_getElem? (i := 602) rfl
set_option maxRecDepth 100000 in
theorem kX3_105 : Cond.methodLink RX3 105 yX3_openWire ∈ lw_tbl := List.mem_of_getElem? (i := 733) rfl
set_option maxRecDepth 100000 in
theorem kX4_3 : Cond.methodLink RX4 3 objectInit ∈ lw_tbl := List.mem_of_getElem? (i := 137) rfl
set_option maxRecDepth 100000 in
theorem kX4_9 : Cond.classLink RX4 9 RX5 ∈ lw_tbl := List.mem_of_getElem? (i := 138) rfl
set_option maxRecDepth 100000 in
theorem kX4_13 : Cond.methodLink RX4 13 yX5_init ∈ lw_tbl := List.mem_of_getElem? (i := 140) rfl
set_option maxRecDepth 100000 in
theorem kX4_16 : Cond.fieldLink RX4 16 "GarbledWires$Garbler" "work" "LGarbledWires$Labels;" ∈ lw_tbl := List.mem_of_getElem? (i := 150) rfl
set_option maxRecDepth 100000 in
theorem kX4_20 : Cond.fieldLink RX4 20 "GarbledWires$Garbler" "cipher" "LGarbledWires$Cipher;" ∈ lw_tbl := List.mem_of_getElem? (i := 149) rfl
set_option maxRecDepth 100000 in
theorem kX4_24 : Cond.fieldLinkNest RX4 24 "GarbledWires$Garbled" "circuit" "LGarbledWires$Circuit;" "GarbledWires" ∈ lw_tbl := List.mem_of_getElem? (i := 484) rfl
set_option maxRecDepth 100000 in
theorem kX4_30 : Cond.fieldLinkNest RX4 30 "GarbledWires$Circuit" "gateCount" "I" "GarbledWires" ∈ lw_tbl := List.mem_of_getElem? (i := 188) rfl
set_option maxRecDepth 100000 in
theorem kX4_36 : Cond.fieldLinkNest RX4 36 "GarbledWires$Circuit" "inputCount" "I" "GarbledWires" ∈ lw_tbl := List.mem_of_getElem? (i := 184) rfl
set_option maxRecDepth 100000 in
theorem kX4_39 : Cond.fieldLinkNest RX4 39 "GarbledWires$Circuit" "signs" "[I" "GarbledWires" ∈ lw_tbl := List.mem_of_getElem? (i := 168) rfl
set_option maxRecDepth 100000 in
theorem kX4_43 : Cond.fieldLinkNest RX4 43 "GarbledWires$Circuit" "lefts" "[I" "GarbledWires" ∈ lw_tbl := List.mem_of_getElem? (i := 171) rfl
set_option maxRecDepth 100000 in
theorem kX4_46 : Cond.fieldLinkNest RX4 46 "GarbledWires$Garbled" "zeros" "LGarbledWires$Labels;" "GarbledWires" ∈ lw_tbl := List.mem_of_getElem? (i := 494) rfl
set_option maxRecDepth 100000 in
theorem kX4_49 : Cond.methodLink RX4 49 yX3_putLabelFor ∈ lw_tbl := List.mem_of_getElem? (i := 541) rfl
set_option maxRecDepth 100000 in
theorem kX4_53 : Cond.methodLink RX4 53 yX5_copy ∈ lw_tbl := List.mem_of_getElem? (i := 551) rfl
set_option maxRecDepth 100000 in
theorem kX4_57 : Cond.fieldLinkNest RX4 57 "GarbledWires$Circuit" "rights" "[I" "GarbledWires" ∈ lw_tbl := List.mem_of_getElem? (i := 174) rfl
set_option maxRecDepth 100000 in
theorem kX4_60 : Cond.methodLink RX4 60 yX5_mix ∈ lw_tbl := List.mem_of_getElem? (i := 552) rfl
set_option maxRecDepth 100000 in
theorem kX4_63 : Cond.fieldLinkNest RX4 63 "GarbledWires$Garbled" "way" "I" "GarbledWires" ∈ lw_tbl := List.mem_of_getElem? (i := 489) rfl
set_option maxRecDepth 100000 in
theorem kX4_66 : Cond.methodLink RX4 66 yX4_makeHalves ∈ lw_tbl := List.mem_of_getElem? (i := 553) rfl
set_option maxRecDepth 100000 in
theorem kX4_70 : Cond.methodLink RX4 70 yX4_makeRows ∈ lw_tbl := List.mem_of_getElem? (i := 579) rfl
set_option maxRecDepth 100000 in
theorem kX4_73 : Cond.methodLink RX4 73 yX4_followHalves ∈ lw_tbl := List.mem_of_getElem? (i := 682) rfl
set_option maxRecDepth 100000 in
theorem kX4_77 : Cond.methodLink RX4 77 yX4_followRows ∈ lw_tbl := List.mem_of_getElem? (i := 686) rfl
set_option maxRecDepth 100000 in
theorem kX4_80 : Cond.fieldLinkNest RX4 80 "GarbledWires$Circuit" "tabledNumbers" "[I" "GarbledWires" ∈ lw_tbl := List.mem_of_getElem? (i := 178) rfl
set_option maxRecDepth 100000 in
theorem kX4_83 : Cond.methodLink RX4 83 yX5_colour ∈ lw_tbl := List.mem_of_getElem? (i := 567) rfl
set_option maxRecDepth 100000 in
theorem kX4_87 : Cond.methodLink RX4 87 yX1_truthOf ∈ lw_tbl := List.mem_of_getElem? (i := 583) rfl
set_option maxRecDepth 100000 in
theorem kX4_91 : Cond.methodLink RX4 91 yX0_hashTwo ∈ lw_tbl := List.mem_of_getElem? (i := 584) rfl
set_option maxRecDepth 100000 in
theorem kX4_97 : Cond.methodLink RX4 97 yX5_mixIf ∈ lw_tbl := List.mem_of_getElem? (i := 571) rfl
set_option maxRecDepth 100000 in
theorem kX4_100 : Cond.methodLink RX4 100 yX3_rowPlace ∈ lw_tbl := List.mem_of_getElem? (i := 564) rfl
set_option maxRecDepth 100000 in
theorem kX4_104 : Cond.fieldLinkNest RX4 104 "GarbledWires$Garbled" "rows" "LGarbledWires$Labels;" "GarbledWires" ∈ lw_tbl := List.mem_of_getElem? (i := 497) rfl
set_option maxRecDepth 100000 in
theorem kX4_107 : Cond.methodLink RX4 107 yX1_turnsLeft ∈ lw_tbl := List.mem_of_getElem? (i := 557) rfl
set_option maxRecDepth 100000 in
theorem kX4_110 : Cond.methodLink RX4 110 yX1_turnsRight ∈ lw_tbl := List.mem_of_getElem? (i := 560) rfl
set_option maxRecDepth 100000 in
theorem kX4_113 : Cond.methodLink RX4 113 yX0_hashOne ∈ lw_tbl := List.mem_of_getElem? (i := 563) rfl
set_option maxRecDepth 100000 in
theorem kX4_117 : Cond.methodLink RX4 117 yX4_joinHalves ∈ lw_tbl := List.mem_of_getElem? (i := 572) rfl
set_option maxRecDepth 100000 in
theorem kX4_121 : Cond.methodLink RX4 121 yX1_turnsWhatComes ∈ lw_tbl := List.mem_of_getElem? (i := 576) rfl
set_option maxRecDepth 100000 in
theorem kX5_1 : Cond.methodLink RX5 1 objectInit ∈ lw_tbl := List.mem_of_getElem? (i := 143) rfl
set_option maxRecDepth 100000 in
theorem kX5_7 : Cond.fieldLink RX5 7 "GarbledWires$Labels" "words" "[J" ∈ lw_tbl := List.mem_of_getElem? (i := 144) rfl
set_option maxRecDepth 100000 in
theorem kX5_13 : Cond.methodLink RX5 13 yX6_eightBytes ∈ lw_tbl := List.mem_of_getElem? (i := 290) rfl
set_option maxRecDepth 100000 in
theorem kX5_19 : Cond.methodLink RX5 19 yX5_put ∈ lw_tbl := List.mem_of_getElem? (i := 291) rfl
set_option maxRecDepth 100000 in
theorem kX5_23 : Cond.methodLink RX5 23 yX5_high ∈ lw_tbl := List.mem_of_getElem? (i := 323) rfl
set_option maxRecDepth 100000 in
theorem kX5_26 : Cond.methodLink RX5 26 yX5_low ∈ lw_tbl := List.mem_of_getElem? (i := 324) rfl
set_option maxRecDepth 100000 in
theorem kX5_29 : Cond.methodLink RX5 29 yX5_mix ∈ lw_tbl := List.mem_of_getElem? (i := 550) rfl
set_option maxRecDepth 100000 in
theorem kX5_33 : Cond.constantLong RX5 33 (255) ∈ lw_tbl := List.mem_of_getElem? (i := 642) rfl
set_option maxRecDepth 100000 in
theorem kX5_35 : Cond.constantLong RX5 35 (4294967295) ∈ lw_tbl := List.mem_of_getElem? (i := 343) rfl
set_option maxRecDepth 100000 in
theorem kX5_37 : Cond.methodLink RX5 37 yX5_bitsOf ∈ lw_tbl := List.mem_of_getElem? (i := 363) rfl
set_option maxRecDepth 100000 in
theorem kX6_3 : Cond.methodLink RX6 3 objectInit ∈ lw_tbl := List.mem_of_getElem? (i := 70) rfl
set_option maxRecDepth 100000 in
theorem kX6_9 : Cond.fieldLink RX6 9 "GarbledWires$Tape" "bytes" "[B" ∈ lw_tbl := List.mem_of_getElem? (i := 71) rfl
set_option maxRecDepth 100000 in
theorem kX6_15 : Cond.fieldLink RX6 15 "GarbledWires$Tape" "size" "I" ∈ lw_tbl := List.mem_of_getElem? (i := 72) rfl
set_option maxRecDepth 100000 in
theorem kX6_19 : Cond.methodLink RX6 19 yX6_byteAt ∈ lw_tbl := List.mem_of_getElem? (i := 274) rfl
set_option maxRecDepth 100000 in
theorem kL_7 : Cond.classLink RL 7 RX7 ∈ lw_tbl := List.mem_of_getElem? (i := 57) rfl
set_option maxRecDepth 100000 in
theorem kL_9 : Cond.methodLink RL 9 yX7_init ∈ lw_tbl := List.mem_of_getElem? (i := 59) rfl
set_option maxRecDepth 100000 in
theorem kL_10 : Cond.classLink RL 10 RX8 ∈ lw_tbl := List.mem_of_getElem? (i := 747) rfl
set_option maxRecDepth 100000 in
theorem kL_12 : Cond.methodLink RL 12 yX8_init ∈ lw_tbl := List.mem_of_getElem? (i := 749) rfl
set_option maxRecDepth 100000 in
theorem kL_13 : Cond.constantLong RL 13 (4294967295) ∈ lw_tbl := List.mem_of_getElem? (i := 1119) rfl
set_option maxRecDepth 100000 in
theorem kL_15 : Cond.methodLink RL 15 yX7_feed ∈ lw_tbl := List.mem_of_getElem? (i := 250) rfl
set_option maxRecDepth 100000 in
theorem kL_19 : Cond.methodLink RL 19 yX8_feed ∈ lw_tbl := List.mem_of_getElem? (i := 888) rfl
set_option maxRecDepth 100000 in
theorem kL_20 : Cond.methodLink RL 20 yX7_clear ∈ lw_tbl := List.mem_of_getElem? (i := 258) rfl
set_option maxRecDepth 100000 in
theorem kL_24 : Cond.methodLink RL 24 yX8_clear ∈ lw_tbl := List.mem_of_getElem? (i := 896) rfl
set_option maxRecDepth 100000 in
theorem kL_25 : Cond.methodLink RL 25 yX7_key ∈ lw_tbl := List.mem_of_getElem? (i := 266) rfl
set_option maxRecDepth 100000 in
theorem kL_28 : Cond.methodLink RL 28 yX8_key ∈ lw_tbl := List.mem_of_getElem? (i := 904) rfl
set_option maxRecDepth 100000 in
theorem kL_29 : Cond.methodLink RL 29 yX7_make ∈ lw_tbl := List.mem_of_getElem? (i := 282) rfl
set_option maxRecDepth 100000 in
theorem kL_33 : Cond.methodLink RL 33 yX8_make ∈ lw_tbl := List.mem_of_getElem? (i := 908) rfl
set_option maxRecDepth 100000 in
theorem kL_34 : Cond.methodLink RL 34 yX7_result ∈ lw_tbl := List.mem_of_getElem? (i := 352) rfl
set_option maxRecDepth 100000 in
theorem kL_38 : Cond.methodLink RL 38 yX8_result ∈ lw_tbl := List.mem_of_getElem? (i := 931) rfl
set_option maxRecDepth 100000 in
theorem kL_39 : Cond.methodLink RL 39 yX7_circuit ∈ lw_tbl := List.mem_of_getElem? (i := 367) rfl
set_option maxRecDepth 100000 in
theorem kL_42 : Cond.methodLink RL 42 yX8_circuit ∈ lw_tbl := List.mem_of_getElem? (i := 935) rfl
set_option maxRecDepth 100000 in
theorem kL_43 : Cond.methodLink RL 43 yX7_about ∈ lw_tbl := List.mem_of_getElem? (i := 434) rfl
set_option maxRecDepth 100000 in
theorem kL_46 : Cond.methodLink RL 46 yX8_about ∈ lw_tbl := List.mem_of_getElem? (i := 969) rfl
set_option maxRecDepth 100000 in
theorem kL_47 : Cond.methodLink RL 47 yX7_gate ∈ lw_tbl := List.mem_of_getElem? (i := 443) rfl
set_option maxRecDepth 100000 in
theorem kL_51 : Cond.methodLink RL 51 yX8_gate ∈ lw_tbl := List.mem_of_getElem? (i := 981) rfl
set_option maxRecDepth 100000 in
theorem kL_52 : Cond.methodLink RL 52 yX7_output ∈ lw_tbl := List.mem_of_getElem? (i := 447) rfl
set_option maxRecDepth 100000 in
theorem kL_55 : Cond.methodLink RL 55 yX8_output ∈ lw_tbl := List.mem_of_getElem? (i := 985) rfl
set_option maxRecDepth 100000 in
theorem kL_56 : Cond.methodLink RL 56 yX7_plain ∈ lw_tbl := List.mem_of_getElem? (i := 451) rfl
set_option maxRecDepth 100000 in
theorem kL_59 : Cond.methodLink RL 59 yX8_plain ∈ lw_tbl := List.mem_of_getElem? (i := 989) rfl
set_option maxRecDepth 100000 in
theorem kL_60 : Cond.methodLink RL 60 yX7_garble ∈ lw_tbl := List.mem_of_getElem? (i := 465) rfl
set_option maxRecDepth 100000 in
theorem kL_63 : Cond.methodLink RL 63 yX8_garble ∈ lw_tbl := List.mem_of_getElem? (i := 1000) rfl
set_option maxRecDepth 100000 in
theorem kL_64 : Cond.methodLink RL 64 yX7_told ∈ lw_tbl := List.mem_of_getElem? (i := 585) rfl
set_option maxRecDepth 100000 in
theorem kL_67 : Cond.methodLink RL 67 yX8_told ∈ lw_tbl := List.mem_of_getElem? (i := 1026) rfl
set_option maxRecDepth 100000 in
theorem kL_68 : Cond.methodLink RL 68 yX7_label ∈ lw_tbl := List.mem_of_getElem? (i := 610) rfl
set_option maxRecDepth 100000 in
theorem kL_72 : Cond.methodLink RL 72 yX8_label ∈ lw_tbl := List.mem_of_getElem? (i := 1034) rfl
set_option maxRecDepth 100000 in
theorem kL_73 : Cond.methodLink RL 73 yX7_row ∈ lw_tbl := List.mem_of_getElem? (i := 621) rfl
set_option maxRecDepth 100000 in
theorem kL_76 : Cond.methodLink RL 76 yX8_row ∈ lw_tbl := List.mem_of_getElem? (i := 1038) rfl
set_option maxRecDepth 100000 in
theorem kL_77 : Cond.methodLink RL 77 yX7_spoil ∈ lw_tbl := List.mem_of_getElem? (i := 634) rfl
set_option maxRecDepth 100000 in
theorem kL_81 : Cond.methodLink RL 81 yX8_spoil ∈ lw_tbl := List.mem_of_getElem? (i := 1046) rfl
set_option maxRecDepth 100000 in
theorem kL_82 : Cond.methodLink RL 82 yX7_choose ∈ lw_tbl := List.mem_of_getElem? (i := 643) rfl
set_option maxRecDepth 100000 in
theorem kL_85 : Cond.methodLink RL 85 yX8_choose ∈ lw_tbl := List.mem_of_getElem? (i := 1050) rfl
set_option maxRecDepth 100000 in
theorem kL_86 : Cond.methodLink RL 86 yX7_encode ∈ lw_tbl := List.mem_of_getElem? (i := 653) rfl
set_option maxRecDepth 100000 in
theorem kL_89 : Cond.methodLink RL 89 yX8_encode ∈ lw_tbl := List.mem_of_getElem? (i := 1062) rfl
set_option maxRecDepth 100000 in
theorem kL_90 : Cond.methodLink RL 90 yX7_lay ∈ lw_tbl := List.mem_of_getElem? (i := 662) rfl
set_option maxRecDepth 100000 in
theorem kL_93 : Cond.methodLink RL 93 yX8_lay ∈ lw_tbl := List.mem_of_getElem? (i := 1066) rfl
set_option maxRecDepth 100000 in
theorem kL_94 : Cond.methodLink RL 94 yX7_workOut ∈ lw_tbl := List.mem_of_getElem? (i := 670) rfl
set_option maxRecDepth 100000 in
theorem kL_97 : Cond.methodLink RL 97 yX8_workOut ∈ lw_tbl := List.mem_of_getElem? (i := 1070) rfl
set_option maxRecDepth 100000 in
theorem kL_98 : Cond.methodLink RL 98 yX7_active ∈ lw_tbl := List.mem_of_getElem? (i := 690) rfl
set_option maxRecDepth 100000 in
theorem kL_101 : Cond.methodLink RL 101 yX8_active ∈ lw_tbl := List.mem_of_getElem? (i := 1078) rfl
set_option maxRecDepth 100000 in
theorem kL_102 : Cond.methodLink RL 102 yX7_place ∈ lw_tbl := List.mem_of_getElem? (i := 695) rfl
set_option maxRecDepth 100000 in
theorem kL_106 : Cond.methodLink RL 106 yX8_place ∈ lw_tbl := List.mem_of_getElem? (i := 1082) rfl
set_option maxRecDepth 100000 in
theorem kL_107 : Cond.methodLink RL 107 yX7_open ∈ lw_tbl := List.mem_of_getElem? (i := 713) rfl
set_option maxRecDepth 100000 in
theorem kL_110 : Cond.methodLink RL 110 yX8_open ∈ lw_tbl := List.mem_of_getElem? (i := 1090) rfl
set_option maxRecDepth 100000 in
theorem kL_111 : Cond.methodLink RL 111 yX7_openAll ∈ lw_tbl := List.mem_of_getElem? (i := 721) rfl
set_option maxRecDepth 100000 in
theorem kL_114 : Cond.methodLink RL 114 yX8_openAll ∈ lw_tbl := List.mem_of_getElem? (i := 1098) rfl
set_option maxRecDepth 100000 in
theorem kL_115 : Cond.methodLink RL 115 yX7_agrees ∈ lw_tbl := List.mem_of_getElem? (i := 734) rfl
set_option maxRecDepth 100000 in
theorem kL_118 : Cond.methodLink RL 118 yX8_agrees ∈ lw_tbl := List.mem_of_getElem? (i := 1106) rfl
set_option maxRecDepth 100000 in
theorem kL_119 : Cond.methodLink RL 119 yX7_count ∈ lw_tbl := List.mem_of_getElem? (i := 739) rfl
set_option maxRecDepth 100000 in
theorem kL_122 : Cond.methodLink RL 122 yX8_count ∈ lw_tbl := List.mem_of_getElem? (i := 1111) rfl
set_option maxRecDepth 100000 in
theorem kL_123 : Cond.methodLink RL 123 yX7_status ∈ lw_tbl := List.mem_of_getElem? (i := 743) rfl
set_option maxRecDepth 100000 in
theorem kL_126 : Cond.methodLink RL 126 yX8_status ∈ lw_tbl := List.mem_of_getElem? (i := 1115) rfl
set_option maxRecDepth 100000 in
theorem kX8_1 : Cond.methodLink RX8 1 objectInit ∈ lw_tbl := List.mem_of_getElem? (i := 752) rfl
set_option maxRecDepth 100000 in
theorem kX8_7 : Cond.fieldLink RX8 7 "GarbledWiresModel" "tape" "[I" ∈ lw_tbl := List.mem_of_getElem? (i := 762) rfl
set_option maxRecDepth 100000 in
theorem kX8_13 : Cond.fieldLink RX8 13 "GarbledWiresModel" "result" "[I" ∈ lw_tbl := List.mem_of_getElem? (i := 764) rfl
set_option maxRecDepth 100000 in
theorem kX8_16 : Cond.fieldLink RX8 16 "GarbledWiresModel" "box" "[I" ∈ lw_tbl := List.mem_of_getElem? (i := 766) rfl
set_option maxRecDepth 100000 in
theorem kX8_19 : Cond.fieldLink RX8 19 "GarbledWiresModel" "rounds" "[I" ∈ lw_tbl := List.mem_of_getElem? (i := 767) rfl
set_option maxRecDepth 100000 in
theorem kX8_22 : Cond.fieldLink RX8 22 "GarbledWiresModel" "block" "[I" ∈ lw_tbl := List.mem_of_getElem? (i := 768) rfl
set_option maxRecDepth 100000 in
theorem kX8_25 : Cond.fieldLink RX8 25 "GarbledWiresModel" "other" "[I" ∈ lw_tbl := List.mem_of_getElem? (i := 769) rfl
set_option maxRecDepth 100000 in
theorem kX8_28 : Cond.fieldLink RX8 28 "GarbledWiresModel" "inputs" "[I" ∈ lw_tbl := List.mem_of_getElem? (i := 771) rfl
set_option maxRecDepth 100000 in
theorem kX8_31 : Cond.fieldLink RX8 31 "GarbledWiresModel" "gates" "[I" ∈ lw_tbl := List.mem_of_getElem? (i := 772) rfl
set_option maxRecDepth 100000 in
theorem kX8_34 : Cond.fieldLink RX8 34 "GarbledWiresModel" "outputs" "[I" ∈ lw_tbl := List.mem_of_getElem? (i := 773) rfl
set_option maxRecDepth 100000 in
theorem kX8_37 : Cond.fieldLink RX8 37 "GarbledWiresModel" "tabled" "[I" ∈ lw_tbl := List.mem_of_getElem? (i := 774) rfl
set_option maxRecDepth 100000 in
theorem kX8_40 : Cond.fieldLink RX8 40 "GarbledWiresModel" "sign" "[I" ∈ lw_tbl := List.mem_of_getElem? (i := 775) rfl
set_option maxRecDepth 100000 in
theorem kX8_43 : Cond.fieldLink RX8 43 "GarbledWiresModel" "left" "[I" ∈ lw_tbl := List.mem_of_getElem? (i := 776) rfl
set_option maxRecDepth 100000 in
theorem kX8_46 : Cond.fieldLink RX8 46 "GarbledWiresModel" "right" "[I" ∈ lw_tbl := List.mem_of_getElem? (i := 777) rfl
set_option maxRecDepth 100000 in
theorem kX8_49 : Cond.fieldLink RX8 49 "GarbledWiresModel" "tableOf" "[I" ∈ lw_tbl := List.mem_of_getElem? (i := 778) rfl
set_option maxRecDepth 100000 in
theorem kX8_52 : Cond.fieldLink RX8 52 "GarbledWiresModel" "outputOf" "[I" ∈ lw_tbl := List.mem_of_getElem? (i := 779) rfl
set_option maxRecDepth 100000 in
theorem kX8_55 : Cond.fieldLink RX8 55 "GarbledWiresModel" "circuitOf" "[I" ∈ lw_tbl := List.mem_of_getElem? (i := 781) rfl
set_option maxRecDepth 100000 in
theorem kX8_58 : Cond.fieldLink RX8 58 "GarbledWiresModel" "way" "[I" ∈ lw_tbl := List.mem_of_getElem? (i := 782) rfl
set_option maxRecDepth 100000 in
theorem kX8_61 : Cond.fieldLink RX8 61 "GarbledWiresModel" "kind" "[I" ∈ lw_tbl := List.mem_of_getElem? (i := 783) rfl
set_option maxRecDepth 100000 in
theorem kX8_64 : Cond.fieldLink RX8 64 "GarbledWiresModel" "spent" "[I" ∈ lw_tbl := List.mem_of_getElem? (i := 784) rfl
set_option maxRecDepth 100000 in
theorem kX8_67 : Cond.fieldLink RX8 67 "GarbledWiresModel" "worked" "[I" ∈ lw_tbl := List.mem_of_getElem? (i := 785) rfl
set_option maxRecDepth 100000 in
theorem kX8_70 : Cond.fieldLink RX8 70 "GarbledWiresModel" "delta" "[I" ∈ lw_tbl := List.mem_of_getElem? (i := 786) rfl
set_option maxRecDepth 100000 in
theorem kX8_73 : Cond.fieldLink RX8 73 "GarbledWiresModel" "zero" "[I" ∈ lw_tbl := List.mem_of_getElem? (i := 787) rfl
set_option maxRecDepth 100000 in
theorem kX8_76 : Cond.fieldLink RX8 76 "GarbledWiresModel" "rows" "[I" ∈ lw_tbl := List.mem_of_getElem? (i := 788) rfl
set_option maxRecDepth 100000 in
theorem kX8_79 : Cond.fieldLink RX8 79 "GarbledWiresModel" "now" "[I" ∈ lw_tbl := List.mem_of_getElem? (i := 789) rfl
set_option maxRecDepth 100000 in
theorem kX8_82 : Cond.fieldLink RX8 82 "GarbledWiresModel" "has" "[Z" ∈ lw_tbl := List.mem_of_getElem? (i := 790) rfl
set_option maxRecDepth 100000 in
theorem kX8_86 : Cond.fieldLink RX8 86 "GarbledWiresModel" "kept" "[I" ∈ lw_tbl := List.mem_of_getElem? (i := 791) rfl
set_option maxRecDepth 100000 in
theorem kX8_89 : Cond.fieldLink RX8 89 "GarbledWiresModel" "keptHas" "[Z" ∈ lw_tbl := List.mem_of_getElem? (i := 792) rfl
set_option maxRecDepth 100000 in
theorem kX8_92 : Cond.fieldLink RX8 92 "GarbledWiresModel" "mask" "[I" ∈ lw_tbl := List.mem_of_getElem? (i := 793) rfl
set_option maxRecDepth 100000 in
theorem kX8_95 : Cond.fieldLink RX8 95 "GarbledWiresModel" "second" "[I" ∈ lw_tbl := List.mem_of_getElem? (i := 794) rfl
set_option maxRecDepth 100000 in
theorem kX8_98 : Cond.fieldLink RX8 98 "GarbledWiresModel" "hash" "[I" ∈ lw_tbl := List.mem_of_getElem? (i := 795) rfl
set_option maxRecDepth 100000 in
theorem kX8_101 : Cond.fieldLink RX8 101 "GarbledWiresModel" "truths" "[I" ∈ lw_tbl := List.mem_of_getElem? (i := 799) rfl
set_option maxRecDepth 100000 in
theorem kX8_104 : Cond.fieldLink RX8 104 "GarbledWiresModel" "one" "[I" ∈ lw_tbl := List.mem_of_getElem? (i := 800) rfl
set_option maxRecDepth 100000 in
theorem kX8_107 : Cond.fieldLink RX8 107 "GarbledWiresModel" "two" "[I" ∈ lw_tbl := List.mem_of_getElem? (i := 801) rfl
set_option maxRecDepth 100000 in
theorem kX8_110 : Cond.methodLink RX8 110 yX8_times ∈ lw_tbl := List.mem_of_getElem? (i := 753) rfl
set_option maxRecDepth 100000 in
theorem kX8_114 : Cond.methodLink RX8 114 yX8_spreads ∈ lw_tbl := List.mem_of_getElem? (i := 756) rfl
set_option maxRecDepth 100000 in
theorem kX8_117 : Cond.fieldLink RX8 117 "GarbledWiresModel" "thrown" "I" ∈ lw_tbl := List.mem_of_getElem? (i := 760) rfl
set_option maxRecDepth 100000 in
theorem kX8_121 : Cond.fieldLink RX8 121 "GarbledWiresModel" "blocks" "I" ∈ lw_tbl := List.mem_of_getElem? (i := 765) rfl
set_option maxRecDepth 100000 in
theorem kX8_124 : Cond.methodLink RX8 124 yX8_ciphers ∈ lw_tbl := List.mem_of_getElem? (i := 912) rfl
set_option maxRecDepth 100000 in
theorem kX8_127 : Cond.methodLink RX8 127 yX8_doubles ∈ lw_tbl := List.mem_of_getElem? (i := 916) rfl
set_option maxRecDepth 100000 in
theorem kX8_131 : Cond.methodLink RX8 131 yX8_hashes ∈ lw_tbl := List.mem_of_getElem? (i := 923) rfl
set_option maxRecDepth 100000 in
theorem kX8_135 : Cond.methodLink RX8 135 yX8_in ∈ lw_tbl := List.mem_of_getElem? (i := 892) rfl
set_option maxRecDepth 100000 in
theorem kX8_139 : Cond.fieldLink RX8 139 "GarbledWiresModel" "size" "I" ∈ lw_tbl := List.mem_of_getElem? (i := 763) rfl
set_option maxRecDepth 100000 in
theorem kX8_142 : Cond.constantLong RX8 142 (255) ∈ lw_tbl := List.mem_of_getElem? (i := 895) rfl
set_option maxRecDepth 100000 in
theorem kX8_144 : Cond.methodLink RX8 144 yX8_uses ∈ lw_tbl := List.mem_of_getElem? (i := 900) rfl
set_option maxRecDepth 100000 in
theorem kX8_148 : Cond.fieldLink RX8 148 "GarbledWiresModel" "many" "I" ∈ lw_tbl := List.mem_of_getElem? (i := 780) rfl
set_option maxRecDepth 100000 in
theorem kX8_151 : Cond.methodLink RX8 151 yX8_hashOne ∈ lw_tbl := List.mem_of_getElem? (i := 919) rfl
set_option maxRecDepth 100000 in
theorem kX8_155 : Cond.methodLink RX8 155 yX8_hashTwo ∈ lw_tbl := List.mem_of_getElem? (i := 927) rfl
set_option maxRecDepth 100000 in
theorem kX8_159 : Cond.fieldLink RX8 159 "GarbledWiresModel" "wrong" "I" ∈ lw_tbl := List.mem_of_getElem? (i := 798) rfl
set_option maxRecDepth 100000 in
theorem kX8_162 : Cond.fieldLink RX8 162 "GarbledWiresModel" "at" "I" ∈ lw_tbl := List.mem_of_getElem? (i := 796) rfl
set_option maxRecDepth 100000 in
theorem kX8_165 : Cond.fieldLink RX8 165 "GarbledWiresModel" "end" "I" ∈ lw_tbl := List.mem_of_getElem? (i := 797) rfl
set_option maxRecDepth 100000 in
theorem kX8_168 : Cond.methodLink RX8 168 yX8_byteAt ∈ lw_tbl := List.mem_of_getElem? (i := 943) rfl
set_option maxRecDepth 100000 in
theorem kX8_171 : Cond.methodLink RX8 171 yX8_isDigit ∈ lw_tbl := List.mem_of_getElem? (i := 951) rfl
set_option maxRecDepth 100000 in
theorem kX8_175 : Cond.methodLink RX8 175 yX8_fault ∈ lw_tbl := List.mem_of_getElem? (i := 954) rfl
set_option maxRecDepth 100000 in
theorem kX8_178 : Cond.methodLink RX8 178 yX8_blanks ∈ lw_tbl := List.mem_of_getElem? (i := 939) rfl
set_option maxRecDepth 100000 in
theorem kX8_181 : Cond.methodLink RX8 181 yX8_isSign ∈ lw_tbl := List.mem_of_getElem? (i := 966) rfl
set_option maxRecDepth 100000 in
theorem kX8_184 : Cond.methodLink RX8 184 yX8_number ∈ lw_tbl := List.mem_of_getElem? (i := 947) rfl
set_option maxRecDepth 100000 in
theorem kX8_187 : Cond.methodLink RX8 187 yX8_take ∈ lw_tbl := List.mem_of_getElem? (i := 958) rfl
set_option maxRecDepth 100000 in
theorem kX8_190 : Cond.fieldLink RX8 190 "GarbledWiresModel" "circuits" "I" ∈ lw_tbl := List.mem_of_getElem? (i := 770) rfl
set_option maxRecDepth 100000 in
theorem kX8_193 : Cond.methodLink RX8 193 yX8_readGate ∈ lw_tbl := List.mem_of_getElem? (i := 962) rfl
set_option maxRecDepth 100000 in
theorem kX8_196 : Cond.methodLink RX8 196 yX8_isCircuit ∈ lw_tbl := List.mem_of_getElem? (i := 973) rfl
set_option maxRecDepth 100000 in
theorem kX8_199 : Cond.methodLink RX8 199 yX8_wiresOf ∈ lw_tbl := List.mem_of_getElem? (i := 977) rfl
set_option maxRecDepth 100000 in
theorem kX8_203 : Cond.methodLink RX8 203 yX8_truth ∈ lw_tbl := List.mem_of_getElem? (i := 997) rfl
set_option maxRecDepth 100000 in
theorem kX8_207 : Cond.methodLink RX8 207 yX8_plainOf ∈ lw_tbl := List.mem_of_getElem? (i := 993) rfl
set_option maxRecDepth 100000 in
theorem kX8_210 : Cond.methodLink RX8 210 yX8_placeOf ∈ lw_tbl := List.mem_of_getElem? (i := 1004) rfl
set_option maxRecDepth 100000 in
theorem kX8_213 : Cond.methodLink RX8 213 yX8_colour ∈ lw_tbl := List.mem_of_getElem? (i := 1022) rfl
set_option maxRecDepth 100000 in
theorem kX8_216 : Cond.methodLink RX8 216 yX8_pair ∈ lw_tbl := List.mem_of_getElem? (i := 1011) rfl
set_option maxRecDepth 100000 in
theorem kX8_220 : Cond.methodLink RX8 220 yX8_rowAt ∈ lw_tbl := List.mem_of_getElem? (i := 1015) rfl
set_option maxRecDepth 100000 in
theorem kX8_223 : Cond.methodLink RX8 223 yX8_halves ∈ lw_tbl := List.mem_of_getElem? (i := 1007) rfl
set_option maxRecDepth 100000 in
theorem kX8_227 : Cond.methodLink RX8 227 yX8_tables ∈ lw_tbl := List.mem_of_getElem? (i := 1018) rfl
set_option maxRecDepth 100000 in
theorem kX8_230 : Cond.methodLink RX8 230 yX8_isGarbled ∈ lw_tbl := List.mem_of_getElem? (i := 1030) rfl
set_option maxRecDepth 100000 in
theorem kX8_233 : Cond.methodLink RX8 233 yX8_isStored ∈ lw_tbl := List.mem_of_getElem? (i := 1042) rfl
set_option maxRecDepth 100000 in
theorem kX8_237 : Cond.methodLink RX8 237 yX8_chooses ∈ lw_tbl := List.mem_of_getElem? (i := 1054) rfl
set_option maxRecDepth 100000 in
theorem kX8_241 : Cond.methodLink RX8 241 yX8_drops ∈ lw_tbl := List.mem_of_getElem? (i := 1058) rfl
set_option maxRecDepth 100000 in
theorem kX8_244 : Cond.methodLink RX8 244 yX8_works ∈ lw_tbl := List.mem_of_getElem? (i := 1074) rfl
set_option maxRecDepth 100000 in
theorem kX8_247 : Cond.fieldLink RX8 247 "GarbledWiresModel" "status" "I" ∈ lw_tbl := List.mem_of_getElem? (i := 761) rfl
set_option maxRecDepth 100000 in
theorem kX8_250 : Cond.methodLink RX8 250 yX8_no ∈ lw_tbl := List.mem_of_getElem? (i := 1086) rfl
set_option maxRecDepth 100000 in
theorem kX8_254 : Cond.methodLink RX8 254 yX8_opened ∈ lw_tbl := List.mem_of_getElem? (i := 1094) rfl
set_option maxRecDepth 100000 in
theorem kX8_257 : Cond.methodLink RX8 257 yX8_openedAll ∈ lw_tbl := List.mem_of_getElem? (i := 1102) rfl
set_option maxRecDepth 100000 in
theorem kX8_260 : Cond.constant RX8 260 (65536) ∈ lw_tbl := List.mem_of_getElem? (i := 1110) rfl
set_option maxRecDepth 100000 in
theorem nX0_init : Cond.instanceMethod yX0_init ∈ lw_tbl := List.mem_of_getElem? (i := 102) rfl
set_option maxRecDepth 100000 in
theorem nX0_takeKey : Cond.instanceMethod yX0_takeKey ∈ lw_tbl := List.mem_of_getElem? (i := 279) rfl
set_option maxRecDepth 100000 in
theorem seX0_takeKey : Cond.selects RX0 yX0_takeKey yX0_takeKey ∈ lw_tbl := List.mem_of_getElem? (i := 280) rfl
set_option maxRecDepth 100000 in
theorem nX0_expandKeys : Cond.instanceMethod yX0_expandKeys ∈ lw_tbl := List.mem_of_getElem? (i := 107) rfl
set_option maxRecDepth 100000 in
theorem seX0_expandKeys : Cond.selects RX0 yX0_expandKeys yX0_expandKeys ∈ lw_tbl := List.mem_of_getElem? (i := 0) rfl
set_option maxRecDepth 100000 in
theorem nX0_makeBlock : Cond.instanceMethod yX0_makeBlock ∈ lw_tbl := List.mem_of_getElem? (i := 296) rfl
set_option maxRecDepth 100000 in
theorem seX0_makeBlock : Cond.selects RX0 yX0_makeBlock yX0_makeBlock ∈ lw_tbl := List.mem_of_getElem? (i := 297) rfl
set_option maxRecDepth 100000 in
theorem nX0_hashOne : Cond.instanceMethod yX0_hashOne ∈ lw_tbl := List.mem_of_getElem? (i := 330) rfl
set_option maxRecDepth 100000 in
theorem seX0_hashOne : Cond.selects RX0 yX0_hashOne yX0_hashOne ∈ lw_tbl := List.mem_of_getElem? (i := 331) rfl
set_option maxRecDepth 100000 in
theorem nX0_hashTwo : Cond.instanceMethod yX0_hashTwo ∈ lw_tbl := List.mem_of_getElem? (i := 345) rfl
set_option maxRecDepth 100000 in
theorem seX0_hashTwo : Cond.selects RX0 yX0_hashTwo yX0_hashTwo ∈ lw_tbl := List.mem_of_getElem? (i := 346) rfl
set_option maxRecDepth 100000 in
theorem nX0_hashMade : Cond.instanceMethod yX0_hashMade ∈ lw_tbl := List.mem_of_getElem? (i := 337) rfl
set_option maxRecDepth 100000 in
theorem seX0_hashMade : Cond.selects RX0 yX0_hashMade yX0_hashMade ∈ lw_tbl := List.mem_of_getElem? (i := 2) rfl
set_option maxRecDepth 100000 in
theorem nX0_encrypt : Cond.instanceMethod yX0_encrypt ∈ lw_tbl := List.mem_of_getElem? (i := 309) rfl
set_option maxRecDepth 100000 in
theorem seX0_encrypt : Cond.selects RX0 yX0_encrypt yX0_encrypt ∈ lw_tbl := List.mem_of_getElem? (i := 1) rfl
set_option maxRecDepth 100000 in
theorem stX0_mixedColumn : Cond.static yX0_mixedColumn ∈ lw_tbl := List.mem_of_getElem? (i := 312) rfl
set_option maxRecDepth 100000 in
theorem stX0_lastColumn : Cond.static yX0_lastColumn ∈ lw_tbl := List.mem_of_getElem? (i := 110) rfl
set_option maxRecDepth 100000 in
theorem stX0_joined : Cond.static yX0_joined ∈ lw_tbl := List.mem_of_getElem? (i := 315) rfl
set_option maxRecDepth 100000 in
theorem nX1_init : Cond.instanceMethod yX1_init ∈ lw_tbl := List.mem_of_getElem? (i := 164) rfl
set_option maxRecDepth 100000 in
theorem nX1_startWith : Cond.instanceMethod yX1_startWith ∈ lw_tbl := List.mem_of_getElem? (i := 400) rfl
set_option maxRecDepth 100000 in
theorem seX1_startWith : Cond.selects RX1 yX1_startWith yX1_startWith ∈ lw_tbl := List.mem_of_getElem? (i := 401) rfl
set_option maxRecDepth 100000 in
theorem nX1_addGate : Cond.instanceMethod yX1_addGate ∈ lw_tbl := List.mem_of_getElem? (i := 423) rfl
set_option maxRecDepth 100000 in
theorem seX1_addGate : Cond.selects RX1 yX1_addGate yX1_addGate ∈ lw_tbl := List.mem_of_getElem? (i := 424) rfl
set_option maxRecDepth 100000 in
theorem nX1_addOutput : Cond.instanceMethod yX1_addOutput ∈ lw_tbl := List.mem_of_getElem? (i := 431) rfl
set_option maxRecDepth 100000 in
theorem seX1_addOutput : Cond.selects RX1 yX1_addOutput yX1_addOutput ∈ lw_tbl := List.mem_of_getElem? (i := 432) rfl
set_option maxRecDepth 100000 in
theorem nX1_wireCount : Cond.instanceMethod yX1_wireCount ∈ lw_tbl := List.mem_of_getElem? (i := 419) rfl
set_option maxRecDepth 100000 in
theorem seX1_wireCount : Cond.selects RX1 yX1_wireCount yX1_wireCount ∈ lw_tbl := List.mem_of_getElem? (i := 420) rfl
set_option maxRecDepth 100000 in
theorem nX1_coinsFor : Cond.instanceMethod yX1_coinsFor ∈ lw_tbl := List.mem_of_getElem? (i := 473) rfl
set_option maxRecDepth 100000 in
theorem seX1_coinsFor : Cond.selects RX1 yX1_coinsFor yX1_coinsFor ∈ lw_tbl := List.mem_of_getElem? (i := 474) rfl
set_option maxRecDepth 100000 in
theorem nX1_outputTruths : Cond.instanceMethod yX1_outputTruths ∈ lw_tbl := List.mem_of_getElem? (i := 456) rfl
set_option maxRecDepth 100000 in
theorem seX1_outputTruths : Cond.selects RX1 yX1_outputTruths yX1_outputTruths ∈ lw_tbl := List.mem_of_getElem? (i := 457) rfl
set_option maxRecDepth 100000 in
theorem stX1_bitOf : Cond.static yX1_bitOf ∈ lw_tbl := List.mem_of_getElem? (i := 460) rfl
set_option maxRecDepth 100000 in
theorem stX1_isSign : Cond.static yX1_isSign ∈ lw_tbl := List.mem_of_getElem? (i := 412) rfl
set_option maxRecDepth 100000 in
theorem stX1_turnsLeft : Cond.static yX1_turnsLeft ∈ lw_tbl := List.mem_of_getElem? (i := 558) rfl
set_option maxRecDepth 100000 in
theorem stX1_turnsRight : Cond.static yX1_turnsRight ∈ lw_tbl := List.mem_of_getElem? (i := 561) rfl
set_option maxRecDepth 100000 in
theorem stX1_turnsWhatComes : Cond.static yX1_turnsWhatComes ∈ lw_tbl := List.mem_of_getElem? (i := 577) rfl
set_option maxRecDepth 100000 in
theorem stX1_truthOf : Cond.static yX1_truthOf ∈ lw_tbl := List.mem_of_getElem? (i := 463) rfl
set_option maxRecDepth 100000 in
theorem nX2_init : Cond.instanceMethod yX2_init ∈ lw_tbl := List.mem_of_getElem? (i := 83) rfl
set_option maxRecDepth 100000 in
theorem nX2_readInto : Cond.instanceMethod yX2_readInto ∈ lw_tbl := List.mem_of_getElem? (i := 372) rfl
set_option maxRecDepth 100000 in
theorem seX2_readInto : Cond.selects RX2 yX2_readInto yX2_readInto ∈ lw_tbl := List.mem_of_getElem? (i := 373) rfl
set_option maxRecDepth 100000 in
theorem nX2_readGates : Cond.instanceMethod yX2_readGates ∈ lw_tbl := List.mem_of_getElem? (i := 409) rfl
set_option maxRecDepth 100000 in
theorem seX2_readGates : Cond.selects RX2 yX2_readGates yX2_readGates ∈ lw_tbl := List.mem_of_getElem? (i := 9) rfl
set_option maxRecDepth 100000 in
theorem nX2_readGate : Cond.instanceMethod yX2_readGate ∈ lw_tbl := List.mem_of_getElem? (i := 416) rfl
set_option maxRecDepth 100000 in
theorem seX2_readGate : Cond.selects RX2 yX2_readGate yX2_readGate ∈ lw_tbl := List.mem_of_getElem? (i := 10) rfl
set_option maxRecDepth 100000 in
theorem nX2_readOutputs : Cond.instanceMethod yX2_readOutputs ∈ lw_tbl := List.mem_of_getElem? (i := 428) rfl
set_option maxRecDepth 100000 in
theorem seX2_readOutputs : Cond.selects RX2 yX2_readOutputs yX2_readOutputs ∈ lw_tbl := List.mem_of_getElem? (i := 11) rfl
set_option maxRecDepth 100000 in
theorem nX2_readMark : Cond.instanceMethod yX2_readMark ∈ lw_tbl := List.mem_of_getElem? (i := 405) rfl
set_option maxRecDepth 100000 in
theorem seX2_readMark : Cond.selects RX2 yX2_readMark yX2_readMark ∈ lw_tbl := List.mem_of_getElem? (i := 8) rfl
set_option maxRecDepth 100000 in
theorem nX2_readNumber : Cond.instanceMethod yX2_readNumber ∈ lw_tbl := List.mem_of_getElem? (i := 377) rfl
set_option maxRecDepth 100000 in
theorem seX2_readNumber : Cond.selects RX2 yX2_readNumber yX2_readNumber ∈ lw_tbl := List.mem_of_getElem? (i := 3) rfl
set_option maxRecDepth 100000 in
theorem nX2_skipBlanks : Cond.instanceMethod yX2_skipBlanks ∈ lw_tbl := List.mem_of_getElem? (i := 385) rfl
set_option maxRecDepth 100000 in
theorem seX2_skipBlanks : Cond.selects RX2 yX2_skipBlanks yX2_skipBlanks ∈ lw_tbl := List.mem_of_getElem? (i := 5) rfl
set_option maxRecDepth 100000 in
theorem nX2_look : Cond.instanceMethod yX2_look ∈ lw_tbl := List.mem_of_getElem? (i := 389) rfl
set_option maxRecDepth 100000 in
theorem seX2_look : Cond.selects RX2 yX2_look yX2_look ∈ lw_tbl := List.mem_of_getElem? (i := 6) rfl
set_option maxRecDepth 100000 in
theorem nX2_fail : Cond.instanceMethod yX2_fail ∈ lw_tbl := List.mem_of_getElem? (i := 397) rfl
set_option maxRecDepth 100000 in
theorem seX2_fail : Cond.selects RX2 yX2_fail yX2_fail ∈ lw_tbl := List.mem_of_getElem? (i := 7) rfl
set_option maxRecDepth 100000 in
theorem nX2_isFine : Cond.instanceMethod yX2_isFine ∈ lw_tbl := List.mem_of_getElem? (i := 381) rfl
set_option maxRecDepth 100000 in
theorem seX2_isFine : Cond.selects RX2 yX2_isFine yX2_isFine ∈ lw_tbl := List.mem_of_getElem? (i := 4) rfl
set_option maxRecDepth 100000 in
theorem stX2_isDigit : Cond.static yX2_isDigit ∈ lw_tbl := List.mem_of_getElem? (i := 393) rfl
set_option maxRecDepth 100000 in
theorem nX3_init : Cond.instanceMethod yX3_init ∈ lw_tbl := List.mem_of_getElem? (i := 478) rfl
set_option maxRecDepth 100000 in
theorem nX3_takeCoins : Cond.instanceMethod yX3_takeCoins ∈ lw_tbl := List.mem_of_getElem? (i := 530) rfl
set_option maxRecDepth 100000 in
theorem seX3_takeCoins : Cond.selects RX3 yX3_takeCoins yX3_takeCoins ∈ lw_tbl := List.mem_of_getElem? (i := 531) rfl
set_option maxRecDepth 100000 in
theorem nX3_isWire : Cond.instanceMethod yX3_isWire ∈ lw_tbl := List.mem_of_getElem? (i := 615) rfl
set_option maxRecDepth 100000 in
theorem seX3_isWire : Cond.selects RX3 yX3_isWire yX3_isWire ∈ lw_tbl := List.mem_of_getElem? (i := 616) rfl
set_option maxRecDepth 100000 in
theorem nX3_isInput : Cond.instanceMethod yX3_isInput ∈ lw_tbl := List.mem_of_getElem? (i := 607) rfl
set_option maxRecDepth 100000 in
theorem seX3_isInput : Cond.selects RX3 yX3_isInput yX3_isInput ∈ lw_tbl := List.mem_of_getElem? (i := 608) rfl
set_option maxRecDepth 100000 in
theorem nX3_isRow : Cond.instanceMethod yX3_isRow ∈ lw_tbl := List.mem_of_getElem? (i := 626) rfl
set_option maxRecDepth 100000 in
theorem seX3_isRow : Cond.selects RX3 yX3_isRow yX3_isRow ∈ lw_tbl := List.mem_of_getElem? (i := 627) rfl
set_option maxRecDepth 100000 in
theorem nX3_isStored : Cond.instanceMethod yX3_isStored ∈ lw_tbl := List.mem_of_getElem? (i := 630) rfl
set_option maxRecDepth 100000 in
theorem seX3_isStored : Cond.selects RX3 yX3_isStored yX3_isStored ∈ lw_tbl := List.mem_of_getElem? (i := 631) rfl
set_option maxRecDepth 100000 in
theorem nX3_storedRows : Cond.instanceMethod yX3_storedRows ∈ lw_tbl := List.mem_of_getElem? (i := 594) rfl
set_option maxRecDepth 100000 in
theorem seX3_storedRows : Cond.selects RX3 yX3_storedRows yX3_storedRows ∈ lw_tbl := List.mem_of_getElem? (i := 595) rfl
set_option maxRecDepth 100000 in
theorem stX3_rowPlace : Cond.static yX3_rowPlace ∈ lw_tbl := List.mem_of_getElem? (i := 565) rfl
set_option maxRecDepth 100000 in
theorem nX3_putLabelFor : Cond.instanceMethod yX3_putLabelFor ∈ lw_tbl := List.mem_of_getElem? (i := 542) rfl
set_option maxRecDepth 100000 in
theorem seX3_putLabelFor : Cond.selects RX3 yX3_putLabelFor yX3_putLabelFor ∈ lw_tbl := List.mem_of_getElem? (i := 543) rfl
set_option maxRecDepth 100000 in
theorem nX3_putInputs : Cond.instanceMethod yX3_putInputs ∈ lw_tbl := List.mem_of_getElem? (i := 658) rfl
set_option maxRecDepth 100000 in
theorem seX3_putInputs : Cond.selects RX3 yX3_putInputs yX3_putInputs ∈ lw_tbl := List.mem_of_getElem? (i := 659) rfl
set_option maxRecDepth 100000 in
theorem nX3_noteGiven : Cond.instanceMethod yX3_noteGiven ∈ lw_tbl := List.mem_of_getElem? (i := 650) rfl
set_option maxRecDepth 100000 in
theorem seX3_noteGiven : Cond.selects RX3 yX3_noteGiven yX3_noteGiven ∈ lw_tbl := List.mem_of_getElem? (i := 651) rfl
set_option maxRecDepth 100000 in
theorem nX3_noteMissing : Cond.instanceMethod yX3_noteMissing ∈ lw_tbl := List.mem_of_getElem? (i := 667) rfl
set_option maxRecDepth 100000 in
theorem seX3_noteMissing : Cond.selects RX3 yX3_noteMissing yX3_noteMissing ∈ lw_tbl := List.mem_of_getElem? (i := 668) rfl
set_option maxRecDepth 100000 in
theorem nX3_hasAllInputs : Cond.instanceMethod yX3_hasAllInputs ∈ lw_tbl := List.mem_of_getElem? (i := 675) rfl
set_option maxRecDepth 100000 in
theorem seX3_hasAllInputs : Cond.selects RX3 yX3_hasAllInputs yX3_hasAllInputs ∈ lw_tbl := List.mem_of_getElem? (i := 676) rfl
set_option maxRecDepth 100000 in
theorem nX3_hasLabel : Cond.instanceMethod yX3_hasLabel ∈ lw_tbl := List.mem_of_getElem? (i := 603) rfl
set_option maxRecDepth 100000 in
theorem seX3_hasLabel : Cond.selects RX3 yX3_hasLabel yX3_hasLabel ∈ lw_tbl := List.mem_of_getElem? (i := 604) rfl
set_option maxRecDepth 100000 in
theorem nX3_hasAllOutputs : Cond.instanceMethod yX3_hasAllOutputs ∈ lw_tbl := List.mem_of_getElem? (i := 726) rfl
set_option maxRecDepth 100000 in
theorem seX3_hasAllOutputs : Cond.selects RX3 yX3_hasAllOutputs yX3_hasAllOutputs ∈ lw_tbl := List.mem_of_getElem? (i := 727) rfl
set_option maxRecDepth 100000 in
theorem nX3_labelledWires : Cond.instanceMethod yX3_labelledWires ∈ lw_tbl := List.mem_of_getElem? (i := 598) rfl
set_option maxRecDepth 100000 in
theorem seX3_labelledWires : Cond.selects RX3 yX3_labelledWires yX3_labelledWires ∈ lw_tbl := List.mem_of_getElem? (i := 599) rfl
set_option maxRecDepth 100000 in
theorem nX3_openWire : Cond.instanceMethod yX3_openWire ∈ lw_tbl := List.mem_of_getElem? (i := 718) rfl
set_option maxRecDepth 100000 in
theorem seX3_openWire : Cond.selects RX3 yX3_openWire yX3_openWire ∈ lw_tbl := List.mem_of_getElem? (i := 719) rfl
set_option maxRecDepth 100000 in
theorem nX3_openOutputs : Cond.instanceMethod yX3_openOutputs ∈ lw_tbl := List.mem_of_getElem? (i := 730) rfl
set_option maxRecDepth 100000 in
theorem seX3_openOutputs : Cond.selects RX3 yX3_openOutputs yX3_openOutputs ∈ lw_tbl := List.mem_of_getElem? (i := 731) rfl
set_option maxRecDepth 100000 in
theorem nX4_init : Cond.instanceMethod yX4_init ∈ lw_tbl := List.mem_of_getElem? (i := 135) rfl
set_option maxRecDepth 100000 in
theorem nX4_makeTables : Cond.instanceMethod yX4_makeTables ∈ lw_tbl := List.mem_of_getElem? (i := 538) rfl
set_option maxRecDepth 100000 in
theorem seX4_makeTables : Cond.selects RX4 yX4_makeTables yX4_makeTables ∈ lw_tbl := List.mem_of_getElem? (i := 539) rfl
set_option maxRecDepth 100000 in
theorem nX4_follow : Cond.instanceMethod yX4_follow ∈ lw_tbl := List.mem_of_getElem? (i := 679) rfl
set_option maxRecDepth 100000 in
theorem seX4_follow : Cond.selects RX4 yX4_follow yX4_follow ∈ lw_tbl := List.mem_of_getElem? (i := 680) rfl
set_option maxRecDepth 100000 in
theorem nX4_makeRows : Cond.instanceMethod yX4_makeRows ∈ lw_tbl := List.mem_of_getElem? (i := 581) rfl
set_option maxRecDepth 100000 in
theorem seX4_makeRows : Cond.selects RX4 yX4_makeRows yX4_makeRows ∈ lw_tbl := List.mem_of_getElem? (i := 15) rfl
set_option maxRecDepth 100000 in
theorem nX4_followRows : Cond.instanceMethod yX4_followRows ∈ lw_tbl := List.mem_of_getElem? (i := 688) rfl
set_option maxRecDepth 100000 in
theorem seX4_followRows : Cond.selects RX4 yX4_followRows yX4_followRows ∈ lw_tbl := List.mem_of_getElem? (i := 18) rfl
set_option maxRecDepth 100000 in
theorem nX4_makeHalves : Cond.instanceMethod yX4_makeHalves ∈ lw_tbl := List.mem_of_getElem? (i := 555) rfl
set_option maxRecDepth 100000 in
theorem seX4_makeHalves : Cond.selects RX4 yX4_makeHalves yX4_makeHalves ∈ lw_tbl := List.mem_of_getElem? (i := 13) rfl
set_option maxRecDepth 100000 in
theorem nX4_followHalves : Cond.instanceMethod yX4_followHalves ∈ lw_tbl := List.mem_of_getElem? (i := 684) rfl
set_option maxRecDepth 100000 in
theorem seX4_followHalves : Cond.selects RX4 yX4_followHalves yX4_followHalves ∈ lw_tbl := List.mem_of_getElem? (i := 17) rfl
set_option maxRecDepth 100000 in
theorem nX4_joinHalves : Cond.instanceMethod yX4_joinHalves ∈ lw_tbl := List.mem_of_getElem? (i := 574) rfl
set_option maxRecDepth 100000 in
theorem seX4_joinHalves : Cond.selects RX4 yX4_joinHalves yX4_joinHalves ∈ lw_tbl := List.mem_of_getElem? (i := 14) rfl
set_option maxRecDepth 100000 in
theorem nX5_init : Cond.instanceMethod yX5_init ∈ lw_tbl := List.mem_of_getElem? (i := 141) rfl
set_option maxRecDepth 100000 in
theorem nX5_put : Cond.instanceMethod yX5_put ∈ lw_tbl := List.mem_of_getElem? (i := 292) rfl
set_option maxRecDepth 100000 in
theorem seX5_put : Cond.selects RX5 yX5_put yX5_put ∈ lw_tbl := List.mem_of_getElem? (i := 293) rfl
set_option maxRecDepth 100000 in
theorem nX5_putFromTape : Cond.instanceMethod yX5_putFromTape ∈ lw_tbl := List.mem_of_getElem? (i := 287) rfl
set_option maxRecDepth 100000 in
theorem seX5_putFromTape : Cond.selects RX5 yX5_putFromTape yX5_putFromTape ∈ lw_tbl := List.mem_of_getElem? (i := 288) rfl
set_option maxRecDepth 100000 in
theorem nX5_copy : Cond.instanceMethod yX5_copy ∈ lw_tbl := List.mem_of_getElem? (i := 320) rfl
set_option maxRecDepth 100000 in
theorem seX5_copy : Cond.selects RX5 yX5_copy yX5_copy ∈ lw_tbl := List.mem_of_getElem? (i := 321) rfl
set_option maxRecDepth 100000 in
theorem nX5_mix : Cond.instanceMethod yX5_mix ∈ lw_tbl := List.mem_of_getElem? (i := 349) rfl
set_option maxRecDepth 100000 in
theorem seX5_mix : Cond.selects RX5 yX5_mix yX5_mix ∈ lw_tbl := List.mem_of_getElem? (i := 350) rfl
set_option maxRecDepth 100000 in
theorem nX5_mixIf : Cond.instanceMethod yX5_mixIf ∈ lw_tbl := List.mem_of_getElem? (i := 547) rfl
set_option maxRecDepth 100000 in
theorem seX5_mixIf : Cond.selects RX5 yX5_mixIf yX5_mixIf ∈ lw_tbl := List.mem_of_getElem? (i := 548) rfl
set_option maxRecDepth 100000 in
theorem nX5_mixByte : Cond.instanceMethod yX5_mixByte ∈ lw_tbl := List.mem_of_getElem? (i := 639) rfl
set_option maxRecDepth 100000 in
theorem seX5_mixByte : Cond.selects RX5 yX5_mixByte yX5_mixByte ∈ lw_tbl := List.mem_of_getElem? (i := 640) rfl
set_option maxRecDepth 100000 in
theorem nX5_mixNumber : Cond.instanceMethod yX5_mixNumber ∈ lw_tbl := List.mem_of_getElem? (i := 340) rfl
set_option maxRecDepth 100000 in
theorem seX5_mixNumber : Cond.selects RX5 yX5_mixNumber yX5_mixNumber ∈ lw_tbl := List.mem_of_getElem? (i := 341) rfl
set_option maxRecDepth 100000 in
theorem nX5_makeDouble : Cond.instanceMethod yX5_makeDouble ∈ lw_tbl := List.mem_of_getElem? (i := 326) rfl
set_option maxRecDepth 100000 in
theorem seX5_makeDouble : Cond.selects RX5 yX5_makeDouble yX5_makeDouble ∈ lw_tbl := List.mem_of_getElem? (i := 327) rfl
set_option maxRecDepth 100000 in
theorem nX5_high : Cond.instanceMethod yX5_high ∈ lw_tbl := List.mem_of_getElem? (i := 300) rfl
set_option maxRecDepth 100000 in
theorem seX5_high : Cond.selects RX5 yX5_high yX5_high ∈ lw_tbl := List.mem_of_getElem? (i := 301) rfl
set_option maxRecDepth 100000 in
theorem nX5_low : Cond.instanceMethod yX5_low ∈ lw_tbl := List.mem_of_getElem? (i := 304) rfl
set_option maxRecDepth 100000 in
theorem seX5_low : Cond.selects RX5 yX5_low yX5_low ∈ lw_tbl := List.mem_of_getElem? (i := 305) rfl
set_option maxRecDepth 100000 in
theorem nX5_colour : Cond.instanceMethod yX5_colour ∈ lw_tbl := List.mem_of_getElem? (i := 568) rfl
set_option maxRecDepth 100000 in
theorem seX5_colour : Cond.selects RX5 yX5_colour yX5_colour ∈ lw_tbl := List.mem_of_getElem? (i := 569) rfl
set_option maxRecDepth 100000 in
theorem nX5_byteOf : Cond.instanceMethod yX5_byteOf ∈ lw_tbl := List.mem_of_getElem? (i := 360) rfl
set_option maxRecDepth 100000 in
theorem seX5_byteOf : Cond.selects RX5 yX5_byteOf yX5_byteOf ∈ lw_tbl := List.mem_of_getElem? (i := 361) rfl
set_option maxRecDepth 100000 in
theorem nX5_bitsOf : Cond.instanceMethod yX5_bitsOf ∈ lw_tbl := List.mem_of_getElem? (i := 364) rfl
set_option maxRecDepth 100000 in
theorem seX5_bitsOf : Cond.selects RX5 yX5_bitsOf yX5_bitsOf ∈ lw_tbl := List.mem_of_getElem? (i := 365) rfl
set_option maxRecDepth 100000 in
theorem nX6_init : Cond.instanceMethod yX6_init ∈ lw_tbl := List.mem_of_getElem? (i := 68) rfl
set_option maxRecDepth 100000 in
theorem nX6_append : Cond.instanceMethod yX6_append ∈ lw_tbl := List.mem_of_getElem? (i := 255) rfl
set_option maxRecDepth 100000 in
theorem seX6_append : Cond.selects RX6 yX6_append yX6_append ∈ lw_tbl := List.mem_of_getElem? (i := 256) rfl
set_option maxRecDepth 100000 in
theorem nX6_useUp : Cond.instanceMethod yX6_useUp ∈ lw_tbl := List.mem_of_getElem? (i := 263) rfl
set_option maxRecDepth 100000 in
theorem seX6_useUp : Cond.selects RX6 yX6_useUp yX6_useUp ∈ lw_tbl := List.mem_of_getElem? (i := 264) rfl
set_option maxRecDepth 100000 in
theorem nX6_byteAt : Cond.instanceMethod yX6_byteAt ∈ lw_tbl := List.mem_of_getElem? (i := 275) rfl
set_option maxRecDepth 100000 in
theorem seX6_byteAt : Cond.selects RX6 yX6_byteAt yX6_byteAt ∈ lw_tbl := List.mem_of_getElem? (i := 276) rfl
set_option maxRecDepth 100000 in
theorem nX6_eightBytes : Cond.instanceMethod yX6_eightBytes ∈ lw_tbl := List.mem_of_getElem? (i := 271) rfl
set_option maxRecDepth 100000 in
theorem seX6_eightBytes : Cond.selects RX6 yX6_eightBytes yX6_eightBytes ∈ lw_tbl := List.mem_of_getElem? (i := 272) rfl
set_option maxRecDepth 100000 in
theorem nX7_init : Cond.instanceMethod yX7_init ∈ lw_tbl := List.mem_of_getElem? (i := 60) rfl
set_option maxRecDepth 100000 in
theorem nX7_feed : Cond.instanceMethod yX7_feed ∈ lw_tbl := List.mem_of_getElem? (i := 251) rfl
set_option maxRecDepth 100000 in
theorem seX7_feed : Cond.selects RX7 yX7_feed yX7_feed ∈ lw_tbl := List.mem_of_getElem? (i := 252) rfl
set_option maxRecDepth 100000 in
theorem nX7_clear : Cond.instanceMethod yX7_clear ∈ lw_tbl := List.mem_of_getElem? (i := 259) rfl
set_option maxRecDepth 100000 in
theorem seX7_clear : Cond.selects RX7 yX7_clear yX7_clear ∈ lw_tbl := List.mem_of_getElem? (i := 260) rfl
set_option maxRecDepth 100000 in
theorem nX7_key : Cond.instanceMethod yX7_key ∈ lw_tbl := List.mem_of_getElem? (i := 267) rfl
set_option maxRecDepth 100000 in
theorem seX7_key : Cond.selects RX7 yX7_key yX7_key ∈ lw_tbl := List.mem_of_getElem? (i := 268) rfl
set_option maxRecDepth 100000 in
theorem nX7_make : Cond.instanceMethod yX7_make ∈ lw_tbl := List.mem_of_getElem? (i := 283) rfl
set_option maxRecDepth 100000 in
theorem seX7_make : Cond.selects RX7 yX7_make yX7_make ∈ lw_tbl := List.mem_of_getElem? (i := 284) rfl
set_option maxRecDepth 100000 in
theorem nX7_result : Cond.instanceMethod yX7_result ∈ lw_tbl := List.mem_of_getElem? (i := 353) rfl
set_option maxRecDepth 100000 in
theorem seX7_result : Cond.selects RX7 yX7_result yX7_result ∈ lw_tbl := List.mem_of_getElem? (i := 354) rfl
set_option maxRecDepth 100000 in
theorem nX7_circuit : Cond.instanceMethod yX7_circuit ∈ lw_tbl := List.mem_of_getElem? (i := 368) rfl
set_option maxRecDepth 100000 in
theorem seX7_circuit : Cond.selects RX7 yX7_circuit yX7_circuit ∈ lw_tbl := List.mem_of_getElem? (i := 369) rfl
set_option maxRecDepth 100000 in
theorem nX7_about : Cond.instanceMethod yX7_about ∈ lw_tbl := List.mem_of_getElem? (i := 435) rfl
set_option maxRecDepth 100000 in
theorem seX7_about : Cond.selects RX7 yX7_about yX7_about ∈ lw_tbl := List.mem_of_getElem? (i := 436) rfl
set_option maxRecDepth 100000 in
theorem nX7_gate : Cond.instanceMethod yX7_gate ∈ lw_tbl := List.mem_of_getElem? (i := 444) rfl
set_option maxRecDepth 100000 in
theorem seX7_gate : Cond.selects RX7 yX7_gate yX7_gate ∈ lw_tbl := List.mem_of_getElem? (i := 445) rfl
set_option maxRecDepth 100000 in
theorem nX7_output : Cond.instanceMethod yX7_output ∈ lw_tbl := List.mem_of_getElem? (i := 448) rfl
set_option maxRecDepth 100000 in
theorem seX7_output : Cond.selects RX7 yX7_output yX7_output ∈ lw_tbl := List.mem_of_getElem? (i := 449) rfl
set_option maxRecDepth 100000 in
theorem nX7_plain : Cond.instanceMethod yX7_plain ∈ lw_tbl := List.mem_of_getElem? (i := 452) rfl
set_option maxRecDepth 100000 in
theorem seX7_plain : Cond.selects RX7 yX7_plain yX7_plain ∈ lw_tbl := List.mem_of_getElem? (i := 453) rfl
set_option maxRecDepth 100000 in
theorem nX7_garble : Cond.instanceMethod yX7_garble ∈ lw_tbl := List.mem_of_getElem? (i := 466) rfl
set_option maxRecDepth 100000 in
theorem seX7_garble : Cond.selects RX7 yX7_garble yX7_garble ∈ lw_tbl := List.mem_of_getElem? (i := 467) rfl
set_option maxRecDepth 100000 in
theorem nX7_told : Cond.instanceMethod yX7_told ∈ lw_tbl := List.mem_of_getElem? (i := 586) rfl
set_option maxRecDepth 100000 in
theorem seX7_told : Cond.selects RX7 yX7_told yX7_told ∈ lw_tbl := List.mem_of_getElem? (i := 587) rfl
set_option maxRecDepth 100000 in
theorem nX7_label : Cond.instanceMethod yX7_label ∈ lw_tbl := List.mem_of_getElem? (i := 611) rfl
set_option maxRecDepth 100000 in
theorem seX7_label : Cond.selects RX7 yX7_label yX7_label ∈ lw_tbl := List.mem_of_getElem? (i := 612) rfl
set_option maxRecDepth 100000 in
theorem nX7_row : Cond.instanceMethod yX7_row ∈ lw_tbl := List.mem_of_getElem? (i := 622) rfl
set_option maxRecDepth 100000 in
theorem seX7_row : Cond.selects RX7 yX7_row yX7_row ∈ lw_tbl := List.mem_of_getElem? (i := 623) rfl
set_option maxRecDepth 100000 in
theorem nX7_spoil : Cond.instanceMethod yX7_spoil ∈ lw_tbl := List.mem_of_getElem? (i := 635) rfl
set_option maxRecDepth 100000 in
theorem seX7_spoil : Cond.selects RX7 yX7_spoil yX7_spoil ∈ lw_tbl := List.mem_of_getElem? (i := 636) rfl
set_option maxRecDepth 100000 in
theorem nX7_choose : Cond.instanceMethod yX7_choose ∈ lw_tbl := List.mem_of_getElem? (i := 644) rfl
set_option maxRecDepth 100000 in
theorem seX7_choose : Cond.selects RX7 yX7_choose yX7_choose ∈ lw_tbl := List.mem_of_getElem? (i := 645) rfl
set_option maxRecDepth 100000 in
theorem nX7_encode : Cond.instanceMethod yX7_encode ∈ lw_tbl := List.mem_of_getElem? (i := 654) rfl
set_option maxRecDepth 100000 in
theorem seX7_encode : Cond.selects RX7 yX7_encode yX7_encode ∈ lw_tbl := List.mem_of_getElem? (i := 655) rfl
set_option maxRecDepth 100000 in
theorem nX7_lay : Cond.instanceMethod yX7_lay ∈ lw_tbl := List.mem_of_getElem? (i := 663) rfl
set_option maxRecDepth 100000 in
theorem seX7_lay : Cond.selects RX7 yX7_lay yX7_lay ∈ lw_tbl := List.mem_of_getElem? (i := 664) rfl
set_option maxRecDepth 100000 in
theorem nX7_workOut : Cond.instanceMethod yX7_workOut ∈ lw_tbl := List.mem_of_getElem? (i := 671) rfl
set_option maxRecDepth 100000 in
theorem seX7_workOut : Cond.selects RX7 yX7_workOut yX7_workOut ∈ lw_tbl := List.mem_of_getElem? (i := 672) rfl
set_option maxRecDepth 100000 in
theorem nX7_active : Cond.instanceMethod yX7_active ∈ lw_tbl := List.mem_of_getElem? (i := 691) rfl
set_option maxRecDepth 100000 in
theorem seX7_active : Cond.selects RX7 yX7_active yX7_active ∈ lw_tbl := List.mem_of_getElem? (i := 692) rfl
set_option maxRecDepth 100000 in
theorem nX7_place : Cond.instanceMethod yX7_place ∈ lw_tbl := List.mem_of_getElem? (i := 696) rfl
set_option maxRecDepth 100000 in
theorem seX7_place : Cond.selects RX7 yX7_place yX7_place ∈ lw_tbl := List.mem_of_getElem? (i := 697) rfl
set_option maxRecDepth 100000 in
theorem nX7_open : Cond.instanceMethod yX7_open ∈ lw_tbl := List.mem_of_getElem? (i := 714) rfl
set_option maxRecDepth 100000 in
theorem seX7_open : Cond.selects RX7 yX7_open yX7_open ∈ lw_tbl := List.mem_of_getElem? (i := 715) rfl
set_option maxRecDepth 100000 in
theorem nX7_openAll : Cond.instanceMethod yX7_openAll ∈ lw_tbl := List.mem_of_getElem? (i := 722) rfl
set_option maxRecDepth 100000 in
theorem seX7_openAll : Cond.selects RX7 yX7_openAll yX7_openAll ∈ lw_tbl := List.mem_of_getElem? (i := 723) rfl
set_option maxRecDepth 100000 in
theorem nX7_agrees : Cond.instanceMethod yX7_agrees ∈ lw_tbl := List.mem_of_getElem? (i := 735) rfl
set_option maxRecDepth 100000 in
theorem seX7_agrees : Cond.selects RX7 yX7_agrees yX7_agrees ∈ lw_tbl := List.mem_of_getElem? (i := 736) rfl
set_option maxRecDepth 100000 in
theorem nX7_count : Cond.instanceMethod yX7_count ∈ lw_tbl := List.mem_of_getElem? (i := 740) rfl
set_option maxRecDepth 100000 in
theorem seX7_count : Cond.selects RX7 yX7_count yX7_count ∈ lw_tbl := List.mem_of_getElem? (i := 741) rfl
set_option maxRecDepth 100000 in
theorem nX7_status : Cond.instanceMethod yX7_status ∈ lw_tbl := List.mem_of_getElem? (i := 744) rfl
set_option maxRecDepth 100000 in
theorem seX7_status : Cond.selects RX7 yX7_status yX7_status ∈ lw_tbl := List.mem_of_getElem? (i := 745) rfl
set_option maxRecDepth 100000 in
theorem nX7_circuitAt : Cond.instanceMethod yX7_circuitAt ∈ lw_tbl := List.mem_of_getElem? (i := 440) rfl
set_option maxRecDepth 100000 in
theorem seX7_circuitAt : Cond.selects RX7 yX7_circuitAt yX7_circuitAt ∈ lw_tbl := List.mem_of_getElem? (i := 12) rfl
set_option maxRecDepth 100000 in
theorem nX7_garbledAt : Cond.instanceMethod yX7_garbledAt ∈ lw_tbl := List.mem_of_getElem? (i := 591) rfl
set_option maxRecDepth 100000 in
theorem seX7_garbledAt : Cond.selects RX7 yX7_garbledAt yX7_garbledAt ∈ lw_tbl := List.mem_of_getElem? (i := 16) rfl
set_option maxRecDepth 100000 in
theorem nX7_refusePlace : Cond.instanceMethod yX7_refusePlace ∈ lw_tbl := List.mem_of_getElem? (i := 701) rfl
set_option maxRecDepth 100000 in
theorem seX7_refusePlace : Cond.selects RX7 yX7_refusePlace yX7_refusePlace ∈ lw_tbl := List.mem_of_getElem? (i := 19) rfl
set_option maxRecDepth 100000 in
theorem stX7_isByteOfLabel : Cond.static yX7_isByteOfLabel ∈ lw_tbl := List.mem_of_getElem? (i := 357) rfl
set_option maxRecDepth 100000 in
theorem stX7_isTruth : Cond.static yX7_isTruth ∈ lw_tbl := List.mem_of_getElem? (i := 619) rfl
set_option maxRecDepth 100000 in
theorem stX7_isKind : Cond.static yX7_isKind ∈ lw_tbl := List.mem_of_getElem? (i := 470) rfl
set_option maxRecDepth 100000 in
theorem stX7_isPlace : Cond.static yX7_isPlace ∈ lw_tbl := List.mem_of_getElem? (i := 704) rfl
set_option maxRecDepth 100000 in
theorem stX7_bytesOfPlace : Cond.static yX7_bytesOfPlace ∈ lw_tbl := List.mem_of_getElem? (i := 707) rfl
set_option maxRecDepth 100000 in
theorem stX7_asKind : Cond.static yX7_asKind ∈ lw_tbl := List.mem_of_getElem? (i := 711) rfl
set_option maxRecDepth 100000 in
theorem nX8_init : Cond.instanceMethod yX8_init ∈ lw_tbl := List.mem_of_getElem? (i := 750) rfl
set_option maxRecDepth 100000 in
theorem stX8_in : Cond.static yX8_in ∈ lw_tbl := List.mem_of_getElem? (i := 893) rfl
set_option maxRecDepth 100000 in
theorem stX8_times : Cond.static yX8_times ∈ lw_tbl := List.mem_of_getElem? (i := 754) rfl
set_option maxRecDepth 100000 in
theorem nX8_spreads : Cond.instanceMethod yX8_spreads ∈ lw_tbl := List.mem_of_getElem? (i := 758) rfl
set_option maxRecDepth 100000 in
theorem seX8_spreads : Cond.selects RX8 yX8_spreads yX8_spreads ∈ lw_tbl := List.mem_of_getElem? (i := 20) rfl
set_option maxRecDepth 100000 in
theorem nX8_ciphers : Cond.instanceMethod yX8_ciphers ∈ lw_tbl := List.mem_of_getElem? (i := 914) rfl
set_option maxRecDepth 100000 in
theorem seX8_ciphers : Cond.selects RX8 yX8_ciphers yX8_ciphers ∈ lw_tbl := List.mem_of_getElem? (i := 22) rfl
set_option maxRecDepth 100000 in
theorem stX8_doubles : Cond.static yX8_doubles ∈ lw_tbl := List.mem_of_getElem? (i := 917) rfl
set_option maxRecDepth 100000 in
theorem nX8_hashes : Cond.instanceMethod yX8_hashes ∈ lw_tbl := List.mem_of_getElem? (i := 925) rfl
set_option maxRecDepth 100000 in
theorem seX8_hashes : Cond.selects RX8 yX8_hashes yX8_hashes ∈ lw_tbl := List.mem_of_getElem? (i := 24) rfl
set_option maxRecDepth 100000 in
theorem nX8_hashOne : Cond.instanceMethod yX8_hashOne ∈ lw_tbl := List.mem_of_getElem? (i := 921) rfl
set_option maxRecDepth 100000 in
theorem seX8_hashOne : Cond.selects RX8 yX8_hashOne yX8_hashOne ∈ lw_tbl := List.mem_of_getElem? (i := 23) rfl
set_option maxRecDepth 100000 in
theorem nX8_hashTwo : Cond.instanceMethod yX8_hashTwo ∈ lw_tbl := List.mem_of_getElem? (i := 929) rfl
set_option maxRecDepth 100000 in
theorem seX8_hashTwo : Cond.selects RX8 yX8_hashTwo yX8_hashTwo ∈ lw_tbl := List.mem_of_getElem? (i := 25) rfl
set_option maxRecDepth 100000 in
theorem nX8_feed : Cond.instanceMethod yX8_feed ∈ lw_tbl := List.mem_of_getElem? (i := 889) rfl
set_option maxRecDepth 100000 in
theorem seX8_feed : Cond.selects RX8 yX8_feed yX8_feed ∈ lw_tbl := List.mem_of_getElem? (i := 890) rfl
set_option maxRecDepth 100000 in
theorem nX8_uses : Cond.instanceMethod yX8_uses ∈ lw_tbl := List.mem_of_getElem? (i := 902) rfl
set_option maxRecDepth 100000 in
theorem seX8_uses : Cond.selects RX8 yX8_uses yX8_uses ∈ lw_tbl := List.mem_of_getElem? (i := 21) rfl
set_option maxRecDepth 100000 in
theorem nX8_clear : Cond.instanceMethod yX8_clear ∈ lw_tbl := List.mem_of_getElem? (i := 897) rfl
set_option maxRecDepth 100000 in
theorem seX8_clear : Cond.selects RX8 yX8_clear yX8_clear ∈ lw_tbl := List.mem_of_getElem? (i := 898) rfl
set_option maxRecDepth 100000 in
theorem nX8_key : Cond.instanceMethod yX8_key ∈ lw_tbl := List.mem_of_getElem? (i := 905) rfl
set_option maxRecDepth 100000 in
theorem seX8_key : Cond.selects RX8 yX8_key yX8_key ∈ lw_tbl := List.mem_of_getElem? (i := 906) rfl
set_option maxRecDepth 100000 in
theorem nX8_make : Cond.instanceMethod yX8_make ∈ lw_tbl := List.mem_of_getElem? (i := 909) rfl
set_option maxRecDepth 100000 in
theorem seX8_make : Cond.selects RX8 yX8_make yX8_make ∈ lw_tbl := List.mem_of_getElem? (i := 910) rfl
set_option maxRecDepth 100000 in
theorem nX8_result : Cond.instanceMethod yX8_result ∈ lw_tbl := List.mem_of_getElem? (i := 932) rfl
set_option maxRecDepth 100000 in
theorem seX8_result : Cond.selects RX8 yX8_result yX8_result ∈ lw_tbl := List.mem_of_getElem? (i := 933) rfl
set_option maxRecDepth 100000 in
theorem nX8_fault : Cond.instanceMethod yX8_fault ∈ lw_tbl := List.mem_of_getElem? (i := 956) rfl
set_option maxRecDepth 100000 in
theorem seX8_fault : Cond.selects RX8 yX8_fault yX8_fault ∈ lw_tbl := List.mem_of_getElem? (i := 29) rfl
set_option maxRecDepth 100000 in
theorem nX8_byteAt : Cond.instanceMethod yX8_byteAt ∈ lw_tbl := List.mem_of_getElem? (i := 945) rfl
set_option maxRecDepth 100000 in
theorem seX8_byteAt : Cond.selects RX8 yX8_byteAt yX8_byteAt ∈ lw_tbl := List.mem_of_getElem? (i := 27) rfl
set_option maxRecDepth 100000 in
theorem nX8_blanks : Cond.instanceMethod yX8_blanks ∈ lw_tbl := List.mem_of_getElem? (i := 941) rfl
set_option maxRecDepth 100000 in
theorem seX8_blanks : Cond.selects RX8 yX8_blanks yX8_blanks ∈ lw_tbl := List.mem_of_getElem? (i := 26) rfl
set_option maxRecDepth 100000 in
theorem stX8_isDigit : Cond.static yX8_isDigit ∈ lw_tbl := List.mem_of_getElem? (i := 952) rfl
set_option maxRecDepth 100000 in
theorem nX8_number : Cond.instanceMethod yX8_number ∈ lw_tbl := List.mem_of_getElem? (i := 949) rfl
set_option maxRecDepth 100000 in
theorem seX8_number : Cond.selects RX8 yX8_number yX8_number ∈ lw_tbl := List.mem_of_getElem? (i := 28) rfl
set_option maxRecDepth 100000 in
theorem nX8_take : Cond.instanceMethod yX8_take ∈ lw_tbl := List.mem_of_getElem? (i := 960) rfl
set_option maxRecDepth 100000 in
theorem seX8_take : Cond.selects RX8 yX8_take yX8_take ∈ lw_tbl := List.mem_of_getElem? (i := 30) rfl
set_option maxRecDepth 100000 in
theorem stX8_isSign : Cond.static yX8_isSign ∈ lw_tbl := List.mem_of_getElem? (i := 967) rfl
set_option maxRecDepth 100000 in
theorem nX8_readGate : Cond.instanceMethod yX8_readGate ∈ lw_tbl := List.mem_of_getElem? (i := 964) rfl
set_option maxRecDepth 100000 in
theorem seX8_readGate : Cond.selects RX8 yX8_readGate yX8_readGate ∈ lw_tbl := List.mem_of_getElem? (i := 31) rfl
set_option maxRecDepth 100000 in
theorem nX8_circuit : Cond.instanceMethod yX8_circuit ∈ lw_tbl := List.mem_of_getElem? (i := 936) rfl
set_option maxRecDepth 100000 in
theorem seX8_circuit : Cond.selects RX8 yX8_circuit yX8_circuit ∈ lw_tbl := List.mem_of_getElem? (i := 937) rfl
set_option maxRecDepth 100000 in
theorem nX8_isCircuit : Cond.instanceMethod yX8_isCircuit ∈ lw_tbl := List.mem_of_getElem? (i := 975) rfl
set_option maxRecDepth 100000 in
theorem seX8_isCircuit : Cond.selects RX8 yX8_isCircuit yX8_isCircuit ∈ lw_tbl := List.mem_of_getElem? (i := 32) rfl
set_option maxRecDepth 100000 in
theorem nX8_wiresOf : Cond.instanceMethod yX8_wiresOf ∈ lw_tbl := List.mem_of_getElem? (i := 979) rfl
set_option maxRecDepth 100000 in
theorem seX8_wiresOf : Cond.selects RX8 yX8_wiresOf yX8_wiresOf ∈ lw_tbl := List.mem_of_getElem? (i := 33) rfl
set_option maxRecDepth 100000 in
theorem nX8_about : Cond.instanceMethod yX8_about ∈ lw_tbl := List.mem_of_getElem? (i := 970) rfl
set_option maxRecDepth 100000 in
theorem seX8_about : Cond.selects RX8 yX8_about yX8_about ∈ lw_tbl := List.mem_of_getElem? (i := 971) rfl
set_option maxRecDepth 100000 in
theorem nX8_gate : Cond.instanceMethod yX8_gate ∈ lw_tbl := List.mem_of_getElem? (i := 982) rfl
set_option maxRecDepth 100000 in
theorem seX8_gate : Cond.selects RX8 yX8_gate yX8_gate ∈ lw_tbl := List.mem_of_getElem? (i := 983) rfl
set_option maxRecDepth 100000 in
theorem nX8_output : Cond.instanceMethod yX8_output ∈ lw_tbl := List.mem_of_getElem? (i := 986) rfl
set_option maxRecDepth 100000 in
theorem seX8_output : Cond.selects RX8 yX8_output yX8_output ∈ lw_tbl := List.mem_of_getElem? (i := 987) rfl
set_option maxRecDepth 100000 in
theorem stX8_truth : Cond.static yX8_truth ∈ lw_tbl := List.mem_of_getElem? (i := 998) rfl
set_option maxRecDepth 100000 in
theorem nX8_plainOf : Cond.instanceMethod yX8_plainOf ∈ lw_tbl := List.mem_of_getElem? (i := 995) rfl
set_option maxRecDepth 100000 in
theorem seX8_plainOf : Cond.selects RX8 yX8_plainOf yX8_plainOf ∈ lw_tbl := List.mem_of_getElem? (i := 34) rfl
set_option maxRecDepth 100000 in
theorem nX8_plain : Cond.instanceMethod yX8_plain ∈ lw_tbl := List.mem_of_getElem? (i := 990) rfl
set_option maxRecDepth 100000 in
theorem seX8_plain : Cond.selects RX8 yX8_plain yX8_plain ∈ lw_tbl := List.mem_of_getElem? (i := 991) rfl
set_option maxRecDepth 100000 in
theorem nX8_isGarbled : Cond.instanceMethod yX8_isGarbled ∈ lw_tbl := List.mem_of_getElem? (i := 1032) rfl
set_option maxRecDepth 100000 in
theorem seX8_isGarbled : Cond.selects RX8 yX8_isGarbled yX8_isGarbled ∈ lw_tbl := List.mem_of_getElem? (i := 39) rfl
set_option maxRecDepth 100000 in
theorem stX8_placeOf : Cond.static yX8_placeOf ∈ lw_tbl := List.mem_of_getElem? (i := 1005) rfl
set_option maxRecDepth 100000 in
theorem stX8_rowAt : Cond.static yX8_rowAt ∈ lw_tbl := List.mem_of_getElem? (i := 1016) rfl
set_option maxRecDepth 100000 in
theorem nX8_isStored : Cond.instanceMethod yX8_isStored ∈ lw_tbl := List.mem_of_getElem? (i := 1044) rfl
set_option maxRecDepth 100000 in
theorem seX8_isStored : Cond.selects RX8 yX8_isStored yX8_isStored ∈ lw_tbl := List.mem_of_getElem? (i := 40) rfl
set_option maxRecDepth 100000 in
theorem nX8_pair : Cond.instanceMethod yX8_pair ∈ lw_tbl := List.mem_of_getElem? (i := 1013) rfl
set_option maxRecDepth 100000 in
theorem seX8_pair : Cond.selects RX8 yX8_pair yX8_pair ∈ lw_tbl := List.mem_of_getElem? (i := 36) rfl
set_option maxRecDepth 100000 in
theorem nX8_colour : Cond.instanceMethod yX8_colour ∈ lw_tbl := List.mem_of_getElem? (i := 1024) rfl
set_option maxRecDepth 100000 in
theorem seX8_colour : Cond.selects RX8 yX8_colour yX8_colour ∈ lw_tbl := List.mem_of_getElem? (i := 38) rfl
set_option maxRecDepth 100000 in
theorem nX8_tables : Cond.instanceMethod yX8_tables ∈ lw_tbl := List.mem_of_getElem? (i := 1020) rfl
set_option maxRecDepth 100000 in
theorem seX8_tables : Cond.selects RX8 yX8_tables yX8_tables ∈ lw_tbl := List.mem_of_getElem? (i := 37) rfl
set_option maxRecDepth 100000 in
theorem nX8_halves : Cond.instanceMethod yX8_halves ∈ lw_tbl := List.mem_of_getElem? (i := 1009) rfl
set_option maxRecDepth 100000 in
theorem seX8_halves : Cond.selects RX8 yX8_halves yX8_halves ∈ lw_tbl := List.mem_of_getElem? (i := 35) rfl
set_option maxRecDepth 100000 in
theorem nX8_garble : Cond.instanceMethod yX8_garble ∈ lw_tbl := List.mem_of_getElem? (i := 1001) rfl
set_option maxRecDepth 100000 in
theorem seX8_garble : Cond.selects RX8 yX8_garble yX8_garble ∈ lw_tbl := List.mem_of_getElem? (i := 1002) rfl
set_option maxRecDepth 100000 in
theorem nX8_told : Cond.instanceMethod yX8_told ∈ lw_tbl := List.mem_of_getElem? (i := 1027) rfl
set_option maxRecDepth 100000 in
theorem seX8_told : Cond.selects RX8 yX8_told yX8_told ∈ lw_tbl := List.mem_of_getElem? (i := 1028) rfl
set_option maxRecDepth 100000 in
theorem nX8_label : Cond.instanceMethod yX8_label ∈ lw_tbl := List.mem_of_getElem? (i := 1035) rfl
set_option maxRecDepth 100000 in
theorem seX8_label : Cond.selects RX8 yX8_label yX8_label ∈ lw_tbl := List.mem_of_getElem? (i := 1036) rfl
set_option maxRecDepth 100000 in
theorem nX8_row : Cond.instanceMethod yX8_row ∈ lw_tbl := List.mem_of_getElem? (i := 1039) rfl
set_option maxRecDepth 100000 in
theorem seX8_row : Cond.selects RX8 yX8_row yX8_row ∈ lw_tbl := List.mem_of_getElem? (i := 1040) rfl
set_option maxRecDepth 100000 in
theorem nX8_spoil : Cond.instanceMethod yX8_spoil ∈ lw_tbl := List.mem_of_getElem? (i := 1047) rfl
set_option maxRecDepth 100000 in
theorem seX8_spoil : Cond.selects RX8 yX8_spoil yX8_spoil ∈ lw_tbl := List.mem_of_getElem? (i := 1048) rfl
set_option maxRecDepth 100000 in
theorem nX8_drops : Cond.instanceMethod yX8_drops ∈ lw_tbl := List.mem_of_getElem? (i := 1060) rfl
set_option maxRecDepth 100000 in
theorem seX8_drops : Cond.selects RX8 yX8_drops yX8_drops ∈ lw_tbl := List.mem_of_getElem? (i := 42) rfl
set_option maxRecDepth 100000 in
theorem nX8_chooses : Cond.instanceMethod yX8_chooses ∈ lw_tbl := List.mem_of_getElem? (i := 1056) rfl
set_option maxRecDepth 100000 in
theorem seX8_chooses : Cond.selects RX8 yX8_chooses yX8_chooses ∈ lw_tbl := List.mem_of_getElem? (i := 41) rfl
set_option maxRecDepth 100000 in
theorem nX8_choose : Cond.instanceMethod yX8_choose ∈ lw_tbl := List.mem_of_getElem? (i := 1051) rfl
set_option maxRecDepth 100000 in
theorem seX8_choose : Cond.selects RX8 yX8_choose yX8_choose ∈ lw_tbl := List.mem_of_getElem? (i := 1052) rfl
set_option maxRecDepth 100000 in
theorem nX8_encode : Cond.instanceMethod yX8_encode ∈ lw_tbl := List.mem_of_getElem? (i := 1063) rfl
set_option maxRecDepth 100000 in
theorem seX8_encode : Cond.selects RX8 yX8_encode yX8_encode ∈ lw_tbl := List.mem_of_getElem? (i := 1064) rfl
set_option maxRecDepth 100000 in
theorem nX8_lay : Cond.instanceMethod yX8_lay ∈ lw_tbl := List.mem_of_getElem? (i := 1067) rfl
set_option maxRecDepth 100000 in
theorem seX8_lay : Cond.selects RX8 yX8_lay yX8_lay ∈ lw_tbl := List.mem_of_getElem? (i := 1068) rfl
set_option maxRecDepth 100000 in
theorem nX8_works : Cond.instanceMethod yX8_works ∈ lw_tbl := List.mem_of_getElem? (i := 1076) rfl
set_option maxRecDepth 100000 in
theorem seX8_works : Cond.selects RX8 yX8_works yX8_works ∈ lw_tbl := List.mem_of_getElem? (i := 43) rfl
set_option maxRecDepth 100000 in
theorem nX8_workOut : Cond.instanceMethod yX8_workOut ∈ lw_tbl := List.mem_of_getElem? (i := 1071) rfl
set_option maxRecDepth 100000 in
theorem seX8_workOut : Cond.selects RX8 yX8_workOut yX8_workOut ∈ lw_tbl := List.mem_of_getElem? (i := 1072) rfl
set_option maxRecDepth 100000 in
theorem nX8_active : Cond.instanceMethod yX8_active ∈ lw_tbl := List.mem_of_getElem? (i := 1079) rfl
set_option maxRecDepth 100000 in
theorem seX8_active : Cond.selects RX8 yX8_active yX8_active ∈ lw_tbl := List.mem_of_getElem? (i := 1080) rfl
set_option maxRecDepth 100000 in
theorem nX8_no : Cond.instanceMethod yX8_no ∈ lw_tbl := List.mem_of_getElem? (i := 1088) rfl
set_option maxRecDepth 100000 in
theorem seX8_no : Cond.selects RX8 yX8_no yX8_no ∈ lw_tbl := List.mem_of_getElem? (i := 44) rfl
set_option maxRecDepth 100000 in
theorem nX8_place : Cond.instanceMethod yX8_place ∈ lw_tbl := List.mem_of_getElem? (i := 1083) rfl
set_option maxRecDepth 100000 in
theorem seX8_place : Cond.selects RX8 yX8_place yX8_place ∈ lw_tbl := List.mem_of_getElem? (i := 1084) rfl
set_option maxRecDepth 100000 in
theorem nX8_opened : Cond.instanceMethod yX8_opened ∈ lw_tbl := List.mem_of_getElem? (i := 1096) rfl
set_option maxRecDepth 100000 in
theorem seX8_opened : Cond.selects RX8 yX8_opened yX8_opened ∈ lw_tbl := List.mem_of_getElem? (i := 45) rfl
set_option maxRecDepth 100000 in
theorem nX8_open : Cond.instanceMethod yX8_open ∈ lw_tbl := List.mem_of_getElem? (i := 1091) rfl
set_option maxRecDepth 100000 in
theorem seX8_open : Cond.selects RX8 yX8_open yX8_open ∈ lw_tbl := List.mem_of_getElem? (i := 1092) rfl
set_option maxRecDepth 100000 in
theorem nX8_openedAll : Cond.instanceMethod yX8_openedAll ∈ lw_tbl := List.mem_of_getElem? (i := 1104) rfl
set_option maxRecDepth 100000 in
theorem seX8_openedAll : Cond.selects RX8 yX8_openedAll yX8_openedAll ∈ lw_tbl := List.mem_of_getElem? (i := 46) rfl
set_option maxRecDepth 100000 in
theorem nX8_openAll : Cond.instanceMethod yX8_openAll ∈ lw_tbl := List.mem_of_getElem? (i := 1099) rfl
set_option maxRecDepth 100000 in
theorem seX8_openAll : Cond.selects RX8 yX8_openAll yX8_openAll ∈ lw_tbl := List.mem_of_getElem? (i := 1100) rfl
set_option maxRecDepth 100000 in
theorem nX8_agrees : Cond.instanceMethod yX8_agrees ∈ lw_tbl := List.mem_of_getElem? (i := 1107) rfl
set_option maxRecDepth 100000 in
theorem seX8_agrees : Cond.selects RX8 yX8_agrees yX8_agrees ∈ lw_tbl := List.mem_of_getElem? (i := 1108) rfl
set_option maxRecDepth 100000 in
theorem nX8_count : Cond.instanceMethod yX8_count ∈ lw_tbl := List.mem_of_getElem? (i := 1112) rfl
set_option maxRecDepth 100000 in
theorem seX8_count : Cond.selects RX8 yX8_count yX8_count ∈ lw_tbl := List.mem_of_getElem? (i := 1113) rfl
set_option maxRecDepth 100000 in
theorem nX8_status : Cond.instanceMethod yX8_status ∈ lw_tbl := List.mem_of_getElem? (i := 1116) rfl
set_option maxRecDepth 100000 in
theorem seX8_status : Cond.selects RX8 yX8_status yX8_status ∈ lw_tbl := List.mem_of_getElem? (i := 1117) rfl
set_option maxRecDepth 100000 in
theorem inX0_i : Cond.initialized RX0 ∈ lw_tbl := List.mem_of_getElem? (i := 51) rfl
set_option maxRecDepth 100000 in
theorem inX0_n : Cond.instantiable RX0 4 ∈ lw_tbl := List.mem_of_getElem? (i := 100) rfl
set_option maxRecDepth 100000 in
theorem inX1_i : Cond.initialized RX1 ∈ lw_tbl := List.mem_of_getElem? (i := 54) rfl
set_option maxRecDepth 100000 in
theorem inX1_n : Cond.instantiable RX1 9 ∈ lw_tbl := List.mem_of_getElem? (i := 162) rfl
set_option maxRecDepth 100000 in
theorem inX2_i : Cond.initialized RX2 ∈ lw_tbl := List.mem_of_getElem? (i := 50) rfl
set_option maxRecDepth 100000 in
theorem inX2_n : Cond.instantiable RX2 4 ∈ lw_tbl := List.mem_of_getElem? (i := 81) rfl
set_option maxRecDepth 100000 in
theorem inX3_i : Cond.initialized RX3 ∈ lw_tbl := List.mem_of_getElem? (i := 56) rfl
set_option maxRecDepth 100000 in
theorem inX3_n : Cond.instantiable RX3 11 ∈ lw_tbl := List.mem_of_getElem? (i := 476) rfl
set_option maxRecDepth 100000 in
theorem inX4_i : Cond.initialized RX4 ∈ lw_tbl := List.mem_of_getElem? (i := 52) rfl
set_option maxRecDepth 100000 in
theorem inX4_n : Cond.instantiable RX4 2 ∈ lw_tbl := List.mem_of_getElem? (i := 133) rfl
set_option maxRecDepth 100000 in
theorem inX5_i : Cond.initialized RX5 ∈ lw_tbl := List.mem_of_getElem? (i := 53) rfl
set_option maxRecDepth 100000 in
theorem inX5_n : Cond.instantiable RX5 1 ∈ lw_tbl := List.mem_of_getElem? (i := 139) rfl
set_option maxRecDepth 100000 in
theorem inX6_i : Cond.initialized RX6 ∈ lw_tbl := List.mem_of_getElem? (i := 49) rfl
set_option maxRecDepth 100000 in
theorem inX6_n : Cond.instantiable RX6 2 ∈ lw_tbl := List.mem_of_getElem? (i := 66) rfl
set_option maxRecDepth 100000 in
theorem inX7_i : Cond.initialized RX7 ∈ lw_tbl := List.mem_of_getElem? (i := 48) rfl
set_option maxRecDepth 100000 in
theorem inX7_n : Cond.instantiable RX7 11 ∈ lw_tbl := List.mem_of_getElem? (i := 58) rfl
set_option maxRecDepth 100000 in
theorem inX8_i : Cond.initialized RX8 ∈ lw_tbl := List.mem_of_getElem? (i := 55) rfl
set_option maxRecDepth 100000 in
theorem inX8_n : Cond.instantiable RX8 42 ∈ lw_tbl := List.mem_of_getElem? (i := 748) rfl
set_option maxRecDepth 100000 in
theorem ac_int : Cond.arrayClass .int ∈ lw_tbl := List.mem_of_getElem? (i := 131) rfl
set_option maxRecDepth 100000 in
theorem ac_long : Cond.arrayClass .long ∈ lw_tbl := List.mem_of_getElem? (i := 148) rfl
set_option maxRecDepth 100000 in
theorem ac_byte : Cond.arrayClass .byte ∈ lw_tbl := List.mem_of_getElem? (i := 79) rfl
set_option maxRecDepth 100000 in
theorem ac_boolean : Cond.arrayClass .boolean ∈ lw_tbl := List.mem_of_getElem? (i := 887) rfl
