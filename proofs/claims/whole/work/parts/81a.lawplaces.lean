/-! the law's words lie in the tables, each at its place (printed by wip/gen/lawwords.py) -/
theorem wl_ap {a b t : List Cond} (ha : ∀ w ∈ a, w ∈ t) (hb : ∀ w ∈ b, w ∈ t) : ∀ w ∈ a ++ b, w ∈ t := fun w h => (List.mem_append.mp h).elim (ha w) (hb w)
set_option maxRecDepth 100000 in
theorem lm_0 : Cond.code yX9_init cX9_init 2 none ∈ lw_tbl := List.mem_of_getElem? (i := 75) rfl
set_option maxRecDepth 100000 in
theorem lm_1 : Cond.classLink RX9 46 RX2 ∈ lw_tbl := List.mem_of_getElem? (i := 233) (by decide +kernel)
set_option maxRecDepth 100000 in
theorem lm_2 : Cond.fieldLink RX9 42 "MissingHoles" "evidence" "LMissingHoles$Evidence;" ∈ lw_tbl := List.mem_of_getElem? (i := 359) (by decide +kernel)
set_option maxRecDepth 100000 in
theorem lm_3 : Cond.initialized RX0 ∈ lw_tbl := List.mem_of_getElem? (i := 59) (by decide +kernel)
set_option maxRecDepth 100000 in
theorem lm_4 : Cond.instantiable RX0 3 ∈ lw_tbl := List.mem_of_getElem? (i := 215) (by decide +kernel)
set_option maxRecDepth 100000 in
theorem lm_5 : Cond.classLink RX9 39 RX0 ∈ lw_tbl := List.mem_of_getElem? (i := 214) (by decide +kernel)
set_option maxRecDepth 100000 in
theorem lm_6 : Cond.fieldLink RX9 35 "MissingHoles" "homes" "LMissingHoles$Homes;" ∈ lw_tbl := List.mem_of_getElem? (i := 358) (by decide +kernel)
set_option maxRecDepth 100000 in
theorem lm_7 : Cond.initialized RX3 ∈ lw_tbl := List.mem_of_getElem? (i := 58) (by decide +kernel)
set_option maxRecDepth 100000 in
theorem lm_8 : Cond.instantiable RX3 4 ∈ lw_tbl := List.mem_of_getElem? (i := 192) (by decide +kernel)
set_option maxRecDepth 100000 in
theorem lm_9 : Cond.classLink RX9 32 RX3 ∈ lw_tbl := List.mem_of_getElem? (i := 191) (by decide +kernel)
set_option maxRecDepth 100000 in
theorem lm_10 : Cond.fieldLink RX9 28 "MissingHoles" "reader" "LMissingHoles$Reader;" ∈ lw_tbl := List.mem_of_getElem? (i := 357) (by decide +kernel)
set_option maxRecDepth 100000 in
theorem lm_11 : Cond.initialized RX5 ∈ lw_tbl := List.mem_of_getElem? (i := 57) (by decide +kernel)
set_option maxRecDepth 100000 in
theorem lm_12 : Cond.instantiable RX5 7 ∈ lw_tbl := List.mem_of_getElem? (i := 157) (by decide +kernel)
set_option maxRecDepth 100000 in
theorem lm_13 : Cond.classLink RX9 23 RX5 ∈ lw_tbl := List.mem_of_getElem? (i := 156) (by decide +kernel)
set_option maxRecDepth 100000 in
theorem lm_14 : Cond.fieldLink RX9 19 "MissingHoles" "tape" "LMissingHoles$Tape;" ∈ lw_tbl := List.mem_of_getElem? (i := 356) (by decide +kernel)
set_option maxRecDepth 100000 in
theorem lm_15 : Cond.initialized RX7 ∈ lw_tbl := List.mem_of_getElem? (i := 56) (by decide +kernel)
set_option maxRecDepth 100000 in
theorem lm_16 : Cond.instantiable RX7 5 ∈ lw_tbl := List.mem_of_getElem? (i := 131) (by decide +kernel)
set_option maxRecDepth 100000 in
theorem lm_17 : Cond.classLink RX9 16 RX7 ∈ lw_tbl := List.mem_of_getElem? (i := 130) (by decide +kernel)
set_option maxRecDepth 100000 in
theorem lm_18 : Cond.fieldLink RX9 10 "MissingHoles" "terms" "LMissingHoles$Terms;" ∈ lw_tbl := List.mem_of_getElem? (i := 355) (by decide +kernel)
set_option maxRecDepth 100000 in
theorem lm_19 : Cond.initialized RX8 ∈ lw_tbl := List.mem_of_getElem? (i := 55) (by decide +kernel)
set_option maxRecDepth 100000 in
theorem lm_20 : Cond.instantiable RX8 6 ∈ lw_tbl := List.mem_of_getElem? (i := 80) (by decide +kernel)
set_option maxRecDepth 100000 in
theorem lm_21 : Cond.classLink RX9 7 RX8 ∈ lw_tbl := List.mem_of_getElem? (i := 79) (by decide +kernel)
set_option maxRecDepth 100000 in
theorem lm_22 : Cond.code objectInit ⟨#[0xb1]⟩ 1 none ∈ lw_tbl := List.mem_of_getElem? (i := 78) rfl
set_option maxRecDepth 100000 in
theorem lm_23 : Cond.instanceMethod objectInit ∈ lw_tbl := List.mem_of_getElem? (i := 77) (by decide +kernel)
set_option maxRecDepth 100000 in
theorem lm_24 : Cond.methodLink RX9 1 objectInit ∈ lw_tbl := List.mem_of_getElem? (i := 76) (by decide +kernel)
set_option maxRecDepth 100000 in
theorem lm_25 : Cond.methodLink RX8 18 yX8_standAsUntold ∈ lw_tbl := List.mem_of_getElem? (i := 85) (by decide +kernel)
set_option maxRecDepth 100000 in
theorem lm_26 : Cond.fieldLink RX8 15 "MissingHoles$Terms" "rules" "[I" ∈ lw_tbl := List.mem_of_getElem? (i := 100) (by decide +kernel)
set_option maxRecDepth 100000 in
theorem lm_27 : Cond.fieldLink RX8 9 "MissingHoles$Terms" "parts" "[I" ∈ lw_tbl := List.mem_of_getElem? (i := 95) (by decide +kernel)
set_option maxRecDepth 100000 in
theorem lm_28 : Cond.arrayClass .int ∈ lw_tbl := List.mem_of_getElem? (i := 129) (by decide +kernel)
set_option maxRecDepth 100000 in
theorem lm_29 : Cond.methodLink RX8 3 objectInit ∈ lw_tbl := List.mem_of_getElem? (i := 84) (by decide +kernel)
set_option maxRecDepth 100000 in
theorem lm_30 : Cond.code yX8_init cX8_init 1 none ∈ lw_tbl := List.mem_of_getElem? (i := 83) rfl
set_option maxRecDepth 100000 in
theorem lm_31 : Cond.instanceMethod yX8_init ∈ lw_tbl := List.mem_of_getElem? (i := 82) (by decide +kernel)
set_option maxRecDepth 100000 in
theorem lm_32 : Cond.methodLink RX9 9 yX8_init ∈ lw_tbl := List.mem_of_getElem? (i := 81) (by decide +kernel)
set_option maxRecDepth 100000 in
theorem lm_33 : Cond.fieldLink RX9 80 "MissingHoles" "tornFault" "I" ∈ lw_tbl := List.mem_of_getElem? (i := 364) (by decide +kernel)
set_option maxRecDepth 100000 in
theorem lm_34 : Cond.initialized RX6 ∈ lw_tbl := List.mem_of_getElem? (i := 63) (by decide +kernel)
set_option maxRecDepth 100000 in
theorem lm_35 : Cond.instantiable RX6 3 ∈ lw_tbl := List.mem_of_getElem? (i := 338) (by decide +kernel)
set_option maxRecDepth 100000 in
theorem lm_36 : Cond.fieldLink RX9 75 "MissingHoles" "sheets" "[LMissingHoles$Sheet;" ∈ lw_tbl := List.mem_of_getElem? (i := 363) (by decide +kernel)
set_option maxRecDepth 100000 in
theorem lm_37 : Cond.classLink RX9 73 RX6 ∈ lw_tbl := List.mem_of_getElem? (i := 336) (by decide +kernel)
set_option maxRecDepth 100000 in
theorem lm_38 : Cond.fieldLink RX9 69 "MissingHoles" "flight" "LMissingHoles$Flight;" ∈ lw_tbl := List.mem_of_getElem? (i := 362) (by decide +kernel)
set_option maxRecDepth 100000 in
theorem lm_39 : Cond.initialized RX1 ∈ lw_tbl := List.mem_of_getElem? (i := 62) (by decide +kernel)
set_option maxRecDepth 100000 in
theorem lm_40 : Cond.instantiable RX1 4 ∈ lw_tbl := List.mem_of_getElem? (i := 317) (by decide +kernel)
set_option maxRecDepth 100000 in
theorem lm_41 : Cond.classLink RX9 64 RX1 ∈ lw_tbl := List.mem_of_getElem? (i := 316) (by decide +kernel)
set_option maxRecDepth 100000 in
theorem lm_42 : Cond.fieldLink RX9 60 "MissingHoles" "plating" "LMissingHoles$Plating;" ∈ lw_tbl := List.mem_of_getElem? (i := 361) (by decide +kernel)
set_option maxRecDepth 100000 in
theorem lm_43 : Cond.initialized RX4 ∈ lw_tbl := List.mem_of_getElem? (i := 61) (by decide +kernel)
set_option maxRecDepth 100000 in
theorem lm_44 : Cond.instantiable RX4 4 ∈ lw_tbl := List.mem_of_getElem? (i := 283) (by decide +kernel)
set_option maxRecDepth 100000 in
theorem lm_45 : Cond.classLink RX9 55 RX4 ∈ lw_tbl := List.mem_of_getElem? (i := 282) (by decide +kernel)
set_option maxRecDepth 100000 in
theorem lm_46 : Cond.fieldLink RX9 51 "MissingHoles" "grid" "LMissingHoles$Grid;" ∈ lw_tbl := List.mem_of_getElem? (i := 360) (by decide +kernel)
set_option maxRecDepth 100000 in
theorem lm_47 : Cond.initialized RX2 ∈ lw_tbl := List.mem_of_getElem? (i := 60) (by decide +kernel)
set_option maxRecDepth 100000 in
theorem lm_48 : Cond.instantiable RX2 13 ∈ lw_tbl := List.mem_of_getElem? (i := 234) (by decide +kernel)
set_option maxRecDepth 100000 in
theorem lm_49 : Cond.fieldLink RX5 12 "MissingHoles$Reader" "draft" "LMissingHoles$Terms;" ∈ lw_tbl := List.mem_of_getElem? (i := 165) (by decide +kernel)
set_option maxRecDepth 100000 in
theorem lm_50 : Cond.classLink RX5 9 RX8 ∈ lw_tbl := List.mem_of_getElem? (i := 162) (by decide +kernel)
set_option maxRecDepth 100000 in
theorem lm_51 : Cond.methodLink RX5 3 objectInit ∈ lw_tbl := List.mem_of_getElem? (i := 161) (by decide +kernel)
set_option maxRecDepth 100000 in
theorem lm_52 : Cond.code yX5_init cX5_init 2 none ∈ lw_tbl := List.mem_of_getElem? (i := 160) rfl
set_option maxRecDepth 100000 in
theorem lm_53 : Cond.instanceMethod yX5_init ∈ lw_tbl := List.mem_of_getElem? (i := 159) (by decide +kernel)
set_option maxRecDepth 100000 in
theorem lm_54 : Cond.methodLink RX9 25 yX5_init ∈ lw_tbl := List.mem_of_getElem? (i := 158) (by decide +kernel)
set_option maxRecDepth 100000 in
theorem lm_55 : Cond.fieldLink RX7 9 "MissingHoles$Tape" "bytes" "[B" ∈ lw_tbl := List.mem_of_getElem? (i := 136) (by decide +kernel)
set_option maxRecDepth 100000 in
theorem lm_56 : Cond.arrayClass .byte ∈ lw_tbl := List.mem_of_getElem? (i := 155) (by decide +kernel)
set_option maxRecDepth 100000 in
theorem lm_57 : Cond.methodLink RX7 1 objectInit ∈ lw_tbl := List.mem_of_getElem? (i := 135) (by decide +kernel)
set_option maxRecDepth 100000 in
theorem lm_58 : Cond.code yX7_init cX7_init 1 none ∈ lw_tbl := List.mem_of_getElem? (i := 134) rfl
set_option maxRecDepth 100000 in
theorem lm_59 : Cond.instanceMethod yX7_init ∈ lw_tbl := List.mem_of_getElem? (i := 133) (by decide +kernel)
set_option maxRecDepth 100000 in
theorem lm_60 : Cond.fieldLink RX8 45 "MissingHoles$Terms" "bottom" "J" ∈ lw_tbl := List.mem_of_getElem? (i := 113) (by decide +kernel)
set_option maxRecDepth 100000 in
theorem lm_61 : Cond.constantLong RX8 43 (1000) ∈ lw_tbl := List.mem_of_getElem? (i := 94) (by decide +kernel)
set_option maxRecDepth 100000 in
theorem lm_62 : Cond.fieldLink RX8 39 "MissingHoles$Terms" "scale" "J" ∈ lw_tbl := List.mem_of_getElem? (i := 110) (by decide +kernel)
set_option maxRecDepth 100000 in
theorem lm_63 : Cond.constantLong RX8 37 (10) ∈ lw_tbl := List.mem_of_getElem? (i := 93) (by decide +kernel)
set_option maxRecDepth 100000 in
theorem lm_64 : Cond.fieldLink RX8 34 "MissingHoles$Terms" "allHits" "I" ∈ lw_tbl := List.mem_of_getElem? (i := 109) (by decide +kernel)
set_option maxRecDepth 100000 in
theorem lm_65 : Cond.fieldLink RX8 30 "MissingHoles$Terms" "allAreas" "I" ∈ lw_tbl := List.mem_of_getElem? (i := 107) (by decide +kernel)
set_option maxRecDepth 100000 in
theorem lm_66 : Cond.code yX8_settle cX8_settle 2 none ∈ lw_tbl := List.mem_of_getElem? (i := 92) rfl
set_option maxRecDepth 100000 in
theorem lm_67 : Cond.selects RX8 yX8_settle yX8_settle ∈ lw_tbl := List.mem_of_getElem? (i := 91) (by decide +kernel)
set_option maxRecDepth 100000 in
theorem lm_68 : Cond.instanceMethod yX8_settle ∈ lw_tbl := List.mem_of_getElem? (i := 90) (by decide +kernel)
set_option maxRecDepth 100000 in
theorem lm_69 : Cond.methodLink RX8 21 yX8_settle ∈ lw_tbl := List.mem_of_getElem? (i := 89) (by decide +kernel)
set_option maxRecDepth 100000 in
theorem lm_70 : Cond.code yX8_standAsUntold cX8_standAsUntold 2 none ∈ lw_tbl := List.mem_of_getElem? (i := 88) rfl
set_option maxRecDepth 100000 in
theorem lm_71 : Cond.selects RX8 yX8_standAsUntold yX8_standAsUntold ∈ lw_tbl := List.mem_of_getElem? (i := 87) (by decide +kernel)
set_option maxRecDepth 100000 in
theorem lm_72 : Cond.instanceMethod yX8_standAsUntold ∈ lw_tbl := List.mem_of_getElem? (i := 86) (by decide +kernel)
set_option maxRecDepth 100000 in
theorem lm_73 : Cond.fieldLink RX2 15 "MissingHoles$Grid" "rates" "[J" ∈ lw_tbl := List.mem_of_getElem? (i := 243) (by decide +kernel)
set_option maxRecDepth 100000 in
theorem lm_74 : Cond.arrayClass .long ∈ lw_tbl := List.mem_of_getElem? (i := 281) (by decide +kernel)
set_option maxRecDepth 100000 in
theorem lm_75 : Cond.fieldLink RX2 11 "MissingHoles$Grid" "rows" "[I" ∈ lw_tbl := List.mem_of_getElem? (i := 242) (by decide +kernel)
set_option maxRecDepth 100000 in
theorem lm_76 : Cond.methodLink RX2 5 objectInit ∈ lw_tbl := List.mem_of_getElem? (i := 238) (by decide +kernel)
set_option maxRecDepth 100000 in
theorem lm_77 : Cond.code yX2_init cX2_init 4 none ∈ lw_tbl := List.mem_of_getElem? (i := 237) rfl
set_option maxRecDepth 100000 in
theorem lm_78 : Cond.instanceMethod yX2_init ∈ lw_tbl := List.mem_of_getElem? (i := 236) (by decide +kernel)
set_option maxRecDepth 100000 in
theorem lm_79 : Cond.methodLink RX9 48 yX2_init ∈ lw_tbl := List.mem_of_getElem? (i := 235) (by decide +kernel)
set_option maxRecDepth 100000 in
theorem lm_80 : Cond.fieldLink RX0 19 "MissingHoles$Evidence" "downs" "[I" ∈ lw_tbl := List.mem_of_getElem? (i := 224) (by decide +kernel)
set_option maxRecDepth 100000 in
theorem lm_81 : Cond.fieldLink RX0 15 "MissingHoles$Evidence" "shots" "[I" ∈ lw_tbl := List.mem_of_getElem? (i := 222) (by decide +kernel)
set_option maxRecDepth 100000 in
theorem lm_82 : Cond.fieldLink RX0 9 "MissingHoles$Evidence" "wrecks" "[Z" ∈ lw_tbl := List.mem_of_getElem? (i := 220) (by decide +kernel)
set_option maxRecDepth 100000 in
theorem lm_83 : Cond.methodLink RX0 3 objectInit ∈ lw_tbl := List.mem_of_getElem? (i := 219) (by decide +kernel)
set_option maxRecDepth 100000 in
theorem lm_84 : Cond.code yX0_init cX0_init 1 none ∈ lw_tbl := List.mem_of_getElem? (i := 218) rfl
set_option maxRecDepth 100000 in
theorem lm_85 : Cond.instanceMethod yX0_init ∈ lw_tbl := List.mem_of_getElem? (i := 217) (by decide +kernel)
set_option maxRecDepth 100000 in
theorem lm_86 : Cond.fieldLink RX3 15 "MissingHoles$Homes" "changes" "[[I" ∈ lw_tbl := List.mem_of_getElem? (i := 201) (by decide +kernel)
set_option maxRecDepth 100000 in
theorem lm_87 : Cond.classLink RX3 13 "[[I" ∈ lw_tbl := List.mem_of_getElem? (i := 197) (by decide +kernel)
set_option maxRecDepth 100000 in
theorem lm_88 : Cond.fieldLink RX3 9 "MissingHoles$Homes" "sums" "[I" ∈ lw_tbl := List.mem_of_getElem? (i := 199) (by decide +kernel)
set_option maxRecDepth 100000 in
theorem lm_89 : Cond.methodLink RX3 1 objectInit ∈ lw_tbl := List.mem_of_getElem? (i := 196) (by decide +kernel)
set_option maxRecDepth 100000 in
theorem lm_90 : Cond.code yX3_init cX3_init 1 none ∈ lw_tbl := List.mem_of_getElem? (i := 195) rfl
set_option maxRecDepth 100000 in
theorem lm_91 : Cond.instanceMethod yX3_init ∈ lw_tbl := List.mem_of_getElem? (i := 194) (by decide +kernel)
set_option maxRecDepth 100000 in
theorem lm_92 : Cond.methodLink RX5 11 yX8_init ∈ lw_tbl := List.mem_of_getElem? (i := 163) (by decide +kernel)
set_option maxRecDepth 100000 in
theorem lm_93 : Cond.fieldLink RX5 25 "MissingHoles$Reader" "tape" "LMissingHoles$Tape;" ∈ lw_tbl := List.mem_of_getElem? (i := 164) (by decide +kernel)
set_option maxRecDepth 100000 in
theorem lm_94 : Cond.fieldLink RX5 22 "MissingHoles$Reader" "lineTold" "[Z" ∈ lw_tbl := List.mem_of_getElem? (i := 168) (by decide +kernel)
set_option maxRecDepth 100000 in
theorem lm_95 : Cond.fieldLink RX5 18 "MissingHoles$Reader" "partTold" "[Z" ∈ lw_tbl := List.mem_of_getElem? (i := 167) (by decide +kernel)
set_option maxRecDepth 100000 in
theorem lm_96 : Cond.arrayClass .boolean ∈ lw_tbl := List.mem_of_getElem? (i := 190) (by decide +kernel)
set_option maxRecDepth 100000 in
theorem lm_97 : Cond.selects RX4 yX4_weightOf yX4_weightOf ∈ lw_tbl := List.mem_of_getElem? (i := 0) (by decide +kernel)
set_option maxRecDepth 100000 in
theorem lm_98 : Cond.instanceMethod yX4_weightOf ∈ lw_tbl := List.mem_of_getElem? (i := 294) (by decide +kernel)
set_option maxRecDepth 100000 in
theorem lm_99 : Cond.methodLink RX4 30 yX4_weightOf ∈ lw_tbl := List.mem_of_getElem? (i := 292) (by decide +kernel)
set_option maxRecDepth 100000 in
theorem lm_100 : Cond.fieldLink RX4 34 "MissingHoles$Terms" "rules" "[I" ∈ lw_tbl := List.mem_of_getElem? (i := 102) (by decide +kernel)
set_option maxRecDepth 100000 in
theorem lm_101 : Cond.code yX4_settle cX4_settle 3 none ∈ lw_tbl := List.mem_of_getElem? (i := 291) rfl
set_option maxRecDepth 100000 in
theorem lm_102 : Cond.selects RX4 yX4_settle yX4_settle ∈ lw_tbl := List.mem_of_getElem? (i := 290) (by decide +kernel)
set_option maxRecDepth 100000 in
theorem lm_103 : Cond.instanceMethod yX4_settle ∈ lw_tbl := List.mem_of_getElem? (i := 289) (by decide +kernel)
set_option maxRecDepth 100000 in
theorem lm_104 : Cond.methodLink RX4 27 yX4_settle ∈ lw_tbl := List.mem_of_getElem? (i := 288) (by decide +kernel)
set_option maxRecDepth 100000 in
theorem lm_105 : Cond.fieldLink RX4 23 "MissingHoles$Plating" "terms" "LMissingHoles$Terms;" ∈ lw_tbl := List.mem_of_getElem? (i := 301) (by decide +kernel)
set_option maxRecDepth 100000 in
theorem lm_106 : Cond.fieldLink RX4 19 "MissingHoles$Plating" "stands" "[I" ∈ lw_tbl := List.mem_of_getElem? (i := 305) (by decide +kernel)
set_option maxRecDepth 100000 in
theorem lm_107 : Cond.fieldLink RX4 15 "MissingHoles$Plating" "factors" "[J" ∈ lw_tbl := List.mem_of_getElem? (i := 304) (by decide +kernel)
set_option maxRecDepth 100000 in
theorem lm_108 : Cond.fieldLink RX4 9 "MissingHoles$Plating" "light" "[Z" ∈ lw_tbl := List.mem_of_getElem? (i := 302) (by decide +kernel)
set_option maxRecDepth 100000 in
theorem lm_109 : Cond.methodLink RX4 3 objectInit ∈ lw_tbl := List.mem_of_getElem? (i := 287) (by decide +kernel)
set_option maxRecDepth 100000 in
theorem lm_110 : Cond.code yX4_init cX4_init 2 none ∈ lw_tbl := List.mem_of_getElem? (i := 286) rfl
set_option maxRecDepth 100000 in
theorem lm_111 : Cond.instanceMethod yX4_init ∈ lw_tbl := List.mem_of_getElem? (i := 285) (by decide +kernel)
set_option maxRecDepth 100000 in
theorem lm_112 : Cond.methodLink RX9 57 yX4_init ∈ lw_tbl := List.mem_of_getElem? (i := 284) (by decide +kernel)
set_option maxRecDepth 100000 in
theorem lm_113 : Cond.fieldLink RX2 44 "MissingHoles$Grid" "evidence" "LMissingHoles$Evidence;" ∈ lw_tbl := List.mem_of_getElem? (i := 241) (by decide +kernel)
set_option maxRecDepth 100000 in
theorem lm_114 : Cond.fieldLink RX2 40 "MissingHoles$Grid" "homes" "LMissingHoles$Homes;" ∈ lw_tbl := List.mem_of_getElem? (i := 240) (by decide +kernel)
set_option maxRecDepth 100000 in
theorem lm_115 : Cond.fieldLink RX2 36 "MissingHoles$Grid" "terms" "LMissingHoles$Terms;" ∈ lw_tbl := List.mem_of_getElem? (i := 239) (by decide +kernel)
set_option maxRecDepth 100000 in
theorem lm_116 : Cond.fieldLink RX2 33 "MissingHoles$Grid" "unlikeFound" "I" ∈ lw_tbl := List.mem_of_getElem? (i := 253) (by decide +kernel)
set_option maxRecDepth 100000 in
theorem lm_117 : Cond.fieldLink RX2 29 "MissingHoles$Grid" "safestFound" "I" ∈ lw_tbl := List.mem_of_getElem? (i := 252) (by decide +kernel)
set_option maxRecDepth 100000 in
theorem lm_118 : Cond.fieldLink RX2 25 "MissingHoles$Grid" "stale" "Z" ∈ lw_tbl := List.mem_of_getElem? (i := 251) (by decide +kernel)
set_option maxRecDepth 100000 in
theorem lm_119 : Cond.fieldLink RX2 22 "MissingHoles$Grid" "worst" "[I" ∈ lw_tbl := List.mem_of_getElem? (i := 245) (by decide +kernel)
set_option maxRecDepth 100000 in
theorem lm_120 : Cond.fieldLink RX2 19 "MissingHoles$Grid" "tally" "[I" ∈ lw_tbl := List.mem_of_getElem? (i := 244) (by decide +kernel)
set_option maxRecDepth 100000 in
theorem lm_121 : Cond.fieldLink RX6 15 "MissingHoles$Sheet" "lane" "I" ∈ lw_tbl := List.mem_of_getElem? (i := 344) (by decide +kernel)
set_option maxRecDepth 100000 in
theorem lm_122 : Cond.fieldLink RX6 11 "MissingHoles$Sheet" "cells" "[I" ∈ lw_tbl := List.mem_of_getElem? (i := 343) (by decide +kernel)
set_option maxRecDepth 100000 in
theorem lm_123 : Cond.methodLink RX6 3 objectInit ∈ lw_tbl := List.mem_of_getElem? (i := 342) (by decide +kernel)
set_option maxRecDepth 100000 in
theorem lm_124 : Cond.code yX6_init cX6_init 1 none ∈ lw_tbl := List.mem_of_getElem? (i := 341) rfl
set_option maxRecDepth 100000 in
theorem lm_125 : Cond.instanceMethod yX6_init ∈ lw_tbl := List.mem_of_getElem? (i := 340) (by decide +kernel)
set_option maxRecDepth 100000 in
theorem lm_126 : Cond.fieldLink RX1 19 "MissingHoles$Flight" "homes" "LMissingHoles$Homes;" ∈ lw_tbl := List.mem_of_getElem? (i := 323) (by decide +kernel)
set_option maxRecDepth 100000 in
theorem lm_127 : Cond.fieldLink RX1 15 "MissingHoles$Flight" "terms" "LMissingHoles$Terms;" ∈ lw_tbl := List.mem_of_getElem? (i := 322) (by decide +kernel)
set_option maxRecDepth 100000 in
theorem lm_128 : Cond.fieldLink RX1 9 "MissingHoles$Flight" "struck" "[I" ∈ lw_tbl := List.mem_of_getElem? (i := 324) (by decide +kernel)
set_option maxRecDepth 100000 in
theorem lm_129 : Cond.methodLink RX1 3 objectInit ∈ lw_tbl := List.mem_of_getElem? (i := 321) (by decide +kernel)
set_option maxRecDepth 100000 in
theorem lm_130 : Cond.code yX1_init cX1_init 3 none ∈ lw_tbl := List.mem_of_getElem? (i := 320) rfl
set_option maxRecDepth 100000 in
theorem lm_131 : Cond.instanceMethod yX1_init ∈ lw_tbl := List.mem_of_getElem? (i := 319) (by decide +kernel)
set_option maxRecDepth 100000 in
theorem lm_132 : Cond.methodLink RX9 66 yX1_init ∈ lw_tbl := List.mem_of_getElem? (i := 318) (by decide +kernel)
set_option maxRecDepth 100000 in
theorem lm_133 : Cond.constantLong RX4 88 (100) ∈ lw_tbl := List.mem_of_getElem? (i := 300) (by decide +kernel)
set_option maxRecDepth 100000 in
theorem lm_134 : Cond.fieldLink RX4 84 "MissingHoles$Terms" "scale" "J" ∈ lw_tbl := List.mem_of_getElem? (i := 111) (by decide +kernel)
set_option maxRecDepth 100000 in
theorem lm_135 : Cond.code yX4_settleFactors cX4_settleFactors 8 none ∈ lw_tbl := List.mem_of_getElem? (i := 299) rfl
set_option maxRecDepth 100000 in
theorem lm_136 : Cond.selects RX4 yX4_settleFactors yX4_settleFactors ∈ lw_tbl := List.mem_of_getElem? (i := 1) (by decide +kernel)
set_option maxRecDepth 100000 in
theorem lm_137 : Cond.instanceMethod yX4_settleFactors ∈ lw_tbl := List.mem_of_getElem? (i := 298) (by decide +kernel)
set_option maxRecDepth 100000 in
theorem lm_138 : Cond.methodLink RX4 39 yX4_settleFactors ∈ lw_tbl := List.mem_of_getElem? (i := 296) (by decide +kernel)
set_option maxRecDepth 100000 in
theorem lm_139 : Cond.fieldLink RX4 76 "MissingHoles$Terms" "parts" "[I" ∈ lw_tbl := List.mem_of_getElem? (i := 98) (by decide +kernel)
set_option maxRecDepth 100000 in
theorem lm_140 : Cond.code yX4_weightOf cX4_weightOf 4 (some .int) ∈ lw_tbl := List.mem_of_getElem? (i := 295) rfl
set_option maxRecDepth 100000 in
theorem lm_141 : Cond.code yX10_init cX10_init 1 none ∈ lw_tbl := List.mem_of_getElem? (i := 930) rfl
set_option maxRecDepth 100000 in
theorem lm_142 : Cond.fieldLink RX10 60 "MissingHolesModel" "cells" "[I" ∈ lw_tbl := List.mem_of_getElem? (i := 962) (by decide +kernel)
set_option maxRecDepth 100000 in
theorem lm_143 : Cond.fieldLink RX10 57 "MissingHolesModel" "lengths" "[I" ∈ lw_tbl := List.mem_of_getElem? (i := 961) (by decide +kernel)
set_option maxRecDepth 100000 in
theorem lm_144 : Cond.fieldLink RX10 54 "MissingHolesModel" "lanes" "[I" ∈ lw_tbl := List.mem_of_getElem? (i := 960) (by decide +kernel)
set_option maxRecDepth 100000 in
theorem lm_145 : Cond.fieldLink RX10 51 "MissingHolesModel" "good" "[Z" ∈ lw_tbl := List.mem_of_getElem? (i := 959) (by decide +kernel)
set_option maxRecDepth 100000 in
theorem lm_146 : Cond.fieldLink RX10 47 "MissingHolesModel" "old" "Z" ∈ lw_tbl := List.mem_of_getElem? (i := 958) (by decide +kernel)
set_option maxRecDepth 100000 in
theorem lm_147 : Cond.fieldLink RX10 44 "MissingHolesModel" "falls" "[I" ∈ lw_tbl := List.mem_of_getElem? (i := 954) (by decide +kernel)
set_option maxRecDepth 100000 in
theorem lm_148 : Cond.fieldLink RX10 41 "MissingHolesModel" "shotDown" "[I" ∈ lw_tbl := List.mem_of_getElem? (i := 953) (by decide +kernel)
set_option maxRecDepth 100000 in
theorem lm_149 : Cond.fieldLink RX10 38 "MissingHolesModel" "shots" "[I" ∈ lw_tbl := List.mem_of_getElem? (i := 952) (by decide +kernel)
set_option maxRecDepth 100000 in
theorem lm_150 : Cond.fieldLink RX10 34 "MissingHolesModel" "wrecks" "[Z" ∈ lw_tbl := List.mem_of_getElem? (i := 951) (by decide +kernel)
set_option maxRecDepth 100000 in
theorem lm_151 : Cond.fieldLink RX10 31 "MissingHolesModel" "back" "[I" ∈ lw_tbl := List.mem_of_getElem? (i := 948) (by decide +kernel)
set_option maxRecDepth 100000 in
theorem lm_152 : Cond.fieldLink RX10 28 "MissingHolesModel" "known" "[I" ∈ lw_tbl := List.mem_of_getElem? (i := 947) (by decide +kernel)
set_option maxRecDepth 100000 in
theorem lm_153 : Cond.fieldLink RX10 25 "MissingHolesModel" "reads" "[I" ∈ lw_tbl := List.mem_of_getElem? (i := 945) (by decide +kernel)
set_option maxRecDepth 100000 in
theorem lm_154 : Cond.fieldLink RX10 22 "MissingHolesModel" "holds" "[I" ∈ lw_tbl := List.mem_of_getElem? (i := 944) (by decide +kernel)
set_option maxRecDepth 100000 in
theorem lm_155 : Cond.fieldLink RX10 19 "MissingHolesModel" "plain" "[I" ∈ lw_tbl := List.mem_of_getElem? (i := 943) (by decide +kernel)
set_option maxRecDepth 100000 in
theorem lm_156 : Cond.fieldLink RX10 16 "MissingHolesModel" "letters" "[I" ∈ lw_tbl := List.mem_of_getElem? (i := 942) (by decide +kernel)
set_option maxRecDepth 100000 in
theorem lm_157 : Cond.fieldLink RX10 13 "MissingHolesModel" "ends" "[I" ∈ lw_tbl := List.mem_of_getElem? (i := 941) (by decide +kernel)
set_option maxRecDepth 100000 in
theorem lm_158 : Cond.fieldLink RX10 7 "MissingHolesModel" "tape" "[I" ∈ lw_tbl := List.mem_of_getElem? (i := 932) (by decide +kernel)
set_option maxRecDepth 100000 in
theorem lm_159 : Cond.methodLink RX10 1 objectInit ∈ lw_tbl := List.mem_of_getElem? (i := 931) (by decide +kernel)
set_option maxRecDepth 100000 in
theorem lm_160 : Cond.code yX9_feed cX9_feed 3 (some .int) ∈ lw_tbl := List.mem_of_getElem? (i := 389) rfl
set_option maxRecDepth 100000 in
theorem lm_161 : Cond.fieldLink RX7 13 "MissingHoles$Tape" "size" "I" ∈ lw_tbl := List.mem_of_getElem? (i := 137) (by decide +kernel)
set_option maxRecDepth 100000 in
theorem lm_162 : Cond.code yX7_put cX7_put 4 (some .boolean) ∈ lw_tbl := List.mem_of_getElem? (i := 393) rfl
set_option maxRecDepth 100000 in
theorem lm_163 : Cond.selects RX7 yX7_put yX7_put ∈ lw_tbl := List.mem_of_getElem? (i := 392) (by decide +kernel)
set_option maxRecDepth 100000 in
theorem lm_164 : Cond.instanceMethod yX7_put ∈ lw_tbl := List.mem_of_getElem? (i := 391) (by decide +kernel)
set_option maxRecDepth 100000 in
theorem lm_165 : Cond.methodLink RX9 84 yX7_put ∈ lw_tbl := List.mem_of_getElem? (i := 390) (by decide +kernel)
set_option maxRecDepth 100000 in
theorem lm_166 : Cond.fieldLink RX9 88 "MissingHoles$Tape" "size" "I" ∈ lw_tbl := List.mem_of_getElem? (i := 138) (by decide +kernel)
set_option maxRecDepth 100000 in
theorem lm_167 : Cond.initialized RX9 ∈ lw_tbl := List.mem_of_getElem? (i := 54) (by decide +kernel)
set_option maxRecDepth 100000 in
theorem lm_168 : Cond.selects RX9 yX9_feed yX9_feed ∈ lw_tbl := List.mem_of_getElem? (i := 388) (by decide +kernel)
set_option maxRecDepth 100000 in
theorem lm_169 : Cond.instanceMethod yX9_feed ∈ lw_tbl := List.mem_of_getElem? (i := 387) (by decide +kernel)
set_option maxRecDepth 100000 in
theorem lm_170 : Cond.methodLink RL 15 yX9_feed ∈ lw_tbl := List.mem_of_getElem? (i := 386) (by decide +kernel)
set_option maxRecDepth 100000 in
theorem lm_171 : Cond.code yX10_feed cX10_feed 4 (some .int) ∈ lw_tbl := List.mem_of_getElem? (i := 1032) rfl
set_option maxRecDepth 100000 in
theorem lm_172 : Cond.fieldLink RX10 63 "MissingHolesModel" "taped" "I" ∈ lw_tbl := List.mem_of_getElem? (i := 933) (by decide +kernel)
set_option maxRecDepth 100000 in
theorem lm_173 : Cond.initialized RX10 ∈ lw_tbl := List.mem_of_getElem? (i := 64) (by decide +kernel)
set_option maxRecDepth 100000 in
theorem lm_174 : Cond.selects RX10 yX10_feed yX10_feed ∈ lw_tbl := List.mem_of_getElem? (i := 1031) (by decide +kernel)
set_option maxRecDepth 100000 in
theorem lm_175 : Cond.instanceMethod yX10_feed ∈ lw_tbl := List.mem_of_getElem? (i := 1030) (by decide +kernel)
set_option maxRecDepth 100000 in
theorem lm_176 : Cond.methodLink RL 19 yX10_feed ∈ lw_tbl := List.mem_of_getElem? (i := 1029) (by decide +kernel)
set_option maxRecDepth 100000 in
theorem lm_177 : Cond.code yX9_end cX9_end 3 (some .int) ∈ lw_tbl := List.mem_of_getElem? (i := 397) rfl
set_option maxRecDepth 100000 in
theorem lm_178 : Cond.selects RX9 yX9_end yX9_end ∈ lw_tbl := List.mem_of_getElem? (i := 396) (by decide +kernel)
set_option maxRecDepth 100000 in
theorem lm_179 : Cond.instanceMethod yX9_end ∈ lw_tbl := List.mem_of_getElem? (i := 395) (by decide +kernel)
set_option maxRecDepth 100000 in
theorem lm_180 : Cond.methodLink RL 20 yX9_end ∈ lw_tbl := List.mem_of_getElem? (i := 394) (by decide +kernel)
set_option maxRecDepth 100000 in
theorem lm_181 : Cond.code yX10_end cX10_end 3 (some .int) ∈ lw_tbl := List.mem_of_getElem? (i := 1036) rfl
set_option maxRecDepth 100000 in
theorem lm_182 : Cond.code yX10_in cX10_in 6 (some .boolean) ∈ lw_tbl := List.mem_of_getElem? (i := 1039) rfl
set_option maxRecDepth 100000 in
theorem lm_183 : Cond.static yX10_in ∈ lw_tbl := List.mem_of_getElem? (i := 1038) (by decide +kernel)
set_option maxRecDepth 100000 in
theorem lm_184 : Cond.methodLink RX10 67 yX10_in ∈ lw_tbl := List.mem_of_getElem? (i := 1037) (by decide +kernel)
set_option maxRecDepth 100000 in
theorem lm_185 : Cond.selects RX10 yX10_end yX10_end ∈ lw_tbl := List.mem_of_getElem? (i := 1035) (by decide +kernel)
set_option maxRecDepth 100000 in
theorem lm_186 : Cond.instanceMethod yX10_end ∈ lw_tbl := List.mem_of_getElem? (i := 1034) (by decide +kernel)
set_option maxRecDepth 100000 in
theorem lm_187 : Cond.methodLink RL 24 yX10_end ∈ lw_tbl := List.mem_of_getElem? (i := 1033) (by decide +kernel)
set_option maxRecDepth 100000 in
theorem lm_188 : Cond.code yX9_text cX9_text 1 (some .int) ∈ lw_tbl := List.mem_of_getElem? (i := 401) rfl
set_option maxRecDepth 100000 in
theorem lm_189 : Cond.code yX5_begin cX5_begin 2 none ∈ lw_tbl := List.mem_of_getElem? (i := 409) rfl
set_option maxRecDepth 100000 in
theorem lm_190 : Cond.selects RX5 yX5_begin yX5_begin ∈ lw_tbl := List.mem_of_getElem? (i := 2) (by decide +kernel)
set_option maxRecDepth 100000 in
theorem lm_191 : Cond.instanceMethod yX5_begin ∈ lw_tbl := List.mem_of_getElem? (i := 408) (by decide +kernel)
set_option maxRecDepth 100000 in
theorem lm_192 : Cond.methodLink RX5 29 yX5_begin ∈ lw_tbl := List.mem_of_getElem? (i := 406) (by decide +kernel)
set_option maxRecDepth 100000 in
theorem lm_193 : Cond.fieldLink RX5 41 "MissingHoles$Tape" "kind" "I" ∈ lw_tbl := List.mem_of_getElem? (i := 139) (by decide +kernel)
set_option maxRecDepth 100000 in
theorem lm_194 : Cond.fieldLink RX5 37 "MissingHoles$Reader" "fault" "I" ∈ lw_tbl := List.mem_of_getElem? (i := 169) (by decide +kernel)
set_option maxRecDepth 100000 in
theorem lm_195 : Cond.code yX5_readTape cX5_readTape 2 none ∈ lw_tbl := List.mem_of_getElem? (i := 405) rfl
set_option maxRecDepth 100000 in
theorem lm_196 : Cond.selects RX5 yX5_readTape yX5_readTape ∈ lw_tbl := List.mem_of_getElem? (i := 404) (by decide +kernel)
set_option maxRecDepth 100000 in
theorem lm_197 : Cond.instanceMethod yX5_readTape ∈ lw_tbl := List.mem_of_getElem? (i := 403) (by decide +kernel)
set_option maxRecDepth 100000 in
theorem lm_198 : Cond.methodLink RX9 91 yX5_readTape ∈ lw_tbl := List.mem_of_getElem? (i := 402) (by decide +kernel)
set_option maxRecDepth 100000 in
theorem lm_199 : Cond.fieldLink RX9 112 "MissingHoles$Reader" "lines" "I" ∈ lw_tbl := List.mem_of_getElem? (i := 174) (by decide +kernel)
set_option maxRecDepth 100000 in
theorem lm_200 : Cond.fieldLink RX9 100 "MissingHoles$Reader" "draft" "LMissingHoles$Terms;" ∈ lw_tbl := List.mem_of_getElem? (i := 166) (by decide +kernel)
set_option maxRecDepth 100000 in
theorem lm_201 : Cond.fieldLink RX9 97 "MissingHoles$Reader" "place" "I" ∈ lw_tbl := List.mem_of_getElem? (i := 172) (by decide +kernel)
set_option maxRecDepth 100000 in
theorem lm_202 : Cond.fieldLink RX9 94 "MissingHoles$Reader" "fault" "I" ∈ lw_tbl := List.mem_of_getElem? (i := 170) (by decide +kernel)
set_option maxRecDepth 100000 in
theorem lm_203 : Cond.instanceMethod yX7_next ∈ lw_tbl := List.mem_of_getElem? (i := 420) (by decide +kernel)
set_option maxRecDepth 100000 in
theorem lm_204 : Cond.methodLink RX5 62 yX7_next ∈ lw_tbl := List.mem_of_getElem? (i := 419) (by decide +kernel)
set_option maxRecDepth 100000 in
theorem lm_205 : Cond.code yX5_advance cX5_advance 1 none ∈ lw_tbl := List.mem_of_getElem? (i := 418) rfl
set_option maxRecDepth 100000 in
theorem lm_206 : Cond.selects RX5 yX5_advance yX5_advance ∈ lw_tbl := List.mem_of_getElem? (i := 3) (by decide +kernel)
set_option maxRecDepth 100000 in
theorem lm_207 : Cond.instanceMethod yX5_advance ∈ lw_tbl := List.mem_of_getElem? (i := 417) (by decide +kernel)
set_option maxRecDepth 100000 in
theorem lm_208 : Cond.methodLink RX5 32 yX5_advance ∈ lw_tbl := List.mem_of_getElem? (i := 415) (by decide +kernel)
set_option maxRecDepth 100000 in
theorem lm_209 : Cond.fieldLink RX7 23 "MissingHoles$Tape" "kind" "I" ∈ lw_tbl := List.mem_of_getElem? (i := 140) (by decide +kernel)
set_option maxRecDepth 100000 in
theorem lm_210 : Cond.fieldLink RX7 20 "MissingHoles$Tape" "start" "I" ∈ lw_tbl := List.mem_of_getElem? (i := 141) (by decide +kernel)
set_option maxRecDepth 100000 in
theorem lm_211 : Cond.fieldLink RX7 17 "MissingHoles$Tape" "at" "I" ∈ lw_tbl := List.mem_of_getElem? (i := 143) (by decide +kernel)
set_option maxRecDepth 100000 in
theorem lm_212 : Cond.code yX7_rewind cX7_rewind 1 none ∈ lw_tbl := List.mem_of_getElem? (i := 414) rfl
set_option maxRecDepth 100000 in
theorem lm_213 : Cond.selects RX7 yX7_rewind yX7_rewind ∈ lw_tbl := List.mem_of_getElem? (i := 413) (by decide +kernel)
set_option maxRecDepth 100000 in
theorem lm_214 : Cond.instanceMethod yX7_rewind ∈ lw_tbl := List.mem_of_getElem? (i := 412) (by decide +kernel)
set_option maxRecDepth 100000 in
theorem lm_215 : Cond.methodLink RX5 56 yX7_rewind ∈ lw_tbl := List.mem_of_getElem? (i := 411) (by decide +kernel)
set_option maxRecDepth 100000 in
theorem lm_216 : Cond.methodLink RX5 47 yX8_standAsUntold ∈ lw_tbl := List.mem_of_getElem? (i := 410) (by decide +kernel)
set_option maxRecDepth 100000 in
theorem lm_217 : Cond.fieldLink RX5 53 "MissingHoles$Reader" "lines" "I" ∈ lw_tbl := List.mem_of_getElem? (i := 173) (by decide +kernel)
set_option maxRecDepth 100000 in
theorem lm_218 : Cond.fieldLink RX5 50 "MissingHoles$Reader" "place" "I" ∈ lw_tbl := List.mem_of_getElem? (i := 171) (by decide +kernel)
set_option maxRecDepth 100000 in
theorem lm_219 : Cond.instanceMethod yX7_isWord ∈ lw_tbl := List.mem_of_getElem? (i := 441) (by decide +kernel)
set_option maxRecDepth 100000 in
theorem lm_220 : Cond.methodLink RX5 71 yX7_isWord ∈ lw_tbl := List.mem_of_getElem? (i := 440) (by decide +kernel)
set_option maxRecDepth 100000 in
theorem lm_221 : Cond.code yX5_lineNamed cX5_lineNamed 2 (some .int) ∈ lw_tbl := List.mem_of_getElem? (i := 438) rfl
set_option maxRecDepth 100000 in
theorem lm_222 : Cond.selects RX5 yX5_lineNamed yX5_lineNamed ∈ lw_tbl := List.mem_of_getElem? (i := 7) (by decide +kernel)
set_option maxRecDepth 100000 in
theorem lm_223 : Cond.instanceMethod yX5_lineNamed ∈ lw_tbl := List.mem_of_getElem? (i := 437) (by decide +kernel)
set_option maxRecDepth 100000 in
theorem lm_224 : Cond.methodLink RX5 75 yX5_lineNamed ∈ lw_tbl := List.mem_of_getElem? (i := 435) (by decide +kernel)
set_option maxRecDepth 100000 in
theorem lm_225 : Cond.fieldLink RX5 85 "MissingHoles$Terms" "rules" "[I" ∈ lw_tbl := List.mem_of_getElem? (i := 104) (by decide +kernel)
set_option maxRecDepth 100000 in
theorem lm_226 : Cond.code yX5_readLine cX5_readLine 2 none ∈ lw_tbl := List.mem_of_getElem? (i := 434) rfl
set_option maxRecDepth 100000 in
theorem lm_227 : Cond.selects RX5 yX5_readLine yX5_readLine ∈ lw_tbl := List.mem_of_getElem? (i := 6) (by decide +kernel)
set_option maxRecDepth 100000 in
theorem lm_228 : Cond.instanceMethod yX5_readLine ∈ lw_tbl := List.mem_of_getElem? (i := 433) (by decide +kernel)
set_option maxRecDepth 100000 in
theorem lm_229 : Cond.methodLink RX5 44 yX5_readLine ∈ lw_tbl := List.mem_of_getElem? (i := 431) (by decide +kernel)
set_option maxRecDepth 100000 in
theorem lm_230 : Cond.fieldLink RX5 59 "MissingHoles$Tape" "start" "I" ∈ lw_tbl := List.mem_of_getElem? (i := 142) (by decide +kernel)
set_option maxRecDepth 100000 in
theorem lm_231 : Cond.code yX5_fail cX5_fail 2 none ∈ lw_tbl := List.mem_of_getElem? (i := 430) rfl
set_option maxRecDepth 100000 in
theorem lm_232 : Cond.selects RX5 yX5_fail yX5_fail ∈ lw_tbl := List.mem_of_getElem? (i := 5) (by decide +kernel)
set_option maxRecDepth 100000 in
theorem lm_233 : Cond.instanceMethod yX5_fail ∈ lw_tbl := List.mem_of_getElem? (i := 429) (by decide +kernel)
set_option maxRecDepth 100000 in
theorem lm_234 : Cond.methodLink RX5 65 yX5_fail ∈ lw_tbl := List.mem_of_getElem? (i := 427) (by decide +kernel)
set_option maxRecDepth 100000 in
theorem lm_235 : Cond.code yX7_skips cX7_skips 3 (some .boolean) ∈ lw_tbl := List.mem_of_getElem? (i := 426) rfl
set_option maxRecDepth 100000 in
theorem lm_236 : Cond.selects RX7 yX7_skips yX7_skips ∈ lw_tbl := List.mem_of_getElem? (i := 4) (by decide +kernel)
set_option maxRecDepth 100000 in
theorem lm_237 : Cond.instanceMethod yX7_skips ∈ lw_tbl := List.mem_of_getElem? (i := 425) (by decide +kernel)
set_option maxRecDepth 100000 in
theorem lm_238 : Cond.methodLink RX7 26 yX7_skips ∈ lw_tbl := List.mem_of_getElem? (i := 423) (by decide +kernel)
set_option maxRecDepth 100000 in
theorem lm_239 : Cond.code yX7_next cX7_next 1 none ∈ lw_tbl := List.mem_of_getElem? (i := 422) rfl
set_option maxRecDepth 100000 in
theorem lm_240 : Cond.selects RX7 yX7_next yX7_next ∈ lw_tbl := List.mem_of_getElem? (i := 421) (by decide +kernel)
set_option maxRecDepth 100000 in
theorem lm_241 : Cond.static yJ1_charAt_3b067 ∈ lw_tbl := List.mem_of_getElem? (i := 463) (by decide +kernel)
set_option maxRecDepth 100000 in
theorem lm_242 : Cond.methodLink RJ0 495 yJ1_charAt_3b067 ∈ lw_tbl := List.mem_of_getElem? (i := 462) (by decide +kernel)
set_option maxRecDepth 100000 in
theorem lm_243 : Cond.code yJ0_isLatin1_aae02 cJ0_isLatin1_aae02 1 (some .boolean) ∈ lw_tbl := List.mem_of_getElem? (i := 461) rfl
set_option maxRecDepth 100000 in
theorem lm_244 : Cond.selects RJ0 yJ0_isLatin1_aae02 yJ0_isLatin1_aae02 ∈ lw_tbl := List.mem_of_getElem? (i := 460) (by decide +kernel)
set_option maxRecDepth 100000 in
theorem lm_245 : Cond.instanceMethod yJ0_isLatin1_aae02 ∈ lw_tbl := List.mem_of_getElem? (i := 459) (by decide +kernel)
set_option maxRecDepth 100000 in
theorem lm_246 : Cond.methodLink RJ0 492 yJ0_isLatin1_aae02 ∈ lw_tbl := List.mem_of_getElem? (i := 458) (by decide +kernel)
set_option maxRecDepth 100000 in
theorem lm_247 : Cond.code yJ0_charAt_5068e cJ0_charAt_5068e 2 (some .char) ∈ lw_tbl := List.mem_of_getElem? (i := 457) rfl
set_option maxRecDepth 100000 in
theorem lm_248 : Cond.selects RJ0 yJ0_charAt_5068e yJ0_charAt_5068e ∈ lw_tbl := List.mem_of_getElem? (i := 456) (by decide +kernel)
set_option maxRecDepth 100000 in
theorem lm_249 : Cond.instanceMethod yJ0_charAt_5068e ∈ lw_tbl := List.mem_of_getElem? (i := 455) (by decide +kernel)
set_option maxRecDepth 100000 in
theorem lm_250 : Cond.methodLink RX7 36 yJ0_charAt_5068e ∈ lw_tbl := List.mem_of_getElem? (i := 454) (by decide +kernel)
set_option maxRecDepth 100000 in
theorem lm_251 : Cond.fieldLink RJ0 15 "java/lang/String" "coder" "B" ∈ lw_tbl := List.mem_of_getElem? (i := 1320) (by decide +kernel)
set_option maxRecDepth 100000 in
theorem lm_252 : Cond.fieldLink RJ0 38 "java/lang/String" "COMPACT_STRINGS" "Z" ∈ lw_tbl := List.mem_of_getElem? (i := 452) (by decide +kernel)
set_option maxRecDepth 100000 in
theorem lm_253 : Cond.code yJ0_coder_7d493 cJ0_coder_7d493 1 (some .byte) ∈ lw_tbl := List.mem_of_getElem? (i := 451) rfl
set_option maxRecDepth 100000 in
theorem lm_254 : Cond.selects RJ0 yJ0_coder_7d493 yJ0_coder_7d493 ∈ lw_tbl := List.mem_of_getElem? (i := 450) (by decide +kernel)
set_option maxRecDepth 100000 in
theorem lm_255 : Cond.instanceMethod yJ0_coder_7d493 ∈ lw_tbl := List.mem_of_getElem? (i := 449) (by decide +kernel)
set_option maxRecDepth 100000 in
theorem lm_256 : Cond.methodLink RJ0 335 yJ0_coder_7d493 ∈ lw_tbl := List.mem_of_getElem? (i := 448) (by decide +kernel)
set_option maxRecDepth 100000 in
theorem lm_257 : Cond.fieldLink RJ0 9 "java/lang/String" "value" "[B" ∈ lw_tbl := List.mem_of_getElem? (i := 1319) (by decide +kernel)
set_option maxRecDepth 100000 in
theorem lm_258 : Cond.code yJ0_length_8abf5 cJ0_length_8abf5 1 (some .int) ∈ lw_tbl := List.mem_of_getElem? (i := 447) rfl
set_option maxRecDepth 100000 in
theorem lm_259 : Cond.initialized RJ0 ∈ lw_tbl := List.mem_of_getElem? (i := 65) (by decide +kernel)
set_option maxRecDepth 100000 in
theorem lm_260 : Cond.selects RJ0 yJ0_length_8abf5 yJ0_length_8abf5 ∈ lw_tbl := List.mem_of_getElem? (i := 446) (by decide +kernel)
set_option maxRecDepth 100000 in
theorem lm_261 : Cond.instanceMethod yJ0_length_8abf5 ∈ lw_tbl := List.mem_of_getElem? (i := 445) (by decide +kernel)
set_option maxRecDepth 100000 in
theorem lm_262 : Cond.methodLink RX7 30 yJ0_length_8abf5 ∈ lw_tbl := List.mem_of_getElem? (i := 444) (by decide +kernel)
set_option maxRecDepth 100000 in
theorem lm_263 : Cond.code yX7_isWord cX7_isWord 5 (some .boolean) ∈ lw_tbl := List.mem_of_getElem? (i := 443) rfl
set_option maxRecDepth 100000 in
theorem lm_264 : Cond.selects RX7 yX7_isWord yX7_isWord ∈ lw_tbl := List.mem_of_getElem? (i := 442) (by decide +kernel)
set_option maxRecDepth 100000 in
theorem lm_265 : Cond.code yJ2_getChar_3b067 cJ2_getChar_3b067 2 (some .char) ∈ lw_tbl := List.mem_of_getElem? (i := 485) rfl
set_option maxRecDepth 100000 in
theorem lm_266 : Cond.static yJ2_getChar_3b067 ∈ lw_tbl := List.mem_of_getElem? (i := 484) (by decide +kernel)
set_option maxRecDepth 100000 in
theorem lm_267 : Cond.methodLink RJ2 71 yJ2_getChar_3b067 ∈ lw_tbl := List.mem_of_getElem? (i := 483) (by decide +kernel)
set_option maxRecDepth 100000 in
theorem lm_268 : Cond.methodLink RJ2 414 yJ0_checkIndex_df160 ∈ lw_tbl := List.mem_of_getElem? (i := 482) (by decide +kernel)
set_option maxRecDepth 100000 in
theorem lm_269 : Cond.code yJ2_length_9d52b cJ2_length_9d52b 1 (some .int) ∈ lw_tbl := List.mem_of_getElem? (i := 481) rfl
set_option maxRecDepth 100000 in
theorem lm_270 : Cond.static yJ2_length_9d52b ∈ lw_tbl := List.mem_of_getElem? (i := 480) (by decide +kernel)
set_option maxRecDepth 100000 in
theorem lm_271 : Cond.methodLink RJ2 48 yJ2_length_9d52b ∈ lw_tbl := List.mem_of_getElem? (i := 479) (by decide +kernel)
set_option maxRecDepth 100000 in
theorem lm_272 : Cond.code yJ2_checkIndex_2214a cJ2_checkIndex_2214a 2 none ∈ lw_tbl := List.mem_of_getElem? (i := 478) rfl
set_option maxRecDepth 100000 in
theorem lm_273 : Cond.static yJ2_checkIndex_2214a ∈ lw_tbl := List.mem_of_getElem? (i := 477) (by decide +kernel)
set_option maxRecDepth 100000 in
theorem lm_274 : Cond.methodLink RJ2 67 yJ2_checkIndex_2214a ∈ lw_tbl := List.mem_of_getElem? (i := 476) (by decide +kernel)
set_option maxRecDepth 100000 in
theorem lm_275 : Cond.code yJ2_charAt_3b067 cJ2_charAt_3b067 2 (some .char) ∈ lw_tbl := List.mem_of_getElem? (i := 475) rfl
set_option maxRecDepth 100000 in
theorem lm_276 : Cond.initialized RJ2 ∈ lw_tbl := List.mem_of_getElem? (i := 68) (by decide +kernel)
set_option maxRecDepth 100000 in
theorem lm_277 : Cond.static yJ2_charAt_3b067 ∈ lw_tbl := List.mem_of_getElem? (i := 474) (by decide +kernel)
set_option maxRecDepth 100000 in
theorem lm_278 : Cond.methodLink RJ0 498 yJ2_charAt_3b067 ∈ lw_tbl := List.mem_of_getElem? (i := 473) (by decide +kernel)
set_option maxRecDepth 100000 in
theorem lm_279 : Cond.code yJ3_checkIndex_8e157 cJ3_checkIndex_8e157 3 (some .int) ∈ lw_tbl := List.mem_of_getElem? (i := 472) rfl
set_option maxRecDepth 100000 in
theorem lm_280 : Cond.initialized RJ3 ∈ lw_tbl := List.mem_of_getElem? (i := 67) (by decide +kernel)
set_option maxRecDepth 100000 in
theorem lm_281 : Cond.static yJ3_checkIndex_8e157 ∈ lw_tbl := List.mem_of_getElem? (i := 471) (by decide +kernel)
set_option maxRecDepth 100000 in
theorem lm_282 : Cond.methodLink RJ0 1059 yJ3_checkIndex_8e157 ∈ lw_tbl := List.mem_of_getElem? (i := 470) (by decide +kernel)
set_option maxRecDepth 100000 in
theorem lm_283 : Cond.fieldLink RJ0 1053 "jdk/internal/util/Preconditions" "SIOOBE_FORMATTER" "Ljava/util/function/BiFunction;" ∈ lw_tbl := List.mem_of_getElem? (i := 468) (by decide +kernel)
set_option maxRecDepth 100000 in
theorem lm_284 : Cond.code yJ0_checkIndex_df160 cJ0_checkIndex_df160 2 none ∈ lw_tbl := List.mem_of_getElem? (i := 467) rfl
set_option maxRecDepth 100000 in
theorem lm_285 : Cond.static yJ0_checkIndex_df160 ∈ lw_tbl := List.mem_of_getElem? (i := 466) (by decide +kernel)
set_option maxRecDepth 100000 in
theorem lm_286 : Cond.methodLink RJ1 9 yJ0_checkIndex_df160 ∈ lw_tbl := List.mem_of_getElem? (i := 465) (by decide +kernel)
set_option maxRecDepth 100000 in
theorem lm_287 : Cond.code yJ1_charAt_3b067 cJ1_charAt_3b067 2 (some .char) ∈ lw_tbl := List.mem_of_getElem? (i := 464) rfl
set_option maxRecDepth 100000 in
theorem lm_288 : Cond.initialized RJ1 ∈ lw_tbl := List.mem_of_getElem? (i := 66) (by decide +kernel)
set_option maxRecDepth 100000 in
theorem lm_289 : Cond.selects RX7 yX7_number yX7_number ∈ lw_tbl := List.mem_of_getElem? (i := 509) (by decide +kernel)
set_option maxRecDepth 100000 in
theorem lm_290 : Cond.instanceMethod yX7_number ∈ lw_tbl := List.mem_of_getElem? (i := 508) (by decide +kernel)
set_option maxRecDepth 100000 in
theorem lm_291 : Cond.methodLink RX5 106 yX7_number ∈ lw_tbl := List.mem_of_getElem? (i := 507) (by decide +kernel)
set_option maxRecDepth 100000 in
theorem lm_292 : Cond.fieldLink RX5 112 "MissingHoles$Reader" "MOST" "[I" ∈ lw_tbl := List.mem_of_getElem? (i := 513) (by decide +kernel)
set_option maxRecDepth 100000 in
theorem lm_293 : Cond.fieldLink RX5 109 "MissingHoles$Reader" "LEAST" "[I" ∈ lw_tbl := List.mem_of_getElem? (i := 511) (by decide +kernel)
set_option maxRecDepth 100000 in
theorem lm_294 : Cond.code yX5_seenNumber cX5_seenNumber 3 (some .int) ∈ lw_tbl := List.mem_of_getElem? (i := 506) rfl
set_option maxRecDepth 100000 in
theorem lm_295 : Cond.selects RX5 yX5_seenNumber yX5_seenNumber ∈ lw_tbl := List.mem_of_getElem? (i := 9) (by decide +kernel)
set_option maxRecDepth 100000 in
theorem lm_296 : Cond.instanceMethod yX5_seenNumber ∈ lw_tbl := List.mem_of_getElem? (i := 505) (by decide +kernel)
set_option maxRecDepth 100000 in
theorem lm_297 : Cond.methodLink RX5 89 yX5_seenNumber ∈ lw_tbl := List.mem_of_getElem? (i := 503) (by decide +kernel)
set_option maxRecDepth 100000 in
theorem lm_298 : Cond.code yX9_isPart cX9_isPart 1 (some .boolean) ∈ lw_tbl := List.mem_of_getElem? (i := 502) rfl
set_option maxRecDepth 100000 in
theorem lm_299 : Cond.static yX9_isPart ∈ lw_tbl := List.mem_of_getElem? (i := 501) (by decide +kernel)
set_option maxRecDepth 100000 in
theorem lm_300 : Cond.code yX7_letter cX7_letter 1 (some .int) ∈ lw_tbl := List.mem_of_getElem? (i := 499) rfl
set_option maxRecDepth 100000 in
theorem lm_301 : Cond.selects RX7 yX7_letter yX7_letter ∈ lw_tbl := List.mem_of_getElem? (i := 498) (by decide +kernel)
set_option maxRecDepth 100000 in
theorem lm_302 : Cond.instanceMethod yX7_letter ∈ lw_tbl := List.mem_of_getElem? (i := 497) (by decide +kernel)
set_option maxRecDepth 100000 in
theorem lm_303 : Cond.methodLink RX5 96 yX7_letter ∈ lw_tbl := List.mem_of_getElem? (i := 496) (by decide +kernel)
set_option maxRecDepth 100000 in
theorem lm_304 : Cond.fieldLink RX5 103 "MissingHoles$Terms" "parts" "[I" ∈ lw_tbl := List.mem_of_getElem? (i := 99) (by decide +kernel)
set_option maxRecDepth 100000 in
theorem lm_305 : Cond.code yX5_readPartLine cX5_readPartLine 4 none ∈ lw_tbl := List.mem_of_getElem? (i := 495) rfl
set_option maxRecDepth 100000 in
theorem lm_306 : Cond.selects RX5 yX5_readPartLine yX5_readPartLine ∈ lw_tbl := List.mem_of_getElem? (i := 8) (by decide +kernel)
set_option maxRecDepth 100000 in
theorem lm_307 : Cond.instanceMethod yX5_readPartLine ∈ lw_tbl := List.mem_of_getElem? (i := 494) (by decide +kernel)
set_option maxRecDepth 100000 in
theorem lm_308 : Cond.methodLink RX5 79 yX5_readPartLine ∈ lw_tbl := List.mem_of_getElem? (i := 492) (by decide +kernel)
set_option maxRecDepth 100000 in
theorem lm_309 : Cond.fieldLink RJ2 63 "java/lang/StringUTF16" "LO_BYTE_SHIFT" "I" ∈ lw_tbl := List.mem_of_getElem? (i := 490) (by decide +kernel)
set_option maxRecDepth 100000 in
theorem lm_310 : Cond.fieldLink RJ2 59 "java/lang/StringUTF16" "HI_BYTE_SHIFT" "I" ∈ lw_tbl := List.mem_of_getElem? (i := 488) (by decide +kernel)
set_option maxRecDepth 100000 in
theorem lm_311 : Cond.fieldLink RJ2 44 "java/lang/StringUTF16" "$assertionsDisabled" "Z" ∈ lw_tbl := List.mem_of_getElem? (i := 486) (by decide +kernel)
set_option maxRecDepth 100000 in
theorem lm_312 : Cond.initialized "java/lang/System" ∈ lw_tbl := List.mem_of_getElem? (i := 69) (by decide +kernel)
set_option maxRecDepth 100000 in
theorem lm_313 : Cond.static arraycopyName ∈ lw_tbl := List.mem_of_getElem? (i := 528) (by decide +kernel)
set_option maxRecDepth 100000 in
theorem lm_314 : Cond.native arraycopyName ∈ lw_tbl := List.mem_of_getElem? (i := 529) (by decide +kernel)
set_option maxRecDepth 100000 in
theorem lm_315 : Cond.methodLink RX8 24 arraycopyName ∈ lw_tbl := List.mem_of_getElem? (i := 527) (by decide +kernel)
set_option maxRecDepth 100000 in
theorem lm_316 : Cond.code yX8_take cX8_take 2 none ∈ lw_tbl := List.mem_of_getElem? (i := 526) rfl
set_option maxRecDepth 100000 in
theorem lm_317 : Cond.selects RX8 yX8_take yX8_take ∈ lw_tbl := List.mem_of_getElem? (i := 525) (by decide +kernel)
set_option maxRecDepth 100000 in
theorem lm_318 : Cond.instanceMethod yX8_take ∈ lw_tbl := List.mem_of_getElem? (i := 524) (by decide +kernel)
set_option maxRecDepth 100000 in
theorem lm_319 : Cond.methodLink RX9 103 yX8_take ∈ lw_tbl := List.mem_of_getElem? (i := 523) (by decide +kernel)
set_option maxRecDepth 100000 in
theorem lm_320 : Cond.code yX5_readClose cX5_readClose 1 none ∈ lw_tbl := List.mem_of_getElem? (i := 522) rfl
set_option maxRecDepth 100000 in
theorem lm_321 : Cond.selects RX5 yX5_readClose yX5_readClose ∈ lw_tbl := List.mem_of_getElem? (i := 11) (by decide +kernel)
set_option maxRecDepth 100000 in
theorem lm_322 : Cond.instanceMethod yX5_readClose ∈ lw_tbl := List.mem_of_getElem? (i := 521) (by decide +kernel)
set_option maxRecDepth 100000 in
theorem lm_323 : Cond.methodLink RX5 93 yX5_readClose ∈ lw_tbl := List.mem_of_getElem? (i := 519) (by decide +kernel)
set_option maxRecDepth 100000 in
theorem lm_324 : Cond.code yX5_readHits cX5_readHits 3 none ∈ lw_tbl := List.mem_of_getElem? (i := 518) rfl
set_option maxRecDepth 100000 in
theorem lm_325 : Cond.selects RX5 yX5_readHits yX5_readHits ∈ lw_tbl := List.mem_of_getElem? (i := 10) (by decide +kernel)
set_option maxRecDepth 100000 in
theorem lm_326 : Cond.instanceMethod yX5_readHits ∈ lw_tbl := List.mem_of_getElem? (i := 517) (by decide +kernel)
set_option maxRecDepth 100000 in
theorem lm_327 : Cond.methodLink RX5 82 yX5_readHits ∈ lw_tbl := List.mem_of_getElem? (i := 515) (by decide +kernel)
set_option maxRecDepth 100000 in
theorem lm_328 : Cond.code yX7_number cX7_number 3 (some .int) ∈ lw_tbl := List.mem_of_getElem? (i := 510) rfl
set_option maxRecDepth 100000 in
theorem lm_329 : Cond.methodLink RX9 109 yX2_forget ∈ lw_tbl := List.mem_of_getElem? (i := 531) (by decide +kernel)
set_option maxRecDepth 100000 in
theorem lm_330 : Cond.methodLink RX9 106 yX4_settle ∈ lw_tbl := List.mem_of_getElem? (i := 530) (by decide +kernel)
set_option maxRecDepth 100000 in
theorem lm_331 : Cond.code yX2_forget cX2_forget 1 none ∈ lw_tbl := List.mem_of_getElem? (i := 534) rfl
set_option maxRecDepth 100000 in
theorem lm_332 : Cond.selects RX2 yX2_forget yX2_forget ∈ lw_tbl := List.mem_of_getElem? (i := 533) (by decide +kernel)
set_option maxRecDepth 100000 in
theorem lm_333 : Cond.instanceMethod yX2_forget ∈ lw_tbl := List.mem_of_getElem? (i := 532) (by decide +kernel)
set_option maxRecDepth 100000 in
theorem lm_334 : Cond.selects RX9 yX9_text yX9_text ∈ lw_tbl := List.mem_of_getElem? (i := 400) (by decide +kernel)
set_option maxRecDepth 100000 in
theorem lm_335 : Cond.instanceMethod yX9_text ∈ lw_tbl := List.mem_of_getElem? (i := 399) (by decide +kernel)
set_option maxRecDepth 100000 in
theorem lm_336 : Cond.methodLink RL 25 yX9_text ∈ lw_tbl := List.mem_of_getElem? (i := 398) (by decide +kernel)
set_option maxRecDepth 100000 in
theorem lm_337 : Cond.code yX10_text cX10_text 3 (some .int) ∈ lw_tbl := List.mem_of_getElem? (i := 1043) rfl
set_option maxRecDepth 100000 in
theorem lm_338 : Cond.instanceMethod yX10_byteAt ∈ lw_tbl := List.mem_of_getElem? (i := 1050) (by decide +kernel)
set_option maxRecDepth 100000 in
theorem lm_339 : Cond.methodLink RX10 83 yX10_byteAt ∈ lw_tbl := List.mem_of_getElem? (i := 1048) (by decide +kernel)
set_option maxRecDepth 100000 in
theorem lm_340 : Cond.constantLong RX10 99 (57) ∈ lw_tbl := List.mem_of_getElem? (i := 1055) (by decide +kernel)
set_option maxRecDepth 100000 in
theorem lm_341 : Cond.constantLong RX10 97 (48) ∈ lw_tbl := List.mem_of_getElem? (i := 1054) (by decide +kernel)
set_option maxRecDepth 100000 in
theorem lm_342 : Cond.constantLong RX10 95 (122) ∈ lw_tbl := List.mem_of_getElem? (i := 1053) (by decide +kernel)
set_option maxRecDepth 100000 in
theorem lm_343 : Cond.constantLong RX10 93 (97) ∈ lw_tbl := List.mem_of_getElem? (i := 1052) (by decide +kernel)
set_option maxRecDepth 100000 in
theorem lm_344 : Cond.fieldLink RX10 87 "MissingHolesModel" "value" "I" ∈ lw_tbl := List.mem_of_getElem? (i := 940) (by decide +kernel)
set_option maxRecDepth 100000 in
theorem lm_345 : Cond.fieldLink RX10 74 "MissingHolesModel" "place" "I" ∈ lw_tbl := List.mem_of_getElem? (i := 938) (by decide +kernel)
set_option maxRecDepth 100000 in
theorem lm_346 : Cond.code yX10_next cX10_next 2 none ∈ lw_tbl := List.mem_of_getElem? (i := 1047) rfl
set_option maxRecDepth 100000 in
theorem lm_347 : Cond.selects RX10 yX10_next yX10_next ∈ lw_tbl := List.mem_of_getElem? (i := 26) (by decide +kernel)
set_option maxRecDepth 100000 in
theorem lm_348 : Cond.instanceMethod yX10_next ∈ lw_tbl := List.mem_of_getElem? (i := 1046) (by decide +kernel)
set_option maxRecDepth 100000 in
theorem lm_349 : Cond.methodLink RX10 112 yX10_next ∈ lw_tbl := List.mem_of_getElem? (i := 1044) (by decide +kernel)
set_option maxRecDepth 100000 in
theorem lm_350 : Cond.fieldLink RX10 77 "MissingHolesModel" "wrongAt" "I" ∈ lw_tbl := List.mem_of_getElem? (i := 936) (by decide +kernel)
set_option maxRecDepth 100000 in
theorem lm_351 : Cond.fieldLink RX10 127 "MissingHolesModel" "fault" "I" ∈ lw_tbl := List.mem_of_getElem? (i := 934) (by decide +kernel)
set_option maxRecDepth 100000 in
theorem lm_352 : Cond.fieldLink RX10 90 "MissingHolesModel" "token" "I" ∈ lw_tbl := List.mem_of_getElem? (i := 939) (by decide +kernel)
set_option maxRecDepth 100000 in
theorem lm_353 : Cond.fieldLink RX10 105 "MissingHolesModel" "toldOnes" "I" ∈ lw_tbl := List.mem_of_getElem? (i := 946) (by decide +kernel)
set_option maxRecDepth 100000 in
theorem lm_354 : Cond.fieldLink RX10 80 "MissingHolesModel" "spot" "I" ∈ lw_tbl := List.mem_of_getElem? (i := 937) (by decide +kernel)
set_option maxRecDepth 100000 in
theorem lm_355 : Cond.fieldLink RX10 71 "MissingHolesModel" "wrong" "I" ∈ lw_tbl := List.mem_of_getElem? (i := 935) (by decide +kernel)
set_option maxRecDepth 100000 in
theorem lm_356 : Cond.selects RX10 yX10_once yX10_once ∈ lw_tbl := List.mem_of_getElem? (i := 31) (by decide +kernel)
set_option maxRecDepth 100000 in
theorem lm_357 : Cond.instanceMethod yX10_once ∈ lw_tbl := List.mem_of_getElem? (i := 1071) (by decide +kernel)
set_option maxRecDepth 100000 in
theorem lm_358 : Cond.methodLink RX10 117 yX10_once ∈ lw_tbl := List.mem_of_getElem? (i := 1069) (by decide +kernel)
set_option maxRecDepth 100000 in
theorem lm_359 : Cond.code yX10_nameHere cX10_nameHere 4 (some .int) ∈ lw_tbl := List.mem_of_getElem? (i := 1067) rfl
set_option maxRecDepth 100000 in
theorem lm_360 : Cond.selects RX10 yX10_nameHere yX10_nameHere ∈ lw_tbl := List.mem_of_getElem? (i := 30) (by decide +kernel)
set_option maxRecDepth 100000 in
theorem lm_361 : Cond.instanceMethod yX10_nameHere ∈ lw_tbl := List.mem_of_getElem? (i := 1066) (by decide +kernel)
set_option maxRecDepth 100000 in
theorem lm_362 : Cond.methodLink RX10 108 yX10_nameHere ∈ lw_tbl := List.mem_of_getElem? (i := 1064) (by decide +kernel)
set_option maxRecDepth 100000 in
theorem lm_363 : Cond.constantLong RX10 115 (100) ∈ lw_tbl := List.mem_of_getElem? (i := 1068) (by decide +kernel)
set_option maxRecDepth 100000 in
theorem lm_364 : Cond.code yX10_readLine cX10_readLine 3 none ∈ lw_tbl := List.mem_of_getElem? (i := 1063) rfl
set_option maxRecDepth 100000 in
theorem lm_365 : Cond.selects RX10 yX10_readLine yX10_readLine ∈ lw_tbl := List.mem_of_getElem? (i := 29) (by decide +kernel)
set_option maxRecDepth 100000 in
theorem lm_366 : Cond.instanceMethod yX10_readLine ∈ lw_tbl := List.mem_of_getElem? (i := 1062) (by decide +kernel)
set_option maxRecDepth 100000 in
theorem lm_367 : Cond.methodLink RX10 124 yX10_readLine ∈ lw_tbl := List.mem_of_getElem? (i := 1060) (by decide +kernel)
set_option maxRecDepth 100000 in
theorem lm_368 : Cond.code yX10_fails cX10_fails 2 none ∈ lw_tbl := List.mem_of_getElem? (i := 1059) rfl
set_option maxRecDepth 100000 in
theorem lm_369 : Cond.selects RX10 yX10_fails yX10_fails ∈ lw_tbl := List.mem_of_getElem? (i := 28) (by decide +kernel)
set_option maxRecDepth 100000 in
theorem lm_370 : Cond.instanceMethod yX10_fails ∈ lw_tbl := List.mem_of_getElem? (i := 1058) (by decide +kernel)
set_option maxRecDepth 100000 in
theorem lm_371 : Cond.methodLink RX10 101 yX10_fails ∈ lw_tbl := List.mem_of_getElem? (i := 1056) (by decide +kernel)
set_option maxRecDepth 100000 in
theorem lm_372 : Cond.code yX10_byteAt cX10_byteAt 2 (some .int) ∈ lw_tbl := List.mem_of_getElem? (i := 1051) rfl
set_option maxRecDepth 100000 in
theorem lm_373 : Cond.selects RX10 yX10_byteAt yX10_byteAt ∈ lw_tbl := List.mem_of_getElem? (i := 27) (by decide +kernel)
set_option maxRecDepth 100000 in
theorem lm_374 : Cond.code yX10_number cX10_number 4 none ∈ lw_tbl := List.mem_of_getElem? (i := 1076) rfl
set_option maxRecDepth 100000 in
theorem lm_375 : Cond.selects RX10 yX10_number yX10_number ∈ lw_tbl := List.mem_of_getElem? (i := 32) (by decide +kernel)
set_option maxRecDepth 100000 in
theorem lm_376 : Cond.instanceMethod yX10_number ∈ lw_tbl := List.mem_of_getElem? (i := 1075) (by decide +kernel)
set_option maxRecDepth 100000 in
theorem lm_377 : Cond.methodLink RX10 120 yX10_number ∈ lw_tbl := List.mem_of_getElem? (i := 1073) (by decide +kernel)
set_option maxRecDepth 100000 in
theorem lm_378 : Cond.code yX10_once cX10_once 2 none ∈ lw_tbl := List.mem_of_getElem? (i := 1072) rfl
set_option maxRecDepth 100000 in
theorem lm_379 : Cond.selects RX10 yX10_text yX10_text ∈ lw_tbl := List.mem_of_getElem? (i := 1042) (by decide +kernel)
set_option maxRecDepth 100000 in
theorem lm_380 : Cond.instanceMethod yX10_text ∈ lw_tbl := List.mem_of_getElem? (i := 1041) (by decide +kernel)
set_option maxRecDepth 100000 in
theorem lm_381 : Cond.methodLink RL 29 yX10_text ∈ lw_tbl := List.mem_of_getElem? (i := 1040) (by decide +kernel)
set_option maxRecDepth 100000 in
theorem lm_382 : Cond.code yX9_fault cX9_fault 1 (some .int) ∈ lw_tbl := List.mem_of_getElem? (i := 538) rfl
set_option maxRecDepth 100000 in
theorem lm_383 : Cond.selects RX9 yX9_fault yX9_fault ∈ lw_tbl := List.mem_of_getElem? (i := 537) (by decide +kernel)
set_option maxRecDepth 100000 in
theorem lm_384 : Cond.instanceMethod yX9_fault ∈ lw_tbl := List.mem_of_getElem? (i := 536) (by decide +kernel)
set_option maxRecDepth 100000 in
theorem lm_385 : Cond.methodLink RL 30 yX9_fault ∈ lw_tbl := List.mem_of_getElem? (i := 535) (by decide +kernel)
set_option maxRecDepth 100000 in
theorem lm_386 : Cond.code yX10_fault cX10_fault 1 (some .int) ∈ lw_tbl := List.mem_of_getElem? (i := 1080) rfl
set_option maxRecDepth 100000 in
theorem lm_387 : Cond.selects RX10 yX10_fault yX10_fault ∈ lw_tbl := List.mem_of_getElem? (i := 1079) (by decide +kernel)
set_option maxRecDepth 100000 in
theorem lm_388 : Cond.instanceMethod yX10_fault ∈ lw_tbl := List.mem_of_getElem? (i := 1078) (by decide +kernel)
set_option maxRecDepth 100000 in
theorem lm_389 : Cond.methodLink RL 33 yX10_fault ∈ lw_tbl := List.mem_of_getElem? (i := 1077) (by decide +kernel)
set_option maxRecDepth 100000 in
theorem lm_390 : Cond.code yX9_part cX9_part 3 (some .int) ∈ lw_tbl := List.mem_of_getElem? (i := 542) rfl
set_option maxRecDepth 100000 in
theorem lm_391 : Cond.methodLink RX9 115 yX9_isPart ∈ lw_tbl := List.mem_of_getElem? (i := 543) (by decide +kernel)
set_option maxRecDepth 100000 in
theorem lm_392 : Cond.fieldLink RX9 119 "MissingHoles$Terms" "parts" "[I" ∈ lw_tbl := List.mem_of_getElem? (i := 97) (by decide +kernel)
set_option maxRecDepth 100000 in
theorem lm_393 : Cond.selects RX9 yX9_part yX9_part ∈ lw_tbl := List.mem_of_getElem? (i := 541) (by decide +kernel)
set_option maxRecDepth 100000 in
theorem lm_394 : Cond.instanceMethod yX9_part ∈ lw_tbl := List.mem_of_getElem? (i := 540) (by decide +kernel)
set_option maxRecDepth 100000 in
theorem lm_395 : Cond.methodLink RL 34 yX9_part ∈ lw_tbl := List.mem_of_getElem? (i := 539) (by decide +kernel)
set_option maxRecDepth 100000 in
theorem lm_396 : Cond.code yX10_part cX10_part 3 (some .int) ∈ lw_tbl := List.mem_of_getElem? (i := 1084) rfl
set_option maxRecDepth 100000 in
theorem lm_397 : Cond.constantLong RX10 130 (3) ∈ lw_tbl := List.mem_of_getElem? (i := 1088) (by decide +kernel)
set_option maxRecDepth 100000 in
theorem lm_398 : Cond.code yX10_isPart cX10_isPart 1 (some .boolean) ∈ lw_tbl := List.mem_of_getElem? (i := 1087) rfl
set_option maxRecDepth 100000 in
theorem lm_399 : Cond.static yX10_isPart ∈ lw_tbl := List.mem_of_getElem? (i := 1086) (by decide +kernel)
set_option maxRecDepth 100000 in
theorem lm_400 : Cond.methodLink RX10 132 yX10_isPart ∈ lw_tbl := List.mem_of_getElem? (i := 1085) (by decide +kernel)
set_option maxRecDepth 100000 in
theorem lm_401 : Cond.constantLong RX10 136 (2) ∈ lw_tbl := List.mem_of_getElem? (i := 1089) (by decide +kernel)
set_option maxRecDepth 100000 in
theorem lm_402 : Cond.selects RX10 yX10_part yX10_part ∈ lw_tbl := List.mem_of_getElem? (i := 1083) (by decide +kernel)
set_option maxRecDepth 100000 in
theorem lm_403 : Cond.instanceMethod yX10_part ∈ lw_tbl := List.mem_of_getElem? (i := 1082) (by decide +kernel)
set_option maxRecDepth 100000 in
theorem lm_404 : Cond.methodLink RL 38 yX10_part ∈ lw_tbl := List.mem_of_getElem? (i := 1081) (by decide +kernel)
set_option maxRecDepth 100000 in
theorem lm_405 : Cond.code yX9_rule cX9_rule 2 (some .int) ∈ lw_tbl := List.mem_of_getElem? (i := 547) rfl
set_option maxRecDepth 100000 in
theorem lm_406 : Cond.fieldLink RX9 123 "MissingHoles$Terms" "rules" "[I" ∈ lw_tbl := List.mem_of_getElem? (i := 103) (by decide +kernel)
set_option maxRecDepth 100000 in
theorem lm_407 : Cond.selects RX9 yX9_rule yX9_rule ∈ lw_tbl := List.mem_of_getElem? (i := 546) (by decide +kernel)
set_option maxRecDepth 100000 in
theorem lm_408 : Cond.instanceMethod yX9_rule ∈ lw_tbl := List.mem_of_getElem? (i := 545) (by decide +kernel)
set_option maxRecDepth 100000 in
theorem lm_409 : Cond.methodLink RL 39 yX9_rule ∈ lw_tbl := List.mem_of_getElem? (i := 544) (by decide +kernel)
set_option maxRecDepth 100000 in
theorem lm_410 : Cond.code yX10_rule cX10_rule 2 (some .int) ∈ lw_tbl := List.mem_of_getElem? (i := 1093) rfl
set_option maxRecDepth 100000 in
theorem lm_411 : Cond.constantLong RX10 138 (6) ∈ lw_tbl := List.mem_of_getElem? (i := 1094) (by decide +kernel)
set_option maxRecDepth 100000 in
theorem lm_412 : Cond.selects RX10 yX10_rule yX10_rule ∈ lw_tbl := List.mem_of_getElem? (i := 1092) (by decide +kernel)
set_option maxRecDepth 100000 in
theorem lm_413 : Cond.instanceMethod yX10_rule ∈ lw_tbl := List.mem_of_getElem? (i := 1091) (by decide +kernel)
set_option maxRecDepth 100000 in
theorem lm_414 : Cond.methodLink RL 42 yX10_rule ∈ lw_tbl := List.mem_of_getElem? (i := 1090) (by decide +kernel)
set_option maxRecDepth 100000 in
theorem lm_415 : Cond.code yX9_told cX9_told 4 (some .int) ∈ lw_tbl := List.mem_of_getElem? (i := 551) rfl
set_option maxRecDepth 100000 in
theorem lm_416 : Cond.methodLink RX9 136 yX3_add ∈ lw_tbl := List.mem_of_getElem? (i := 566) (by decide +kernel)
set_option maxRecDepth 100000 in
theorem lm_417 : Cond.code Lib.Math.min.name Lib.Math.min.code 2 (some .int) ∈ lw_tbl := List.mem_of_getElem? (i := 565) rfl
set_option maxRecDepth 100000 in
theorem lm_418 : Cond.initialized "java/lang/Math" ∈ lw_tbl := List.mem_of_getElem? (i := 70) (by decide +kernel)
set_option maxRecDepth 100000 in
theorem lm_419 : Cond.static Lib.Math.min.name ∈ lw_tbl := List.mem_of_getElem? (i := 564) (by decide +kernel)
set_option maxRecDepth 100000 in
theorem lm_420 : Cond.methodLink RX3 29 Lib.Math.min.name ∈ lw_tbl := List.mem_of_getElem? (i := 563) (by decide +kernel)
set_option maxRecDepth 100000 in
theorem lm_421 : Cond.fieldLink RX3 26 "MissingHoles$Homes" "acts" "I" ∈ lw_tbl := List.mem_of_getElem? (i := 203) (by decide +kernel)
set_option maxRecDepth 100000 in
theorem lm_422 : Cond.fieldLink RX3 22 "MissingHoles$Homes" "latest" "I" ∈ lw_tbl := List.mem_of_getElem? (i := 202) (by decide +kernel)
set_option maxRecDepth 100000 in
theorem lm_423 : Cond.code yX3_beginAct cX3_beginAct 2 none ∈ lw_tbl := List.mem_of_getElem? (i := 562) rfl
set_option maxRecDepth 100000 in
theorem lm_424 : Cond.selects RX3 yX3_beginAct yX3_beginAct ∈ lw_tbl := List.mem_of_getElem? (i := 561) (by decide +kernel)
set_option maxRecDepth 100000 in
theorem lm_425 : Cond.instanceMethod yX3_beginAct ∈ lw_tbl := List.mem_of_getElem? (i := 560) (by decide +kernel)
set_option maxRecDepth 100000 in
theorem lm_426 : Cond.methodLink RX9 133 yX3_beginAct ∈ lw_tbl := List.mem_of_getElem? (i := 559) (by decide +kernel)
set_option maxRecDepth 100000 in
theorem lm_427 : Cond.code yX3_sorties cX3_sorties 1 (some .int) ∈ lw_tbl := List.mem_of_getElem? (i := 558) rfl
set_option maxRecDepth 100000 in
theorem lm_428 : Cond.selects RX3 yX3_sorties yX3_sorties ∈ lw_tbl := List.mem_of_getElem? (i := 557) (by decide +kernel)
set_option maxRecDepth 100000 in
theorem lm_429 : Cond.instanceMethod yX3_sorties ∈ lw_tbl := List.mem_of_getElem? (i := 556) (by decide +kernel)
set_option maxRecDepth 100000 in
theorem lm_430 : Cond.methodLink RX9 129 yX3_sorties ∈ lw_tbl := List.mem_of_getElem? (i := 555) (by decide +kernel)
set_option maxRecDepth 100000 in
theorem lm_431 : Cond.code yX9_areHoles cX9_areHoles 1 (some .boolean) ∈ lw_tbl := List.mem_of_getElem? (i := 554) rfl
set_option maxRecDepth 100000 in
theorem lm_432 : Cond.static yX9_areHoles ∈ lw_tbl := List.mem_of_getElem? (i := 553) (by decide +kernel)
set_option maxRecDepth 100000 in
theorem lm_433 : Cond.methodLink RX9 126 yX9_areHoles ∈ lw_tbl := List.mem_of_getElem? (i := 552) (by decide +kernel)
set_option maxRecDepth 100000 in
theorem lm_434 : Cond.methodLink RX3 35 yX3_add ∈ lw_tbl := List.mem_of_getElem? (i := 574) (by decide +kernel)
set_option maxRecDepth 100000 in
theorem lm_435 : Cond.code yX3_addHomes cX3_addHomes 7 none ∈ lw_tbl := List.mem_of_getElem? (i := 573) rfl
set_option maxRecDepth 100000 in
theorem lm_436 : Cond.selects RX3 yX3_addHomes yX3_addHomes ∈ lw_tbl := List.mem_of_getElem? (i := 572) (by decide +kernel)
set_option maxRecDepth 100000 in
theorem lm_437 : Cond.instanceMethod yX3_addHomes ∈ lw_tbl := List.mem_of_getElem? (i := 571) (by decide +kernel)
set_option maxRecDepth 100000 in
theorem lm_438 : Cond.methodLink RX9 140 yX3_addHomes ∈ lw_tbl := List.mem_of_getElem? (i := 570) (by decide +kernel)
set_option maxRecDepth 100000 in
theorem lm_439 : Cond.code yX3_add cX3_add 3 none ∈ lw_tbl := List.mem_of_getElem? (i := 569) rfl
set_option maxRecDepth 100000 in
theorem lm_440 : Cond.selects RX3 yX3_add yX3_add ∈ lw_tbl := List.mem_of_getElem? (i := 568) (by decide +kernel)
set_option maxRecDepth 100000 in
theorem lm_441 : Cond.instanceMethod yX3_add ∈ lw_tbl := List.mem_of_getElem? (i := 567) (by decide +kernel)
set_option maxRecDepth 100000 in
theorem lm_442 : Cond.selects RX9 yX9_told yX9_told ∈ lw_tbl := List.mem_of_getElem? (i := 550) (by decide +kernel)
set_option maxRecDepth 100000 in
theorem lm_443 : Cond.instanceMethod yX9_told ∈ lw_tbl := List.mem_of_getElem? (i := 549) (by decide +kernel)
set_option maxRecDepth 100000 in
theorem lm_444 : Cond.methodLink RL 43 yX9_told ∈ lw_tbl := List.mem_of_getElem? (i := 548) (by decide +kernel)
set_option maxRecDepth 100000 in
theorem lm_445 : Cond.code yX10_told cX10_told 4 (some .int) ∈ lw_tbl := List.mem_of_getElem? (i := 1098) rfl
set_option maxRecDepth 100000 in
theorem lm_446 : Cond.code yX10_home cX10_home 4 none ∈ lw_tbl := List.mem_of_getElem? (i := 1114) rfl
set_option maxRecDepth 100000 in
theorem lm_447 : Cond.selects RX10 yX10_home yX10_home ∈ lw_tbl := List.mem_of_getElem? (i := 34) (by decide +kernel)
set_option maxRecDepth 100000 in
theorem lm_448 : Cond.instanceMethod yX10_home ∈ lw_tbl := List.mem_of_getElem? (i := 1113) (by decide +kernel)
set_option maxRecDepth 100000 in
theorem lm_449 : Cond.methodLink RX10 157 yX10_home ∈ lw_tbl := List.mem_of_getElem? (i := 1111) (by decide +kernel)
set_option maxRecDepth 100000 in
theorem lm_450 : Cond.fieldLink RX10 140 "MissingHolesModel" "undos" "I" ∈ lw_tbl := List.mem_of_getElem? (i := 949) (by decide +kernel)
set_option maxRecDepth 100000 in
theorem lm_451 : Cond.code yX10_acts cX10_acts 2 none ∈ lw_tbl := List.mem_of_getElem? (i := 1110) rfl
set_option maxRecDepth 100000 in
theorem lm_452 : Cond.selects RX10 yX10_acts yX10_acts ∈ lw_tbl := List.mem_of_getElem? (i := 33) (by decide +kernel)
set_option maxRecDepth 100000 in
theorem lm_453 : Cond.instanceMethod yX10_acts ∈ lw_tbl := List.mem_of_getElem? (i := 1109) (by decide +kernel)
set_option maxRecDepth 100000 in
theorem lm_454 : Cond.methodLink RX10 154 yX10_acts ∈ lw_tbl := List.mem_of_getElem? (i := 1107) (by decide +kernel)
set_option maxRecDepth 100000 in
theorem lm_455 : Cond.code yX10_figure cX10_figure 2 (some .int) ∈ lw_tbl := List.mem_of_getElem? (i := 1106) rfl
set_option maxRecDepth 100000 in
theorem lm_456 : Cond.static yX10_figure ∈ lw_tbl := List.mem_of_getElem? (i := 1105) (by decide +kernel)
set_option maxRecDepth 100000 in
theorem lm_457 : Cond.methodLink RX10 143 yX10_figure ∈ lw_tbl := List.mem_of_getElem? (i := 1104) (by decide +kernel)
set_option maxRecDepth 100000 in
theorem lm_458 : Cond.code yX10_sumOf cX10_sumOf 3 (some .int) ∈ lw_tbl := List.mem_of_getElem? (i := 1103) rfl
set_option maxRecDepth 100000 in
theorem lm_459 : Cond.static yX10_sumOf ∈ lw_tbl := List.mem_of_getElem? (i := 1102) (by decide +kernel)
set_option maxRecDepth 100000 in
theorem lm_460 : Cond.methodLink RX10 147 yX10_sumOf ∈ lw_tbl := List.mem_of_getElem? (i := 1101) (by decide +kernel)
set_option maxRecDepth 100000 in
theorem lm_461 : Cond.constantLong RX10 152 (255) ∈ lw_tbl := List.mem_of_getElem? (i := 1100) (by decide +kernel)
set_option maxRecDepth 100000 in
theorem lm_462 : Cond.constantLong RX10 150 (99) ∈ lw_tbl := List.mem_of_getElem? (i := 1099) (by decide +kernel)
set_option maxRecDepth 100000 in
theorem lm_463 : Cond.selects RX10 yX10_told yX10_told ∈ lw_tbl := List.mem_of_getElem? (i := 1097) (by decide +kernel)
set_option maxRecDepth 100000 in
theorem lm_464 : Cond.instanceMethod yX10_told ∈ lw_tbl := List.mem_of_getElem? (i := 1096) (by decide +kernel)
set_option maxRecDepth 100000 in
theorem lm_465 : Cond.methodLink RL 47 yX10_told ∈ lw_tbl := List.mem_of_getElem? (i := 1095) (by decide +kernel)
set_option maxRecDepth 100000 in
theorem lm_466 : Cond.code yX9_draw cX9_draw 4 (some .int) ∈ lw_tbl := List.mem_of_getElem? (i := 578) rfl
set_option maxRecDepth 100000 in
theorem lm_467 : Cond.selects RX1 yX1_fly yX1_fly ∈ lw_tbl := List.mem_of_getElem? (i := 581) (by decide +kernel)
set_option maxRecDepth 100000 in
theorem lm_468 : Cond.instanceMethod yX1_fly ∈ lw_tbl := List.mem_of_getElem? (i := 580) (by decide +kernel)
set_option maxRecDepth 100000 in
theorem lm_469 : Cond.methodLink RX9 144 yX1_fly ∈ lw_tbl := List.mem_of_getElem? (i := 579) (by decide +kernel)
set_option maxRecDepth 100000 in
theorem lm_470 : Cond.methodLink RX1 52 yX3_addHomes ∈ lw_tbl := List.mem_of_getElem? (i := 593) (by decide +kernel)
set_option maxRecDepth 100000 in
theorem lm_471 : Cond.code yX1_pick cX1_pick 5 (some .int) ∈ lw_tbl := List.mem_of_getElem? (i := 592) rfl
set_option maxRecDepth 100000 in
theorem lm_472 : Cond.selects RX1 yX1_pick yX1_pick ∈ lw_tbl := List.mem_of_getElem? (i := 13) (by decide +kernel)
set_option maxRecDepth 100000 in
theorem lm_473 : Cond.instanceMethod yX1_pick ∈ lw_tbl := List.mem_of_getElem? (i := 591) (by decide +kernel)
set_option maxRecDepth 100000 in
theorem lm_474 : Cond.methodLink RX1 42 yX1_pick ∈ lw_tbl := List.mem_of_getElem? (i := 589) (by decide +kernel)
set_option maxRecDepth 100000 in
theorem lm_475 : Cond.constant RX1 59 (1103515245) ∈ lw_tbl := List.mem_of_getElem? (i := 588) (by decide +kernel)
set_option maxRecDepth 100000 in
theorem lm_476 : Cond.fieldLink RX1 56 "MissingHoles$Flight" "seed" "I" ∈ lw_tbl := List.mem_of_getElem? (i := 325) (by decide +kernel)
set_option maxRecDepth 100000 in
theorem lm_477 : Cond.code yX1_roll cX1_roll 2 (some .int) ∈ lw_tbl := List.mem_of_getElem? (i := 587) rfl
set_option maxRecDepth 100000 in
theorem lm_478 : Cond.selects RX1 yX1_roll yX1_roll ∈ lw_tbl := List.mem_of_getElem? (i := 12) (by decide +kernel)
set_option maxRecDepth 100000 in
theorem lm_479 : Cond.instanceMethod yX1_roll ∈ lw_tbl := List.mem_of_getElem? (i := 586) (by decide +kernel)
set_option maxRecDepth 100000 in
theorem lm_480 : Cond.methodLink RX1 29 yX1_roll ∈ lw_tbl := List.mem_of_getElem? (i := 584) (by decide +kernel)
set_option maxRecDepth 100000 in
theorem lm_481 : Cond.methodLink RX1 25 yX3_add ∈ lw_tbl := List.mem_of_getElem? (i := 583) (by decide +kernel)
set_option maxRecDepth 100000 in
theorem lm_482 : Cond.fieldLink RX1 49 "MissingHoles$Terms" "allAreas" "I" ∈ lw_tbl := List.mem_of_getElem? (i := 106) (by decide +kernel)
set_option maxRecDepth 100000 in
theorem lm_483 : Cond.fieldLink RX1 46 "MissingHoles$Terms" "parts" "[I" ∈ lw_tbl := List.mem_of_getElem? (i := 96) (by decide +kernel)
set_option maxRecDepth 100000 in
theorem lm_484 : Cond.fieldLink RX1 38 "MissingHoles$Terms" "allHits" "I" ∈ lw_tbl := List.mem_of_getElem? (i := 108) (by decide +kernel)
set_option maxRecDepth 100000 in
theorem lm_485 : Cond.fieldLink RX1 33 "MissingHoles$Terms" "rules" "[I" ∈ lw_tbl := List.mem_of_getElem? (i := 101) (by decide +kernel)
set_option maxRecDepth 100000 in
theorem lm_486 : Cond.code yX1_fly cX1_fly 4 (some .boolean) ∈ lw_tbl := List.mem_of_getElem? (i := 582) rfl
set_option maxRecDepth 100000 in
theorem lm_487 : Cond.selects RX9 yX9_draw yX9_draw ∈ lw_tbl := List.mem_of_getElem? (i := 577) (by decide +kernel)
set_option maxRecDepth 100000 in
theorem lm_488 : Cond.instanceMethod yX9_draw ∈ lw_tbl := List.mem_of_getElem? (i := 576) (by decide +kernel)
set_option maxRecDepth 100000 in
theorem lm_489 : Cond.methodLink RL 48 yX9_draw ∈ lw_tbl := List.mem_of_getElem? (i := 575) (by decide +kernel)
set_option maxRecDepth 100000 in
theorem lm_490 : Cond.code yX10_draw cX10_draw 5 (some .int) ∈ lw_tbl := List.mem_of_getElem? (i := 1118) rfl
set_option maxRecDepth 100000 in
theorem lm_491 : Cond.constant RX10 164 (1103515245) ∈ lw_tbl := List.mem_of_getElem? (i := 1127) (by decide +kernel)
set_option maxRecDepth 100000 in
theorem lm_492 : Cond.fieldLink RX10 161 "MissingHolesModel" "seed" "I" ∈ lw_tbl := List.mem_of_getElem? (i := 950) (by decide +kernel)
set_option maxRecDepth 100000 in
theorem lm_493 : Cond.code yX10_drawn cX10_drawn 2 (some .int) ∈ lw_tbl := List.mem_of_getElem? (i := 1126) rfl
set_option maxRecDepth 100000 in
theorem lm_494 : Cond.selects RX10 yX10_drawn yX10_drawn ∈ lw_tbl := List.mem_of_getElem? (i := 36) (by decide +kernel)
set_option maxRecDepth 100000 in
theorem lm_495 : Cond.instanceMethod yX10_drawn ∈ lw_tbl := List.mem_of_getElem? (i := 1125) (by decide +kernel)
set_option maxRecDepth 100000 in
theorem lm_496 : Cond.methodLink RX10 165 yX10_drawn ∈ lw_tbl := List.mem_of_getElem? (i := 1123) (by decide +kernel)
set_option maxRecDepth 100000 in
theorem lm_497 : Cond.code yX10_sortie cX10_sortie 5 (some .int) ∈ lw_tbl := List.mem_of_getElem? (i := 1122) rfl
set_option maxRecDepth 100000 in
theorem lm_498 : Cond.selects RX10 yX10_sortie yX10_sortie ∈ lw_tbl := List.mem_of_getElem? (i := 35) (by decide +kernel)
set_option maxRecDepth 100000 in
theorem lm_499 : Cond.instanceMethod yX10_sortie ∈ lw_tbl := List.mem_of_getElem? (i := 1121) (by decide +kernel)
set_option maxRecDepth 100000 in
theorem lm_500 : Cond.methodLink RX10 171 yX10_sortie ∈ lw_tbl := List.mem_of_getElem? (i := 1119) (by decide +kernel)
set_option maxRecDepth 100000 in
theorem lm_501 : Cond.code yX10_drawOf cX10_drawOf 5 (some .int) ∈ lw_tbl := List.mem_of_getElem? (i := 1131) rfl
set_option maxRecDepth 100000 in
theorem lm_502 : Cond.selects RX10 yX10_drawOf yX10_drawOf ∈ lw_tbl := List.mem_of_getElem? (i := 37) (by decide +kernel)
set_option maxRecDepth 100000 in
theorem lm_503 : Cond.instanceMethod yX10_drawOf ∈ lw_tbl := List.mem_of_getElem? (i := 1130) (by decide +kernel)
set_option maxRecDepth 100000 in
theorem lm_504 : Cond.methodLink RX10 168 yX10_drawOf ∈ lw_tbl := List.mem_of_getElem? (i := 1128) (by decide +kernel)
set_option maxRecDepth 100000 in
theorem lm_505 : Cond.selects RX10 yX10_draw yX10_draw ∈ lw_tbl := List.mem_of_getElem? (i := 1117) (by decide +kernel)
set_option maxRecDepth 100000 in
theorem lm_506 : Cond.instanceMethod yX10_draw ∈ lw_tbl := List.mem_of_getElem? (i := 1116) (by decide +kernel)
set_option maxRecDepth 100000 in
theorem lm_507 : Cond.methodLink RL 51 yX10_draw ∈ lw_tbl := List.mem_of_getElem? (i := 1115) (by decide +kernel)
set_option maxRecDepth 100000 in
theorem lm_508 : Cond.code yX9_seed cX9_seed 3 (some .int) ∈ lw_tbl := List.mem_of_getElem? (i := 597) rfl
set_option maxRecDepth 100000 in
theorem lm_509 : Cond.fieldLink RX9 148 "MissingHoles$Flight" "seed" "I" ∈ lw_tbl := List.mem_of_getElem? (i := 326) (by decide +kernel)
set_option maxRecDepth 100000 in
theorem lm_510 : Cond.selects RX9 yX9_seed yX9_seed ∈ lw_tbl := List.mem_of_getElem? (i := 596) (by decide +kernel)
set_option maxRecDepth 100000 in
theorem lm_511 : Cond.instanceMethod yX9_seed ∈ lw_tbl := List.mem_of_getElem? (i := 595) (by decide +kernel)
set_option maxRecDepth 100000 in
theorem lm_512 : Cond.methodLink RL 52 yX9_seed ∈ lw_tbl := List.mem_of_getElem? (i := 594) (by decide +kernel)
set_option maxRecDepth 100000 in
theorem lm_513 : Cond.code yX10_seed cX10_seed 3 (some .int) ∈ lw_tbl := List.mem_of_getElem? (i := 1135) rfl
set_option maxRecDepth 100000 in
theorem lm_514 : Cond.selects RX10 yX10_seed yX10_seed ∈ lw_tbl := List.mem_of_getElem? (i := 1134) (by decide +kernel)
set_option maxRecDepth 100000 in
theorem lm_515 : Cond.instanceMethod yX10_seed ∈ lw_tbl := List.mem_of_getElem? (i := 1133) (by decide +kernel)
set_option maxRecDepth 100000 in
theorem lm_516 : Cond.methodLink RL 55 yX10_seed ∈ lw_tbl := List.mem_of_getElem? (i := 1132) (by decide +kernel)
set_option maxRecDepth 100000 in
theorem lm_517 : Cond.code yX9_wreck cX9_wreck 4 (some .int) ∈ lw_tbl := List.mem_of_getElem? (i := 601) rfl
set_option maxRecDepth 100000 in
theorem lm_518 : Cond.fieldLink RX9 151 "MissingHoles$Evidence" "wrecks" "[Z" ∈ lw_tbl := List.mem_of_getElem? (i := 221) (by decide +kernel)
set_option maxRecDepth 100000 in
theorem lm_519 : Cond.selects RX9 yX9_wreck yX9_wreck ∈ lw_tbl := List.mem_of_getElem? (i := 600) (by decide +kernel)
set_option maxRecDepth 100000 in
theorem lm_520 : Cond.instanceMethod yX9_wreck ∈ lw_tbl := List.mem_of_getElem? (i := 599) (by decide +kernel)
set_option maxRecDepth 100000 in
theorem lm_521 : Cond.methodLink RL 56 yX9_wreck ∈ lw_tbl := List.mem_of_getElem? (i := 598) (by decide +kernel)
set_option maxRecDepth 100000 in
theorem lm_522 : Cond.code yX10_wreck cX10_wreck 4 (some .int) ∈ lw_tbl := List.mem_of_getElem? (i := 1139) rfl
set_option maxRecDepth 100000 in
theorem lm_523 : Cond.selects RX10 yX10_wreck yX10_wreck ∈ lw_tbl := List.mem_of_getElem? (i := 1138) (by decide +kernel)
set_option maxRecDepth 100000 in
theorem lm_524 : Cond.instanceMethod yX10_wreck ∈ lw_tbl := List.mem_of_getElem? (i := 1137) (by decide +kernel)
set_option maxRecDepth 100000 in
theorem lm_525 : Cond.methodLink RL 60 yX10_wreck ∈ lw_tbl := List.mem_of_getElem? (i := 1136) (by decide +kernel)
set_option maxRecDepth 100000 in
theorem lm_526 : Cond.code yX9_ground cX9_ground 5 (some .int) ∈ lw_tbl := List.mem_of_getElem? (i := 605) rfl
set_option maxRecDepth 100000 in
theorem lm_527 : Cond.fieldLink RX9 158 "MissingHoles$Evidence" "downs" "[I" ∈ lw_tbl := List.mem_of_getElem? (i := 225) (by decide +kernel)
set_option maxRecDepth 100000 in
theorem lm_528 : Cond.fieldLink RX9 155 "MissingHoles$Evidence" "shots" "[I" ∈ lw_tbl := List.mem_of_getElem? (i := 223) (by decide +kernel)
set_option maxRecDepth 100000 in
theorem lm_529 : Cond.selects RX9 yX9_ground yX9_ground ∈ lw_tbl := List.mem_of_getElem? (i := 604) (by decide +kernel)
set_option maxRecDepth 100000 in
theorem lm_530 : Cond.instanceMethod yX9_ground ∈ lw_tbl := List.mem_of_getElem? (i := 603) (by decide +kernel)
set_option maxRecDepth 100000 in
theorem lm_531 : Cond.methodLink RL 61 yX9_ground ∈ lw_tbl := List.mem_of_getElem? (i := 602) (by decide +kernel)
set_option maxRecDepth 100000 in
theorem lm_532 : Cond.code yX10_ground cX10_ground 5 (some .int) ∈ lw_tbl := List.mem_of_getElem? (i := 1143) rfl
set_option maxRecDepth 100000 in
theorem lm_533 : Cond.constantLong RX10 174 (20) ∈ lw_tbl := List.mem_of_getElem? (i := 1144) (by decide +kernel)
set_option maxRecDepth 100000 in
theorem lm_534 : Cond.selects RX10 yX10_ground yX10_ground ∈ lw_tbl := List.mem_of_getElem? (i := 1142) (by decide +kernel)
set_option maxRecDepth 100000 in
theorem lm_535 : Cond.instanceMethod yX10_ground ∈ lw_tbl := List.mem_of_getElem? (i := 1141) (by decide +kernel)
set_option maxRecDepth 100000 in
theorem lm_536 : Cond.methodLink RL 64 yX10_ground ∈ lw_tbl := List.mem_of_getElem? (i := 1140) (by decide +kernel)
set_option maxRecDepth 100000 in
theorem lm_537 : Cond.code yX9_known cX9_known 2 (some .int) ∈ lw_tbl := List.mem_of_getElem? (i := 609) rfl
set_option maxRecDepth 100000 in
theorem lm_538 : Cond.code yX3_withHoles cX3_withHoles 2 (some .int) ∈ lw_tbl := List.mem_of_getElem? (i := 617) rfl
set_option maxRecDepth 100000 in
theorem lm_539 : Cond.selects RX3 yX3_withHoles yX3_withHoles ∈ lw_tbl := List.mem_of_getElem? (i := 616) (by decide +kernel)
set_option maxRecDepth 100000 in
theorem lm_540 : Cond.instanceMethod yX3_withHoles ∈ lw_tbl := List.mem_of_getElem? (i := 615) (by decide +kernel)
set_option maxRecDepth 100000 in
theorem lm_541 : Cond.methodLink RX3 18 yX3_withHoles ∈ lw_tbl := List.mem_of_getElem? (i := 614) (by decide +kernel)
set_option maxRecDepth 100000 in
theorem lm_542 : Cond.code yX3_allHomes cX3_allHomes 1 (some .int) ∈ lw_tbl := List.mem_of_getElem? (i := 613) rfl
set_option maxRecDepth 100000 in
theorem lm_543 : Cond.selects RX3 yX3_allHomes yX3_allHomes ∈ lw_tbl := List.mem_of_getElem? (i := 612) (by decide +kernel)
set_option maxRecDepth 100000 in
theorem lm_544 : Cond.instanceMethod yX3_allHomes ∈ lw_tbl := List.mem_of_getElem? (i := 611) (by decide +kernel)
set_option maxRecDepth 100000 in
theorem lm_545 : Cond.methodLink RX9 161 yX3_allHomes ∈ lw_tbl := List.mem_of_getElem? (i := 610) (by decide +kernel)
set_option maxRecDepth 100000 in
theorem lm_546 : Cond.fieldLink RX9 164 "MissingHoles$Homes" "sums" "[I" ∈ lw_tbl := List.mem_of_getElem? (i := 200) (by decide +kernel)
set_option maxRecDepth 100000 in
theorem lm_547 : Cond.selects RX9 yX9_known yX9_known ∈ lw_tbl := List.mem_of_getElem? (i := 608) (by decide +kernel)
set_option maxRecDepth 100000 in
theorem lm_548 : Cond.instanceMethod yX9_known ∈ lw_tbl := List.mem_of_getElem? (i := 607) (by decide +kernel)
set_option maxRecDepth 100000 in
theorem lm_549 : Cond.methodLink RL 65 yX9_known ∈ lw_tbl := List.mem_of_getElem? (i := 606) (by decide +kernel)
set_option maxRecDepth 100000 in
theorem lm_550 : Cond.code yX10_known cX10_known 2 (some .int) ∈ lw_tbl := List.mem_of_getElem? (i := 1148) rfl
set_option maxRecDepth 100000 in
theorem lm_551 : Cond.code yX10_homes cX10_homes 1 (some .int) ∈ lw_tbl := List.mem_of_getElem? (i := 1153) rfl
set_option maxRecDepth 100000 in
theorem lm_552 : Cond.selects RX10 yX10_homes yX10_homes ∈ lw_tbl := List.mem_of_getElem? (i := 38) (by decide +kernel)
set_option maxRecDepth 100000 in
theorem lm_553 : Cond.instanceMethod yX10_homes ∈ lw_tbl := List.mem_of_getElem? (i := 1152) (by decide +kernel)
set_option maxRecDepth 100000 in
theorem lm_554 : Cond.methodLink RX10 178 yX10_homes ∈ lw_tbl := List.mem_of_getElem? (i := 1150) (by decide +kernel)
set_option maxRecDepth 100000 in
theorem lm_555 : Cond.constantLong RX10 176 (8) ∈ lw_tbl := List.mem_of_getElem? (i := 1149) (by decide +kernel)
set_option maxRecDepth 100000 in
theorem lm_556 : Cond.selects RX10 yX10_known yX10_known ∈ lw_tbl := List.mem_of_getElem? (i := 1147) (by decide +kernel)
set_option maxRecDepth 100000 in
theorem lm_557 : Cond.instanceMethod yX10_known ∈ lw_tbl := List.mem_of_getElem? (i := 1146) (by decide +kernel)
set_option maxRecDepth 100000 in
theorem lm_558 : Cond.methodLink RL 68 yX10_known ∈ lw_tbl := List.mem_of_getElem? (i := 1145) (by decide +kernel)
set_option maxRecDepth 100000 in
theorem lm_559 : Cond.code yX9_undo cX9_undo 1 (some .int) ∈ lw_tbl := List.mem_of_getElem? (i := 621) rfl
set_option maxRecDepth 100000 in
theorem lm_560 : Cond.code yX3_takeBack cX3_takeBack 2 none ∈ lw_tbl := List.mem_of_getElem? (i := 625) rfl
set_option maxRecDepth 100000 in
theorem lm_561 : Cond.selects RX3 yX3_takeBack yX3_takeBack ∈ lw_tbl := List.mem_of_getElem? (i := 624) (by decide +kernel)
set_option maxRecDepth 100000 in
theorem lm_562 : Cond.instanceMethod yX3_takeBack ∈ lw_tbl := List.mem_of_getElem? (i := 623) (by decide +kernel)
set_option maxRecDepth 100000 in
theorem lm_563 : Cond.methodLink RX9 170 yX3_takeBack ∈ lw_tbl := List.mem_of_getElem? (i := 622) (by decide +kernel)
set_option maxRecDepth 100000 in
theorem lm_564 : Cond.fieldLink RX9 167 "MissingHoles$Homes" "acts" "I" ∈ lw_tbl := List.mem_of_getElem? (i := 204) (by decide +kernel)
set_option maxRecDepth 100000 in
theorem lm_565 : Cond.selects RX9 yX9_undo yX9_undo ∈ lw_tbl := List.mem_of_getElem? (i := 620) (by decide +kernel)
set_option maxRecDepth 100000 in
theorem lm_566 : Cond.instanceMethod yX9_undo ∈ lw_tbl := List.mem_of_getElem? (i := 619) (by decide +kernel)
set_option maxRecDepth 100000 in
theorem lm_567 : Cond.methodLink RL 69 yX9_undo ∈ lw_tbl := List.mem_of_getElem? (i := 618) (by decide +kernel)
set_option maxRecDepth 100000 in
theorem lm_568 : Cond.code yX10_undo cX10_undo 2 (some .int) ∈ lw_tbl := List.mem_of_getElem? (i := 1157) rfl
set_option maxRecDepth 100000 in
theorem lm_569 : Cond.selects RX10 yX10_undo yX10_undo ∈ lw_tbl := List.mem_of_getElem? (i := 1156) (by decide +kernel)
set_option maxRecDepth 100000 in
theorem lm_570 : Cond.instanceMethod yX10_undo ∈ lw_tbl := List.mem_of_getElem? (i := 1155) (by decide +kernel)
set_option maxRecDepth 100000 in
theorem lm_571 : Cond.methodLink RL 72 yX10_undo ∈ lw_tbl := List.mem_of_getElem? (i := 1154) (by decide +kernel)
set_option maxRecDepth 100000 in
theorem lm_572 : Cond.code yX9_share cX9_share 4 (some .long) ∈ lw_tbl := List.mem_of_getElem? (i := 629) rfl
set_option maxRecDepth 100000 in
theorem lm_573 : Cond.instanceMethod yX8_homesTop ∈ lw_tbl := List.mem_of_getElem? (i := 649) (by decide +kernel)
set_option maxRecDepth 100000 in
theorem lm_574 : Cond.methodLink RX9 185 yX8_homesTop ∈ lw_tbl := List.mem_of_getElem? (i := 648) (by decide +kernel)
set_option maxRecDepth 100000 in
theorem lm_575 : Cond.code yX8_partStand cX8_partStand 3 (some .int) ∈ lw_tbl := List.mem_of_getElem? (i := 647) rfl
set_option maxRecDepth 100000 in
theorem lm_576 : Cond.selects RX8 yX8_partStand yX8_partStand ∈ lw_tbl := List.mem_of_getElem? (i := 646) (by decide +kernel)
set_option maxRecDepth 100000 in
theorem lm_577 : Cond.instanceMethod yX8_partStand ∈ lw_tbl := List.mem_of_getElem? (i := 645) (by decide +kernel)
set_option maxRecDepth 100000 in
theorem lm_578 : Cond.methodLink RX8 52 yX8_partStand ∈ lw_tbl := List.mem_of_getElem? (i := 644) (by decide +kernel)
set_option maxRecDepth 100000 in
theorem lm_579 : Cond.code yX9_figure cX9_figure 2 (some .int) ∈ lw_tbl := List.mem_of_getElem? (i := 643) rfl
set_option maxRecDepth 100000 in
theorem lm_580 : Cond.static yX9_figure ∈ lw_tbl := List.mem_of_getElem? (i := 642) (by decide +kernel)
set_option maxRecDepth 100000 in
theorem lm_581 : Cond.code yX8_stand cX8_stand 4 (some .int) ∈ lw_tbl := List.mem_of_getElem? (i := 640) rfl
set_option maxRecDepth 100000 in
theorem lm_582 : Cond.selects RX8 yX8_stand yX8_stand ∈ lw_tbl := List.mem_of_getElem? (i := 639) (by decide +kernel)
set_option maxRecDepth 100000 in
theorem lm_583 : Cond.instanceMethod yX8_stand ∈ lw_tbl := List.mem_of_getElem? (i := 638) (by decide +kernel)
set_option maxRecDepth 100000 in
theorem lm_584 : Cond.methodLink RX9 181 yX8_stand ∈ lw_tbl := List.mem_of_getElem? (i := 637) (by decide +kernel)
set_option maxRecDepth 100000 in
theorem lm_585 : Cond.code yX9_isSide cX9_isSide 1 (some .boolean) ∈ lw_tbl := List.mem_of_getElem? (i := 635) rfl
set_option maxRecDepth 100000 in
theorem lm_586 : Cond.static yX9_isSide ∈ lw_tbl := List.mem_of_getElem? (i := 634) (by decide +kernel)
set_option maxRecDepth 100000 in
theorem lm_587 : Cond.methodLink RX9 176 yX9_isSide ∈ lw_tbl := List.mem_of_getElem? (i := 633) (by decide +kernel)
set_option maxRecDepth 100000 in
theorem lm_588 : Cond.code yX9_isLaw cX9_isLaw 1 (some .boolean) ∈ lw_tbl := List.mem_of_getElem? (i := 632) rfl
set_option maxRecDepth 100000 in
theorem lm_589 : Cond.static yX9_isLaw ∈ lw_tbl := List.mem_of_getElem? (i := 631) (by decide +kernel)
set_option maxRecDepth 100000 in
theorem lm_590 : Cond.methodLink RX9 173 yX9_isLaw ∈ lw_tbl := List.mem_of_getElem? (i := 630) (by decide +kernel)
set_option maxRecDepth 100000 in
theorem lm_591 : Cond.fieldLink RX9 189 "MissingHoles$Terms" "bottom" "J" ∈ lw_tbl := List.mem_of_getElem? (i := 115) (by decide +kernel)
set_option maxRecDepth 100000 in
theorem lm_592 : Cond.constantLong RX9 179 (-1) ∈ lw_tbl := List.mem_of_getElem? (i := 636) (by decide +kernel)
set_option maxRecDepth 100000 in
theorem lm_593 : Cond.code Lib.MathLoose.abs_long.x Lib.MathLoose.abs_long.code 2 (some .long) ∈ lw_tbl := List.mem_of_getElem? (i := 661) rfl
set_option maxRecDepth 100000 in
theorem lm_594 : Cond.static Lib.MathLoose.abs_long.x ∈ lw_tbl := List.mem_of_getElem? (i := 660) (by decide +kernel)
set_option maxRecDepth 100000 in
theorem lm_595 : Cond.methodLink RX9 311 Lib.MathLoose.abs_long.x ∈ lw_tbl := List.mem_of_getElem? (i := 659) (by decide +kernel)
set_option maxRecDepth 100000 in
theorem lm_596 : Cond.code yX9_lowest cX9_lowest 12 (some .long) ∈ lw_tbl := List.mem_of_getElem? (i := 658) rfl
set_option maxRecDepth 100000 in
theorem lm_597 : Cond.static yX9_lowest ∈ lw_tbl := List.mem_of_getElem? (i := 657) (by decide +kernel)
set_option maxRecDepth 100000 in
theorem lm_598 : Cond.methodLink RX9 193 yX9_lowest ∈ lw_tbl := List.mem_of_getElem? (i := 656) (by decide +kernel)
set_option maxRecDepth 100000 in
theorem lm_599 : Cond.code yX8_notOther cX8_notOther 1 (some .long) ∈ lw_tbl := List.mem_of_getElem? (i := 655) rfl
set_option maxRecDepth 100000 in
theorem lm_600 : Cond.selects RX8 yX8_notOther yX8_notOther ∈ lw_tbl := List.mem_of_getElem? (i := 654) (by decide +kernel)
set_option maxRecDepth 100000 in
theorem lm_601 : Cond.instanceMethod yX8_notOther ∈ lw_tbl := List.mem_of_getElem? (i := 653) (by decide +kernel)
set_option maxRecDepth 100000 in
theorem lm_602 : Cond.methodLink RX8 55 yX8_notOther ∈ lw_tbl := List.mem_of_getElem? (i := 652) (by decide +kernel)
set_option maxRecDepth 100000 in
theorem lm_603 : Cond.code yX8_homesTop cX8_homesTop 7 (some .long) ∈ lw_tbl := List.mem_of_getElem? (i := 651) rfl
set_option maxRecDepth 100000 in
theorem lm_604 : Cond.selects RX8 yX8_homesTop yX8_homesTop ∈ lw_tbl := List.mem_of_getElem? (i := 650) (by decide +kernel)
set_option maxRecDepth 100000 in
theorem lm_605 : Cond.selects RX9 yX9_share yX9_share ∈ lw_tbl := List.mem_of_getElem? (i := 628) (by decide +kernel)
set_option maxRecDepth 100000 in
theorem lm_606 : Cond.instanceMethod yX9_share ∈ lw_tbl := List.mem_of_getElem? (i := 627) (by decide +kernel)
set_option maxRecDepth 100000 in
theorem lm_607 : Cond.methodLink RL 73 yX9_share ∈ lw_tbl := List.mem_of_getElem? (i := 626) (by decide +kernel)
set_option maxRecDepth 100000 in
theorem lm_608 : Cond.code yX10_share cX10_share 4 (some .long) ∈ lw_tbl := List.mem_of_getElem? (i := 1161) rfl
set_option maxRecDepth 100000 in
theorem lm_609 : Cond.code yX10_shareUp cX10_shareUp 2 (some .long) ∈ lw_tbl := List.mem_of_getElem? (i := 1175) rfl
set_option maxRecDepth 100000 in
theorem lm_610 : Cond.selects RX10 yX10_shareUp yX10_shareUp ∈ lw_tbl := List.mem_of_getElem? (i := 40) (by decide +kernel)
set_option maxRecDepth 100000 in
theorem lm_611 : Cond.instanceMethod yX10_shareUp ∈ lw_tbl := List.mem_of_getElem? (i := 1174) (by decide +kernel)
set_option maxRecDepth 100000 in
theorem lm_612 : Cond.methodLink RX10 209 yX10_shareUp ∈ lw_tbl := List.mem_of_getElem? (i := 1172) (by decide +kernel)
set_option maxRecDepth 100000 in
theorem lm_613 : Cond.fieldLink RX10 192 "MissingHolesModel" "hits" "J" ∈ lw_tbl := List.mem_of_getElem? (i := 957) (by decide +kernel)
set_option maxRecDepth 100000 in
theorem lm_614 : Cond.constantLong RX10 190 (10) ∈ lw_tbl := List.mem_of_getElem? (i := 1171) (by decide +kernel)
set_option maxRecDepth 100000 in
theorem lm_615 : Cond.fieldLink RX10 187 "MissingHolesModel" "all" "J" ∈ lw_tbl := List.mem_of_getElem? (i := 956) (by decide +kernel)
set_option maxRecDepth 100000 in
theorem lm_616 : Cond.fieldLink RX10 183 "MissingHolesModel" "x" "J" ∈ lw_tbl := List.mem_of_getElem? (i := 955) (by decide +kernel)
set_option maxRecDepth 100000 in
theorem lm_617 : Cond.code yX10_layLaw cX10_layLaw 4 none ∈ lw_tbl := List.mem_of_getElem? (i := 1170) rfl
set_option maxRecDepth 100000 in
theorem lm_618 : Cond.selects RX10 yX10_layLaw yX10_layLaw ∈ lw_tbl := List.mem_of_getElem? (i := 39) (by decide +kernel)
set_option maxRecDepth 100000 in
theorem lm_619 : Cond.instanceMethod yX10_layLaw ∈ lw_tbl := List.mem_of_getElem? (i := 1169) (by decide +kernel)
set_option maxRecDepth 100000 in
theorem lm_620 : Cond.methodLink RX10 206 yX10_layLaw ∈ lw_tbl := List.mem_of_getElem? (i := 1167) (by decide +kernel)
set_option maxRecDepth 100000 in
theorem lm_621 : Cond.constantLong RX10 181 (14640) ∈ lw_tbl := List.mem_of_getElem? (i := 1165) (by decide +kernel)
set_option maxRecDepth 100000 in
theorem lm_622 : Cond.code yX10_isLaw cX10_isLaw 1 (some .boolean) ∈ lw_tbl := List.mem_of_getElem? (i := 1164) rfl
set_option maxRecDepth 100000 in
theorem lm_623 : Cond.static yX10_isLaw ∈ lw_tbl := List.mem_of_getElem? (i := 1163) (by decide +kernel)
set_option maxRecDepth 100000 in
theorem lm_624 : Cond.methodLink RX10 201 yX10_isLaw ∈ lw_tbl := List.mem_of_getElem? (i := 1162) (by decide +kernel)
set_option maxRecDepth 100000 in
theorem lm_625 : Cond.constantLong RX10 204 (-1) ∈ lw_tbl := List.mem_of_getElem? (i := 1166) (by decide +kernel)
set_option maxRecDepth 100000 in
theorem lm_626 : Cond.code yX10_lowest cX10_lowest 11 (some .long) ∈ lw_tbl := List.mem_of_getElem? (i := 1186) rfl
set_option maxRecDepth 100000 in
theorem lm_627 : Cond.static yX10_lowest ∈ lw_tbl := List.mem_of_getElem? (i := 1185) (by decide +kernel)
set_option maxRecDepth 100000 in
theorem lm_628 : Cond.methodLink RX10 217 yX10_lowest ∈ lw_tbl := List.mem_of_getElem? (i := 1184) (by decide +kernel)
set_option maxRecDepth 100000 in
theorem lm_629 : Cond.code yX10_whole cX10_whole 1 (some .long) ∈ lw_tbl := List.mem_of_getElem? (i := 1183) rfl
set_option maxRecDepth 100000 in
theorem lm_630 : Cond.selects RX10 yX10_whole yX10_whole ∈ lw_tbl := List.mem_of_getElem? (i := 41) (by decide +kernel)
set_option maxRecDepth 100000 in
theorem lm_631 : Cond.instanceMethod yX10_whole ∈ lw_tbl := List.mem_of_getElem? (i := 1182) (by decide +kernel)
set_option maxRecDepth 100000 in
theorem lm_632 : Cond.methodLink RX10 213 yX10_whole ∈ lw_tbl := List.mem_of_getElem? (i := 1180) (by decide +kernel)
set_option maxRecDepth 100000 in
theorem lm_633 : Cond.code yX10_power cX10_power 6 (some .long) ∈ lw_tbl := List.mem_of_getElem? (i := 1178) rfl
set_option maxRecDepth 100000 in
theorem lm_634 : Cond.static yX10_power ∈ lw_tbl := List.mem_of_getElem? (i := 1177) (by decide +kernel)
set_option maxRecDepth 100000 in
theorem lm_635 : Cond.methodLink RX10 195 yX10_power ∈ lw_tbl := List.mem_of_getElem? (i := 1176) (by decide +kernel)
set_option maxRecDepth 100000 in
theorem lm_636 : Cond.constantLong RX10 199 (1000) ∈ lw_tbl := List.mem_of_getElem? (i := 1179) (by decide +kernel)
set_option maxRecDepth 100000 in
theorem lm_637 : Cond.selects RX10 yX10_share yX10_share ∈ lw_tbl := List.mem_of_getElem? (i := 1160) (by decide +kernel)
set_option maxRecDepth 100000 in
theorem lm_638 : Cond.instanceMethod yX10_share ∈ lw_tbl := List.mem_of_getElem? (i := 1159) (by decide +kernel)
set_option maxRecDepth 100000 in
theorem lm_639 : Cond.methodLink RL 77 yX10_share ∈ lw_tbl := List.mem_of_getElem? (i := 1158) (by decide +kernel)
set_option maxRecDepth 100000 in
theorem lm_640 : Cond.code yX9_holes cX9_holes 6 (some .long) ∈ lw_tbl := List.mem_of_getElem? (i := 665) rfl
set_option maxRecDepth 100000 in
theorem lm_641 : Cond.methodLink RX9 201 yX8_partStand ∈ lw_tbl := List.mem_of_getElem? (i := 667) (by decide +kernel)
set_option maxRecDepth 100000 in
theorem lm_642 : Cond.methodLink RX9 197 yX9_figure ∈ lw_tbl := List.mem_of_getElem? (i := 666) (by decide +kernel)
set_option maxRecDepth 100000 in
theorem lm_643 : Cond.code yX8_holeRate cX8_holeRate 3 (some .long) ∈ lw_tbl := List.mem_of_getElem? (i := 671) rfl
set_option maxRecDepth 100000 in
theorem lm_644 : Cond.selects RX8 yX8_holeRate yX8_holeRate ∈ lw_tbl := List.mem_of_getElem? (i := 670) (by decide +kernel)
set_option maxRecDepth 100000 in
theorem lm_645 : Cond.instanceMethod yX8_holeRate ∈ lw_tbl := List.mem_of_getElem? (i := 669) (by decide +kernel)
set_option maxRecDepth 100000 in
theorem lm_646 : Cond.methodLink RX9 204 yX8_holeRate ∈ lw_tbl := List.mem_of_getElem? (i := 668) (by decide +kernel)
set_option maxRecDepth 100000 in
theorem lm_647 : Cond.selects RX9 yX9_holes yX9_holes ∈ lw_tbl := List.mem_of_getElem? (i := 664) (by decide +kernel)
set_option maxRecDepth 100000 in
theorem lm_648 : Cond.instanceMethod yX9_holes ∈ lw_tbl := List.mem_of_getElem? (i := 663) (by decide +kernel)
set_option maxRecDepth 100000 in
theorem lm_649 : Cond.methodLink RL 78 yX9_holes ∈ lw_tbl := List.mem_of_getElem? (i := 662) (by decide +kernel)
set_option maxRecDepth 100000 in
theorem lm_650 : Cond.code yX10_holes cX10_holes 4 (some .long) ∈ lw_tbl := List.mem_of_getElem? (i := 1190) rfl
set_option maxRecDepth 100000 in
theorem lm_651 : Cond.methodLink RX10 221 yX10_holesUp ∈ lw_tbl := List.mem_of_getElem? (i := 1191) (by decide +kernel)
set_option maxRecDepth 100000 in
theorem lm_652 : Cond.code yX10_holesUp cX10_holesUp 5 (some .long) ∈ lw_tbl := List.mem_of_getElem? (i := 1194) rfl
set_option maxRecDepth 100000 in
theorem lm_653 : Cond.selects RX10 yX10_holesUp yX10_holesUp ∈ lw_tbl := List.mem_of_getElem? (i := 42) (by decide +kernel)
set_option maxRecDepth 100000 in
theorem lm_654 : Cond.instanceMethod yX10_holesUp ∈ lw_tbl := List.mem_of_getElem? (i := 1193) (by decide +kernel)
set_option maxRecDepth 100000 in
theorem lm_655 : Cond.selects RX10 yX10_holes yX10_holes ∈ lw_tbl := List.mem_of_getElem? (i := 1189) (by decide +kernel)
set_option maxRecDepth 100000 in
theorem lm_656 : Cond.instanceMethod yX10_holes ∈ lw_tbl := List.mem_of_getElem? (i := 1188) (by decide +kernel)
set_option maxRecDepth 100000 in
theorem lm_657 : Cond.methodLink RL 81 yX10_holes ∈ lw_tbl := List.mem_of_getElem? (i := 1187) (by decide +kernel)
set_option maxRecDepth 100000 in
theorem lm_658 : Cond.code yX9_fits cX9_fits 2 (some .int) ∈ lw_tbl := List.mem_of_getElem? (i := 675) rfl
set_option maxRecDepth 100000 in
theorem lm_659 : Cond.code yX0_allows cX0_allows 3 (some .boolean) ∈ lw_tbl := List.mem_of_getElem? (i := 684) rfl
set_option maxRecDepth 100000 in
theorem lm_660 : Cond.selects RX0 yX0_allows yX0_allows ∈ lw_tbl := List.mem_of_getElem? (i := 683) (by decide +kernel)
set_option maxRecDepth 100000 in
theorem lm_661 : Cond.instanceMethod yX0_allows ∈ lw_tbl := List.mem_of_getElem? (i := 682) (by decide +kernel)
set_option maxRecDepth 100000 in
theorem lm_662 : Cond.methodLink RX2 52 yX0_allows ∈ lw_tbl := List.mem_of_getElem? (i := 681) (by decide +kernel)
set_option maxRecDepth 100000 in
theorem lm_663 : Cond.code yX2_lawFits cX2_lawFits 7 (some .boolean) ∈ lw_tbl := List.mem_of_getElem? (i := 679) rfl
set_option maxRecDepth 100000 in
theorem lm_664 : Cond.selects RX2 yX2_lawFits yX2_lawFits ∈ lw_tbl := List.mem_of_getElem? (i := 678) (by decide +kernel)
set_option maxRecDepth 100000 in
theorem lm_665 : Cond.instanceMethod yX2_lawFits ∈ lw_tbl := List.mem_of_getElem? (i := 677) (by decide +kernel)
set_option maxRecDepth 100000 in
theorem lm_666 : Cond.methodLink RX9 208 yX2_lawFits ∈ lw_tbl := List.mem_of_getElem? (i := 676) (by decide +kernel)
set_option maxRecDepth 100000 in
theorem lm_667 : Cond.methodLink RX2 139 Lib.MathLoose.abs_long.x ∈ lw_tbl := List.mem_of_getElem? (i := 699) (by decide +kernel)
set_option maxRecDepth 100000 in
theorem lm_668 : Cond.fieldLink RX2 135 "MissingHoles$Terms" "bottom" "J" ∈ lw_tbl := List.mem_of_getElem? (i := 114) (by decide +kernel)
set_option maxRecDepth 100000 in
theorem lm_669 : Cond.code yX2_homesAreNear cX2_homesAreNear 6 (some .boolean) ∈ lw_tbl := List.mem_of_getElem? (i := 695) rfl
set_option maxRecDepth 100000 in
theorem lm_670 : Cond.selects RX2 yX2_homesAreNear yX2_homesAreNear ∈ lw_tbl := List.mem_of_getElem? (i := 14) (by decide +kernel)
set_option maxRecDepth 100000 in
theorem lm_671 : Cond.instanceMethod yX2_homesAreNear ∈ lw_tbl := List.mem_of_getElem? (i := 694) (by decide +kernel)
set_option maxRecDepth 100000 in
theorem lm_672 : Cond.methodLink RX2 64 yX2_homesAreNear ∈ lw_tbl := List.mem_of_getElem? (i := 692) (by decide +kernel)
set_option maxRecDepth 100000 in
theorem lm_673 : Cond.methodLink RX2 58 yX8_stand ∈ lw_tbl := List.mem_of_getElem? (i := 691) (by decide +kernel)
set_option maxRecDepth 100000 in
theorem lm_674 : Cond.code Lib.Math.abs.name Lib.Math.abs.code 1 (some .int) ∈ lw_tbl := List.mem_of_getElem? (i := 690) rfl
set_option maxRecDepth 100000 in
theorem lm_675 : Cond.static Lib.Math.abs.name ∈ lw_tbl := List.mem_of_getElem? (i := 689) (by decide +kernel)
set_option maxRecDepth 100000 in
theorem lm_676 : Cond.methodLink RX9 308 Lib.Math.abs.name ∈ lw_tbl := List.mem_of_getElem? (i := 688) (by decide +kernel)
set_option maxRecDepth 100000 in
theorem lm_677 : Cond.code yX9_isNearTrial cX9_isNearTrial 3 (some .boolean) ∈ lw_tbl := List.mem_of_getElem? (i := 687) rfl
set_option maxRecDepth 100000 in
theorem lm_678 : Cond.static yX9_isNearTrial ∈ lw_tbl := List.mem_of_getElem? (i := 686) (by decide +kernel)
set_option maxRecDepth 100000 in
theorem lm_679 : Cond.methodLink RX2 67 yX8_holeRate ∈ lw_tbl := List.mem_of_getElem? (i := 700) (by decide +kernel)
set_option maxRecDepth 100000 in
theorem lm_680 : Cond.methodLink RX2 132 yX3_withHoles ∈ lw_tbl := List.mem_of_getElem? (i := 698) (by decide +kernel)
set_option maxRecDepth 100000 in
theorem lm_681 : Cond.methodLink RX2 128 yX8_homesTop ∈ lw_tbl := List.mem_of_getElem? (i := 697) (by decide +kernel)
set_option maxRecDepth 100000 in
theorem lm_682 : Cond.methodLink RX2 122 yX3_sorties ∈ lw_tbl := List.mem_of_getElem? (i := 696) (by decide +kernel)
set_option maxRecDepth 100000 in
theorem lm_683 : Cond.code yX3_inPart cX3_inPart 2 (some .int) ∈ lw_tbl := List.mem_of_getElem? (i := 709) rfl
set_option maxRecDepth 100000 in
theorem lm_684 : Cond.selects RX3 yX3_inPart yX3_inPart ∈ lw_tbl := List.mem_of_getElem? (i := 708) (by decide +kernel)
set_option maxRecDepth 100000 in
theorem lm_685 : Cond.instanceMethod yX3_inPart ∈ lw_tbl := List.mem_of_getElem? (i := 707) (by decide +kernel)
set_option maxRecDepth 100000 in
theorem lm_686 : Cond.methodLink RX2 145 yX3_inPart ∈ lw_tbl := List.mem_of_getElem? (i := 706) (by decide +kernel)
set_option maxRecDepth 100000 in
theorem lm_687 : Cond.methodLink RX2 142 yX8_partStand ∈ lw_tbl := List.mem_of_getElem? (i := 705) (by decide +kernel)
set_option maxRecDepth 100000 in
theorem lm_688 : Cond.code yX2_holesAreNear cX2_holesAreNear 8 (some .boolean) ∈ lw_tbl := List.mem_of_getElem? (i := 704) rfl
set_option maxRecDepth 100000 in
theorem lm_689 : Cond.selects RX2 yX2_holesAreNear yX2_holesAreNear ∈ lw_tbl := List.mem_of_getElem? (i := 15) (by decide +kernel)
set_option maxRecDepth 100000 in
theorem lm_690 : Cond.instanceMethod yX2_holesAreNear ∈ lw_tbl := List.mem_of_getElem? (i := 703) (by decide +kernel)
set_option maxRecDepth 100000 in
theorem lm_691 : Cond.methodLink RX2 71 yX2_holesAreNear ∈ lw_tbl := List.mem_of_getElem? (i := 701) (by decide +kernel)
set_option maxRecDepth 100000 in
theorem lm_692 : Cond.selects RX9 yX9_fits yX9_fits ∈ lw_tbl := List.mem_of_getElem? (i := 674) (by decide +kernel)
set_option maxRecDepth 100000 in
theorem lm_693 : Cond.instanceMethod yX9_fits ∈ lw_tbl := List.mem_of_getElem? (i := 673) (by decide +kernel)
set_option maxRecDepth 100000 in
theorem lm_694 : Cond.methodLink RL 82 yX9_fits ∈ lw_tbl := List.mem_of_getElem? (i := 672) (by decide +kernel)
set_option maxRecDepth 100000 in
theorem lm_695 : Cond.code yX10_fits cX10_fits 2 (some .int) ∈ lw_tbl := List.mem_of_getElem? (i := 1198) rfl
set_option maxRecDepth 100000 in
theorem lm_696 : Cond.code yX10_layGood cX10_layGood 2 none ∈ lw_tbl := List.mem_of_getElem? (i := 1202) rfl
set_option maxRecDepth 100000 in
theorem lm_697 : Cond.selects RX10 yX10_layGood yX10_layGood ∈ lw_tbl := List.mem_of_getElem? (i := 43) (by decide +kernel)
set_option maxRecDepth 100000 in
theorem lm_698 : Cond.instanceMethod yX10_layGood ∈ lw_tbl := List.mem_of_getElem? (i := 1201) (by decide +kernel)
set_option maxRecDepth 100000 in
theorem lm_699 : Cond.methodLink RX10 239 yX10_layGood ∈ lw_tbl := List.mem_of_getElem? (i := 1199) (by decide +kernel)
set_option maxRecDepth 100000 in
theorem lm_700 : Cond.code yX10_farthest cX10_farthest 6 (some .long) ∈ lw_tbl := List.mem_of_getElem? (i := 1217) rfl
set_option maxRecDepth 100000 in
theorem lm_701 : Cond.selects RX10 yX10_farthest yX10_farthest ∈ lw_tbl := List.mem_of_getElem? (i := 46) (by decide +kernel)
set_option maxRecDepth 100000 in
theorem lm_702 : Cond.instanceMethod yX10_farthest ∈ lw_tbl := List.mem_of_getElem? (i := 1216) (by decide +kernel)
set_option maxRecDepth 100000 in
theorem lm_703 : Cond.methodLink RX10 236 yX10_farthest ∈ lw_tbl := List.mem_of_getElem? (i := 1214) (by decide +kernel)
set_option maxRecDepth 100000 in
theorem lm_704 : Cond.code yX10_size cX10_size 2 (some .long) ∈ lw_tbl := List.mem_of_getElem? (i := 1213) rfl
set_option maxRecDepth 100000 in
theorem lm_705 : Cond.static yX10_size ∈ lw_tbl := List.mem_of_getElem? (i := 1212) (by decide +kernel)
set_option maxRecDepth 100000 in
theorem lm_706 : Cond.methodLink RX10 224 yX10_size ∈ lw_tbl := List.mem_of_getElem? (i := 1211) (by decide +kernel)
set_option maxRecDepth 100000 in
theorem lm_707 : Cond.code yX10_isNear cX10_isNear 4 (some .boolean) ∈ lw_tbl := List.mem_of_getElem? (i := 1210) rfl
set_option maxRecDepth 100000 in
theorem lm_708 : Cond.selects RX10 yX10_isNear yX10_isNear ∈ lw_tbl := List.mem_of_getElem? (i := 45) (by decide +kernel)
set_option maxRecDepth 100000 in
theorem lm_709 : Cond.instanceMethod yX10_isNear ∈ lw_tbl := List.mem_of_getElem? (i := 1209) (by decide +kernel)
set_option maxRecDepth 100000 in
theorem lm_710 : Cond.methodLink RX10 228 yX10_isNear ∈ lw_tbl := List.mem_of_getElem? (i := 1207) (by decide +kernel)
set_option maxRecDepth 100000 in
theorem lm_711 : Cond.code yX10_isSeen cX10_isSeen 3 (some .boolean) ∈ lw_tbl := List.mem_of_getElem? (i := 1206) rfl
set_option maxRecDepth 100000 in
theorem lm_712 : Cond.selects RX10 yX10_isSeen yX10_isSeen ∈ lw_tbl := List.mem_of_getElem? (i := 44) (by decide +kernel)
set_option maxRecDepth 100000 in
theorem lm_713 : Cond.instanceMethod yX10_isSeen ∈ lw_tbl := List.mem_of_getElem? (i := 1205) (by decide +kernel)
set_option maxRecDepth 100000 in
theorem lm_714 : Cond.methodLink RX10 232 yX10_isSeen ∈ lw_tbl := List.mem_of_getElem? (i := 1203) (by decide +kernel)
set_option maxRecDepth 100000 in
theorem lm_715 : Cond.selects RX10 yX10_fits yX10_fits ∈ lw_tbl := List.mem_of_getElem? (i := 1197) (by decide +kernel)
set_option maxRecDepth 100000 in
theorem lm_716 : Cond.instanceMethod yX10_fits ∈ lw_tbl := List.mem_of_getElem? (i := 1196) (by decide +kernel)
set_option maxRecDepth 100000 in
theorem lm_717 : Cond.methodLink RL 85 yX10_fits ∈ lw_tbl := List.mem_of_getElem? (i := 1195) (by decide +kernel)
set_option maxRecDepth 100000 in
theorem lm_718 : Cond.code yX9_laws cX9_laws 3 (some .int) ∈ lw_tbl := List.mem_of_getElem? (i := 713) rfl
set_option maxRecDepth 100000 in
theorem lm_719 : Cond.constantLong RX2 154 (-1) ∈ lw_tbl := List.mem_of_getElem? (i := 722) (by decide +kernel)
set_option maxRecDepth 100000 in
theorem lm_720 : Cond.fieldLink RX2 151 "MissingHoles$Terms" "scale" "J" ∈ lw_tbl := List.mem_of_getElem? (i := 112) (by decide +kernel)
set_option maxRecDepth 100000 in
theorem lm_721 : Cond.fieldLink RX2 148 "MissingHoles$Terms" "rules" "[I" ∈ lw_tbl := List.mem_of_getElem? (i := 105) (by decide +kernel)
set_option maxRecDepth 100000 in
theorem lm_722 : Cond.code yX2_settleStands cX2_settleStands 3 none ∈ lw_tbl := List.mem_of_getElem? (i := 721) rfl
set_option maxRecDepth 100000 in
theorem lm_723 : Cond.selects RX2 yX2_settleStands yX2_settleStands ∈ lw_tbl := List.mem_of_getElem? (i := 16) (by decide +kernel)
set_option maxRecDepth 100000 in
theorem lm_724 : Cond.instanceMethod yX2_settleStands ∈ lw_tbl := List.mem_of_getElem? (i := 720) (by decide +kernel)
set_option maxRecDepth 100000 in
theorem lm_725 : Cond.methodLink RX2 75 yX2_settleStands ∈ lw_tbl := List.mem_of_getElem? (i := 718) (by decide +kernel)
set_option maxRecDepth 100000 in
theorem lm_726 : Cond.fieldLink RX2 81 "MissingHoles$Grid" "size" "I" ∈ lw_tbl := List.mem_of_getElem? (i := 246) (by decide +kernel)
set_option maxRecDepth 100000 in
theorem lm_727 : Cond.code yX2_fitting cX2_fitting 1 (some .int) ∈ lw_tbl := List.mem_of_getElem? (i := 717) rfl
set_option maxRecDepth 100000 in
theorem lm_728 : Cond.selects RX2 yX2_fitting yX2_fitting ∈ lw_tbl := List.mem_of_getElem? (i := 716) (by decide +kernel)
set_option maxRecDepth 100000 in
theorem lm_729 : Cond.instanceMethod yX2_fitting ∈ lw_tbl := List.mem_of_getElem? (i := 715) (by decide +kernel)
set_option maxRecDepth 100000 in
theorem lm_730 : Cond.methodLink RX9 212 yX2_fitting ∈ lw_tbl := List.mem_of_getElem? (i := 714) (by decide +kernel)
set_option maxRecDepth 100000 in
theorem lm_731 : Cond.fieldLink RX9 218 "MissingHoles$Grid" "greatest" "I" ∈ lw_tbl := List.mem_of_getElem? (i := 250) (by decide +kernel)
set_option maxRecDepth 100000 in
theorem lm_732 : Cond.fieldLink RX9 215 "MissingHoles$Grid" "least" "I" ∈ lw_tbl := List.mem_of_getElem? (i := 248) (by decide +kernel)
set_option maxRecDepth 100000 in
theorem lm_733 : Cond.fieldLink RX2 94 "MissingHoles$Grid" "greatest" "I" ∈ lw_tbl := List.mem_of_getElem? (i := 249) (by decide +kernel)
set_option maxRecDepth 100000 in
theorem lm_734 : Cond.fieldLink RX2 91 "MissingHoles$Grid" "least" "I" ∈ lw_tbl := List.mem_of_getElem? (i := 247) (by decide +kernel)
set_option maxRecDepth 100000 in
theorem lm_735 : Cond.code yX2_keepNone cX2_keepNone 2 none ∈ lw_tbl := List.mem_of_getElem? (i := 730) rfl
set_option maxRecDepth 100000 in
theorem lm_736 : Cond.selects RX2 yX2_keepNone yX2_keepNone ∈ lw_tbl := List.mem_of_getElem? (i := 18) (by decide +kernel)
set_option maxRecDepth 100000 in
theorem lm_737 : Cond.instanceMethod yX2_keepNone ∈ lw_tbl := List.mem_of_getElem? (i := 729) (by decide +kernel)
set_option maxRecDepth 100000 in
theorem lm_738 : Cond.methodLink RX2 156 yX2_keepNone ∈ lw_tbl := List.mem_of_getElem? (i := 727) (by decide +kernel)
set_option maxRecDepth 100000 in
theorem lm_739 : Cond.code yX2_gather cX2_gather 3 none ∈ lw_tbl := List.mem_of_getElem? (i := 726) rfl
set_option maxRecDepth 100000 in
theorem lm_740 : Cond.selects RX2 yX2_gather yX2_gather ∈ lw_tbl := List.mem_of_getElem? (i := 17) (by decide +kernel)
set_option maxRecDepth 100000 in
theorem lm_741 : Cond.instanceMethod yX2_gather ∈ lw_tbl := List.mem_of_getElem? (i := 725) (by decide +kernel)
set_option maxRecDepth 100000 in
theorem lm_742 : Cond.methodLink RX2 78 yX2_gather ∈ lw_tbl := List.mem_of_getElem? (i := 723) (by decide +kernel)
set_option maxRecDepth 100000 in
theorem lm_743 : Cond.code yX2_allHolesAreNear cX2_allHolesAreNear 8 (some .boolean) ∈ lw_tbl := List.mem_of_getElem? (i := 738) rfl
set_option maxRecDepth 100000 in
theorem lm_744 : Cond.selects RX2 yX2_allHolesAreNear yX2_allHolesAreNear ∈ lw_tbl := List.mem_of_getElem? (i := 20) (by decide +kernel)
set_option maxRecDepth 100000 in
theorem lm_745 : Cond.instanceMethod yX2_allHolesAreNear ∈ lw_tbl := List.mem_of_getElem? (i := 737) (by decide +kernel)
set_option maxRecDepth 100000 in
theorem lm_746 : Cond.methodLink RX2 163 yX2_allHolesAreNear ∈ lw_tbl := List.mem_of_getElem? (i := 735) (by decide +kernel)
set_option maxRecDepth 100000 in
theorem lm_747 : Cond.code yX2_gatherWith cX2_gatherWith 7 none ∈ lw_tbl := List.mem_of_getElem? (i := 734) rfl
set_option maxRecDepth 100000 in
theorem lm_748 : Cond.selects RX2 yX2_gatherWith yX2_gatherWith ∈ lw_tbl := List.mem_of_getElem? (i := 19) (by decide +kernel)
set_option maxRecDepth 100000 in
theorem lm_749 : Cond.instanceMethod yX2_gatherWith ∈ lw_tbl := List.mem_of_getElem? (i := 733) (by decide +kernel)
set_option maxRecDepth 100000 in
theorem lm_750 : Cond.methodLink RX2 159 yX2_gatherWith ∈ lw_tbl := List.mem_of_getElem? (i := 731) (by decide +kernel)
set_option maxRecDepth 100000 in
theorem lm_751 : Cond.code yX2_keep cX2_keep 7 none ∈ lw_tbl := List.mem_of_getElem? (i := 742) rfl
set_option maxRecDepth 100000 in
theorem lm_752 : Cond.selects RX2 yX2_keep yX2_keep ∈ lw_tbl := List.mem_of_getElem? (i := 21) (by decide +kernel)
set_option maxRecDepth 100000 in
theorem lm_753 : Cond.instanceMethod yX2_keep ∈ lw_tbl := List.mem_of_getElem? (i := 741) (by decide +kernel)
set_option maxRecDepth 100000 in
theorem lm_754 : Cond.methodLink RX2 167 yX2_keep ∈ lw_tbl := List.mem_of_getElem? (i := 739) (by decide +kernel)
set_option maxRecDepth 100000 in
theorem lm_755 : Cond.selects RX9 yX9_laws yX9_laws ∈ lw_tbl := List.mem_of_getElem? (i := 712) (by decide +kernel)
set_option maxRecDepth 100000 in
theorem lm_756 : Cond.instanceMethod yX9_laws ∈ lw_tbl := List.mem_of_getElem? (i := 711) (by decide +kernel)
set_option maxRecDepth 100000 in
theorem lm_757 : Cond.methodLink RL 86 yX9_laws ∈ lw_tbl := List.mem_of_getElem? (i := 710) (by decide +kernel)
set_option maxRecDepth 100000 in
theorem lm_758 : Cond.code yX10_laws cX10_laws 5 (some .int) ∈ lw_tbl := List.mem_of_getElem? (i := 1221) rfl
set_option maxRecDepth 100000 in
theorem lm_759 : Cond.code yX10_firstFrom cX10_firstFrom 3 (some .int) ∈ lw_tbl := List.mem_of_getElem? (i := 1225) rfl
set_option maxRecDepth 100000 in
theorem lm_760 : Cond.selects RX10 yX10_firstFrom yX10_firstFrom ∈ lw_tbl := List.mem_of_getElem? (i := 47) (by decide +kernel)
set_option maxRecDepth 100000 in
theorem lm_761 : Cond.instanceMethod yX10_firstFrom ∈ lw_tbl := List.mem_of_getElem? (i := 1224) (by decide +kernel)
set_option maxRecDepth 100000 in
theorem lm_762 : Cond.methodLink RX10 242 yX10_firstFrom ∈ lw_tbl := List.mem_of_getElem? (i := 1222) (by decide +kernel)
set_option maxRecDepth 100000 in
theorem lm_763 : Cond.selects RX10 yX10_laws yX10_laws ∈ lw_tbl := List.mem_of_getElem? (i := 1220) (by decide +kernel)
set_option maxRecDepth 100000 in
theorem lm_764 : Cond.instanceMethod yX10_laws ∈ lw_tbl := List.mem_of_getElem? (i := 1219) (by decide +kernel)
set_option maxRecDepth 100000 in
theorem lm_765 : Cond.methodLink RL 89 yX10_laws ∈ lw_tbl := List.mem_of_getElem? (i := 1218) (by decide +kernel)
set_option maxRecDepth 100000 in
theorem lm_766 : Cond.code yX9_span cX9_span 6 (some .int) ∈ lw_tbl := List.mem_of_getElem? (i := 746) rfl
set_option maxRecDepth 100000 in
theorem lm_767 : Cond.methodLink RX9 224 Lib.Math.min.name ∈ lw_tbl := List.mem_of_getElem? (i := 751) (by decide +kernel)
set_option maxRecDepth 100000 in
theorem lm_768 : Cond.code yX2_withFalls cX2_withFalls 3 (some .int) ∈ lw_tbl := List.mem_of_getElem? (i := 750) rfl
set_option maxRecDepth 100000 in
theorem lm_769 : Cond.selects RX2 yX2_withFalls yX2_withFalls ∈ lw_tbl := List.mem_of_getElem? (i := 749) (by decide +kernel)
set_option maxRecDepth 100000 in
theorem lm_770 : Cond.instanceMethod yX2_withFalls ∈ lw_tbl := List.mem_of_getElem? (i := 748) (by decide +kernel)
set_option maxRecDepth 100000 in
theorem lm_771 : Cond.methodLink RX9 221 yX2_withFalls ∈ lw_tbl := List.mem_of_getElem? (i := 747) (by decide +kernel)
set_option maxRecDepth 100000 in
theorem lm_772 : Cond.selects RX9 yX9_span yX9_span ∈ lw_tbl := List.mem_of_getElem? (i := 745) (by decide +kernel)
set_option maxRecDepth 100000 in
theorem lm_773 : Cond.instanceMethod yX9_span ∈ lw_tbl := List.mem_of_getElem? (i := 744) (by decide +kernel)
set_option maxRecDepth 100000 in
theorem lm_774 : Cond.methodLink RL 90 yX9_span ∈ lw_tbl := List.mem_of_getElem? (i := 743) (by decide +kernel)
set_option maxRecDepth 100000 in
theorem lm_775 : Cond.code yX10_span cX10_span 7 (some .int) ∈ lw_tbl := List.mem_of_getElem? (i := 1229) rfl
set_option maxRecDepth 100000 in
theorem lm_776 : Cond.code yX10_fallsOf cX10_fallsOf 4 (some .int) ∈ lw_tbl := List.mem_of_getElem? (i := 1232) rfl
set_option maxRecDepth 100000 in
theorem lm_777 : Cond.static yX10_fallsOf ∈ lw_tbl := List.mem_of_getElem? (i := 1231) (by decide +kernel)
set_option maxRecDepth 100000 in
theorem lm_778 : Cond.methodLink RX10 245 yX10_fallsOf ∈ lw_tbl := List.mem_of_getElem? (i := 1230) (by decide +kernel)
set_option maxRecDepth 100000 in
theorem lm_779 : Cond.selects RX10 yX10_span yX10_span ∈ lw_tbl := List.mem_of_getElem? (i := 1228) (by decide +kernel)
set_option maxRecDepth 100000 in
theorem lm_780 : Cond.instanceMethod yX10_span ∈ lw_tbl := List.mem_of_getElem? (i := 1227) (by decide +kernel)
set_option maxRecDepth 100000 in
theorem lm_781 : Cond.methodLink RL 93 yX10_span ∈ lw_tbl := List.mem_of_getElem? (i := 1226) (by decide +kernel)
set_option maxRecDepth 100000 in
theorem lm_782 : Cond.code yX9_say cX9_say 5 (some .int) ∈ lw_tbl := List.mem_of_getElem? (i := 755) rfl
set_option maxRecDepth 100000 in
theorem lm_783 : Cond.code yX2_isKept cX2_isKept 2 (some .boolean) ∈ lw_tbl := List.mem_of_getElem? (i := 763) rfl
set_option maxRecDepth 100000 in
theorem lm_784 : Cond.selects RX2 yX2_isKept yX2_isKept ∈ lw_tbl := List.mem_of_getElem? (i := 22) (by decide +kernel)
set_option maxRecDepth 100000 in
theorem lm_785 : Cond.instanceMethod yX2_isKept ∈ lw_tbl := List.mem_of_getElem? (i := 762) (by decide +kernel)
set_option maxRecDepth 100000 in
theorem lm_786 : Cond.methodLink RX2 97 yX2_isKept ∈ lw_tbl := List.mem_of_getElem? (i := 760) (by decide +kernel)
set_option maxRecDepth 100000 in
theorem lm_787 : Cond.code yX2_oftenerIn cX2_oftenerIn 5 (some .int) ∈ lw_tbl := List.mem_of_getElem? (i := 759) rfl
set_option maxRecDepth 100000 in
theorem lm_788 : Cond.selects RX2 yX2_oftenerIn yX2_oftenerIn ∈ lw_tbl := List.mem_of_getElem? (i := 758) (by decide +kernel)
set_option maxRecDepth 100000 in
theorem lm_789 : Cond.instanceMethod yX2_oftenerIn ∈ lw_tbl := List.mem_of_getElem? (i := 757) (by decide +kernel)
set_option maxRecDepth 100000 in
theorem lm_790 : Cond.methodLink RX9 229 yX2_oftenerIn ∈ lw_tbl := List.mem_of_getElem? (i := 756) (by decide +kernel)
set_option maxRecDepth 100000 in
theorem lm_791 : Cond.selects RX9 yX9_say yX9_say ∈ lw_tbl := List.mem_of_getElem? (i := 754) (by decide +kernel)
set_option maxRecDepth 100000 in
theorem lm_792 : Cond.instanceMethod yX9_say ∈ lw_tbl := List.mem_of_getElem? (i := 753) (by decide +kernel)
set_option maxRecDepth 100000 in
theorem lm_793 : Cond.methodLink RL 94 yX9_say ∈ lw_tbl := List.mem_of_getElem? (i := 752) (by decide +kernel)
set_option maxRecDepth 100000 in
theorem lm_794 : Cond.code yX10_say cX10_say 6 (some .int) ∈ lw_tbl := List.mem_of_getElem? (i := 1236) rfl
set_option maxRecDepth 100000 in
theorem lm_795 : Cond.selects RX10 yX10_say yX10_say ∈ lw_tbl := List.mem_of_getElem? (i := 1235) (by decide +kernel)
set_option maxRecDepth 100000 in
theorem lm_796 : Cond.instanceMethod yX10_say ∈ lw_tbl := List.mem_of_getElem? (i := 1234) (by decide +kernel)
set_option maxRecDepth 100000 in
theorem lm_797 : Cond.methodLink RL 97 yX10_say ∈ lw_tbl := List.mem_of_getElem? (i := 1233) (by decide +kernel)
set_option maxRecDepth 100000 in
theorem lm_798 : Cond.code yX9_cost cX9_cost 11 (some .int) ∈ lw_tbl := List.mem_of_getElem? (i := 767) rfl
set_option maxRecDepth 100000 in
theorem lm_799 : Cond.methodLink RX9 232 yX3_withHoles ∈ lw_tbl := List.mem_of_getElem? (i := 768) (by decide +kernel)
set_option maxRecDepth 100000 in
theorem lm_800 : Cond.constantLong RX9 235 (100) ∈ lw_tbl := List.mem_of_getElem? (i := 769) (by decide +kernel)
set_option maxRecDepth 100000 in
theorem lm_801 : Cond.selects RX9 yX9_cost yX9_cost ∈ lw_tbl := List.mem_of_getElem? (i := 766) (by decide +kernel)
set_option maxRecDepth 100000 in
theorem lm_802 : Cond.instanceMethod yX9_cost ∈ lw_tbl := List.mem_of_getElem? (i := 765) (by decide +kernel)
set_option maxRecDepth 100000 in
theorem lm_803 : Cond.methodLink RL 98 yX9_cost ∈ lw_tbl := List.mem_of_getElem? (i := 764) (by decide +kernel)
set_option maxRecDepth 100000 in
theorem lm_804 : Cond.code yX10_cost cX10_cost 5 (some .int) ∈ lw_tbl := List.mem_of_getElem? (i := 1240) rfl
set_option maxRecDepth 100000 in
theorem lm_805 : Cond.selects RX10 yX10_cost yX10_cost ∈ lw_tbl := List.mem_of_getElem? (i := 1239) (by decide +kernel)
set_option maxRecDepth 100000 in
theorem lm_806 : Cond.instanceMethod yX10_cost ∈ lw_tbl := List.mem_of_getElem? (i := 1238) (by decide +kernel)
set_option maxRecDepth 100000 in
theorem lm_807 : Cond.methodLink RL 101 yX10_cost ∈ lw_tbl := List.mem_of_getElem? (i := 1237) (by decide +kernel)
set_option maxRecDepth 100000 in
theorem lm_808 : Cond.code yX9_near cX9_near 3 (some .int) ∈ lw_tbl := List.mem_of_getElem? (i := 773) rfl
set_option maxRecDepth 100000 in
theorem lm_809 : Cond.selects RX9 yX9_near yX9_near ∈ lw_tbl := List.mem_of_getElem? (i := 772) (by decide +kernel)
set_option maxRecDepth 100000 in
theorem lm_810 : Cond.instanceMethod yX9_near ∈ lw_tbl := List.mem_of_getElem? (i := 771) (by decide +kernel)
set_option maxRecDepth 100000 in
theorem lm_811 : Cond.methodLink RL 102 yX9_near ∈ lw_tbl := List.mem_of_getElem? (i := 770) (by decide +kernel)
set_option maxRecDepth 100000 in
theorem lm_812 : Cond.code yX10_near cX10_near 4 (some .int) ∈ lw_tbl := List.mem_of_getElem? (i := 1244) rfl
set_option maxRecDepth 100000 in
theorem lm_813 : Cond.selects RX10 yX10_near yX10_near ∈ lw_tbl := List.mem_of_getElem? (i := 1243) (by decide +kernel)
set_option maxRecDepth 100000 in
theorem lm_814 : Cond.instanceMethod yX10_near ∈ lw_tbl := List.mem_of_getElem? (i := 1242) (by decide +kernel)
set_option maxRecDepth 100000 in
theorem lm_815 : Cond.methodLink RL 105 yX10_near ∈ lw_tbl := List.mem_of_getElem? (i := 1241) (by decide +kernel)
set_option maxRecDepth 100000 in
theorem lm_816 : Cond.code yX9_lost cX9_lost 6 (some .long) ∈ lw_tbl := List.mem_of_getElem? (i := 777) rfl
set_option maxRecDepth 100000 in
theorem lm_817 : Cond.code yX4_standAll cX4_standAll 7 none ∈ lw_tbl := List.mem_of_getElem? (i := 785) rfl
set_option maxRecDepth 100000 in
theorem lm_818 : Cond.selects RX4 yX4_standAll yX4_standAll ∈ lw_tbl := List.mem_of_getElem? (i := 784) (by decide +kernel)
set_option maxRecDepth 100000 in
theorem lm_819 : Cond.instanceMethod yX4_standAll ∈ lw_tbl := List.mem_of_getElem? (i := 783) (by decide +kernel)
set_option maxRecDepth 100000 in
theorem lm_820 : Cond.methodLink RX4 53 yX4_standAll ∈ lw_tbl := List.mem_of_getElem? (i := 782) (by decide +kernel)
set_option maxRecDepth 100000 in
theorem lm_821 : Cond.code yX4_homesBy cX4_homesBy 3 (some .long) ∈ lw_tbl := List.mem_of_getElem? (i := 781) rfl
set_option maxRecDepth 100000 in
theorem lm_822 : Cond.selects RX4 yX4_homesBy yX4_homesBy ∈ lw_tbl := List.mem_of_getElem? (i := 780) (by decide +kernel)
set_option maxRecDepth 100000 in
theorem lm_823 : Cond.instanceMethod yX4_homesBy ∈ lw_tbl := List.mem_of_getElem? (i := 779) (by decide +kernel)
set_option maxRecDepth 100000 in
theorem lm_824 : Cond.methodLink RX9 240 yX4_homesBy ∈ lw_tbl := List.mem_of_getElem? (i := 778) (by decide +kernel)
set_option maxRecDepth 100000 in
theorem lm_825 : Cond.fieldLink RX9 237 "MissingHoles$Plating" "light" "[Z" ∈ lw_tbl := List.mem_of_getElem? (i := 303) (by decide +kernel)
set_option maxRecDepth 100000 in
theorem lm_826 : Cond.methodLink RX9 244 yX8_notOther ∈ lw_tbl := List.mem_of_getElem? (i := 793) (by decide +kernel)
set_option maxRecDepth 100000 in
theorem lm_827 : Cond.code yX4_homesAt cX4_homesAt 5 (some .long) ∈ lw_tbl := List.mem_of_getElem? (i := 792) rfl
set_option maxRecDepth 100000 in
theorem lm_828 : Cond.selects RX4 yX4_homesAt yX4_homesAt ∈ lw_tbl := List.mem_of_getElem? (i := 23) (by decide +kernel)
set_option maxRecDepth 100000 in
theorem lm_829 : Cond.instanceMethod yX4_homesAt ∈ lw_tbl := List.mem_of_getElem? (i := 791) (by decide +kernel)
set_option maxRecDepth 100000 in
theorem lm_830 : Cond.methodLink RX4 57 yX4_homesAt ∈ lw_tbl := List.mem_of_getElem? (i := 789) (by decide +kernel)
set_option maxRecDepth 100000 in
theorem lm_831 : Cond.methodLink RX4 50 yX8_partStand ∈ lw_tbl := List.mem_of_getElem? (i := 788) (by decide +kernel)
set_option maxRecDepth 100000 in
theorem lm_832 : Cond.methodLink RX4 43 yX8_stand ∈ lw_tbl := List.mem_of_getElem? (i := 786) (by decide +kernel)
set_option maxRecDepth 100000 in
theorem lm_833 : Cond.selects RX9 yX9_lost yX9_lost ∈ lw_tbl := List.mem_of_getElem? (i := 776) (by decide +kernel)
set_option maxRecDepth 100000 in
theorem lm_834 : Cond.instanceMethod yX9_lost ∈ lw_tbl := List.mem_of_getElem? (i := 775) (by decide +kernel)
set_option maxRecDepth 100000 in
theorem lm_835 : Cond.methodLink RL 106 yX9_lost ∈ lw_tbl := List.mem_of_getElem? (i := 774) (by decide +kernel)
set_option maxRecDepth 100000 in
theorem lm_836 : Cond.code yX10_lost cX10_lost 6 (some .long) ∈ lw_tbl := List.mem_of_getElem? (i := 1248) rfl
set_option maxRecDepth 100000 in
theorem lm_837 : Cond.code yX10_lostUp cX10_lostUp 11 (some .long) ∈ lw_tbl := List.mem_of_getElem? (i := 1261) rfl
set_option maxRecDepth 100000 in
theorem lm_838 : Cond.selects RX10 yX10_lostUp yX10_lostUp ∈ lw_tbl := List.mem_of_getElem? (i := 50) (by decide +kernel)
set_option maxRecDepth 100000 in
theorem lm_839 : Cond.instanceMethod yX10_lostUp ∈ lw_tbl := List.mem_of_getElem? (i := 1260) (by decide +kernel)
set_option maxRecDepth 100000 in
theorem lm_840 : Cond.methodLink RX10 256 yX10_lostUp ∈ lw_tbl := List.mem_of_getElem? (i := 1258) (by decide +kernel)
set_option maxRecDepth 100000 in
theorem lm_841 : Cond.code yX10_weightOf cX10_weightOf 4 (some .int) ∈ lw_tbl := List.mem_of_getElem? (i := 1257) rfl
set_option maxRecDepth 100000 in
theorem lm_842 : Cond.selects RX10 yX10_weightOf yX10_weightOf ∈ lw_tbl := List.mem_of_getElem? (i := 49) (by decide +kernel)
set_option maxRecDepth 100000 in
theorem lm_843 : Cond.instanceMethod yX10_weightOf ∈ lw_tbl := List.mem_of_getElem? (i := 1256) (by decide +kernel)
set_option maxRecDepth 100000 in
theorem lm_844 : Cond.methodLink RX10 250 yX10_weightOf ∈ lw_tbl := List.mem_of_getElem? (i := 1254) (by decide +kernel)
set_option maxRecDepth 100000 in
theorem lm_845 : Cond.constantLong RX10 248 (15) ∈ lw_tbl := List.mem_of_getElem? (i := 1253) (by decide +kernel)
set_option maxRecDepth 100000 in
theorem lm_846 : Cond.code yX10_isWithin cX10_isWithin 2 (some .boolean) ∈ lw_tbl := List.mem_of_getElem? (i := 1252) rfl
set_option maxRecDepth 100000 in
theorem lm_847 : Cond.selects RX10 yX10_isWithin yX10_isWithin ∈ lw_tbl := List.mem_of_getElem? (i := 48) (by decide +kernel)
set_option maxRecDepth 100000 in
theorem lm_848 : Cond.instanceMethod yX10_isWithin ∈ lw_tbl := List.mem_of_getElem? (i := 1251) (by decide +kernel)
set_option maxRecDepth 100000 in
theorem lm_849 : Cond.methodLink RX10 253 yX10_isWithin ∈ lw_tbl := List.mem_of_getElem? (i := 1249) (by decide +kernel)
set_option maxRecDepth 100000 in
theorem lm_850 : Cond.selects RX10 yX10_lost yX10_lost ∈ lw_tbl := List.mem_of_getElem? (i := 1247) (by decide +kernel)
set_option maxRecDepth 100000 in
theorem lm_851 : Cond.instanceMethod yX10_lost ∈ lw_tbl := List.mem_of_getElem? (i := 1246) (by decide +kernel)
set_option maxRecDepth 100000 in
theorem lm_852 : Cond.methodLink RL 109 yX10_lost ∈ lw_tbl := List.mem_of_getElem? (i := 1245) (by decide +kernel)
set_option maxRecDepth 100000 in
theorem lm_853 : Cond.code yX9_best cX9_best 2 (some .int) ∈ lw_tbl := List.mem_of_getElem? (i := 797) rfl
set_option maxRecDepth 100000 in
theorem lm_854 : Cond.code yX4_bestFor cX4_bestFor 2 (some .int) ∈ lw_tbl := List.mem_of_getElem? (i := 801) rfl
set_option maxRecDepth 100000 in
theorem lm_855 : Cond.selects RX4 yX4_bestFor yX4_bestFor ∈ lw_tbl := List.mem_of_getElem? (i := 800) (by decide +kernel)
set_option maxRecDepth 100000 in
theorem lm_856 : Cond.instanceMethod yX4_bestFor ∈ lw_tbl := List.mem_of_getElem? (i := 799) (by decide +kernel)
set_option maxRecDepth 100000 in
theorem lm_857 : Cond.methodLink RX9 248 yX4_bestFor ∈ lw_tbl := List.mem_of_getElem? (i := 798) (by decide +kernel)
set_option maxRecDepth 100000 in
theorem lm_858 : Cond.constantLong RX4 65 (-1) ∈ lw_tbl := List.mem_of_getElem? (i := 806) (by decide +kernel)
set_option maxRecDepth 100000 in
theorem lm_859 : Cond.code yX4_mostHomes cX4_mostHomes 8 (some .int) ∈ lw_tbl := List.mem_of_getElem? (i := 805) rfl
set_option maxRecDepth 100000 in
theorem lm_860 : Cond.selects RX4 yX4_mostHomes yX4_mostHomes ∈ lw_tbl := List.mem_of_getElem? (i := 804) (by decide +kernel)
set_option maxRecDepth 100000 in
theorem lm_861 : Cond.instanceMethod yX4_mostHomes ∈ lw_tbl := List.mem_of_getElem? (i := 803) (by decide +kernel)
set_option maxRecDepth 100000 in
theorem lm_862 : Cond.methodLink RX4 61 yX4_mostHomes ∈ lw_tbl := List.mem_of_getElem? (i := 802) (by decide +kernel)
set_option maxRecDepth 100000 in
theorem lm_863 : Cond.selects RX9 yX9_best yX9_best ∈ lw_tbl := List.mem_of_getElem? (i := 796) (by decide +kernel)
set_option maxRecDepth 100000 in
theorem lm_864 : Cond.instanceMethod yX9_best ∈ lw_tbl := List.mem_of_getElem? (i := 795) (by decide +kernel)
set_option maxRecDepth 100000 in
theorem lm_865 : Cond.methodLink RL 110 yX9_best ∈ lw_tbl := List.mem_of_getElem? (i := 794) (by decide +kernel)
set_option maxRecDepth 100000 in
theorem lm_866 : Cond.code yX10_best cX10_best 2 (some .int) ∈ lw_tbl := List.mem_of_getElem? (i := 1265) rfl
set_option maxRecDepth 100000 in
theorem lm_867 : Cond.code yX10_bestOf cX10_bestOf 6 (some .int) ∈ lw_tbl := List.mem_of_getElem? (i := 1269) rfl
set_option maxRecDepth 100000 in
theorem lm_868 : Cond.selects RX10 yX10_bestOf yX10_bestOf ∈ lw_tbl := List.mem_of_getElem? (i := 51) (by decide +kernel)
set_option maxRecDepth 100000 in
theorem lm_869 : Cond.instanceMethod yX10_bestOf ∈ lw_tbl := List.mem_of_getElem? (i := 1268) (by decide +kernel)
set_option maxRecDepth 100000 in
theorem lm_870 : Cond.methodLink RX10 260 yX10_bestOf ∈ lw_tbl := List.mem_of_getElem? (i := 1266) (by decide +kernel)
set_option maxRecDepth 100000 in
theorem lm_871 : Cond.selects RX10 yX10_best yX10_best ∈ lw_tbl := List.mem_of_getElem? (i := 1264) (by decide +kernel)
set_option maxRecDepth 100000 in
theorem lm_872 : Cond.instanceMethod yX10_best ∈ lw_tbl := List.mem_of_getElem? (i := 1263) (by decide +kernel)
set_option maxRecDepth 100000 in
theorem lm_873 : Cond.methodLink RL 113 yX10_best ∈ lw_tbl := List.mem_of_getElem? (i := 1262) (by decide +kernel)
set_option maxRecDepth 100000 in
theorem lm_874 : Cond.code yX9_safest cX9_safest 1 (some .int) ∈ lw_tbl := List.mem_of_getElem? (i := 810) rfl
set_option maxRecDepth 100000 in
theorem lm_875 : Cond.methodLink RX2 101 yX4_standAll ∈ lw_tbl := List.mem_of_getElem? (i := 815) (by decide +kernel)
set_option maxRecDepth 100000 in
theorem lm_876 : Cond.methodLink RX2 110 Lib.Math.min.name ∈ lw_tbl := List.mem_of_getElem? (i := 816) (by decide +kernel)
set_option maxRecDepth 100000 in
theorem lm_877 : Cond.fieldLink RX2 107 "MissingHoles$Plating" "stands" "[I" ∈ lw_tbl := List.mem_of_getElem? (i := 306) (by decide +kernel)
set_option maxRecDepth 100000 in
theorem lm_878 : Cond.code yX2_safestPlates cX2_safestPlates 4 (some .int) ∈ lw_tbl := List.mem_of_getElem? (i := 814) rfl
set_option maxRecDepth 100000 in
theorem lm_879 : Cond.selects RX2 yX2_safestPlates yX2_safestPlates ∈ lw_tbl := List.mem_of_getElem? (i := 813) (by decide +kernel)
set_option maxRecDepth 100000 in
theorem lm_880 : Cond.instanceMethod yX2_safestPlates ∈ lw_tbl := List.mem_of_getElem? (i := 812) (by decide +kernel)
set_option maxRecDepth 100000 in
theorem lm_881 : Cond.methodLink RX9 251 yX2_safestPlates ∈ lw_tbl := List.mem_of_getElem? (i := 811) (by decide +kernel)
set_option maxRecDepth 100000 in
theorem lm_882 : Cond.methodLink RX2 115 yX4_mostHomes ∈ lw_tbl := List.mem_of_getElem? (i := 817) (by decide +kernel)
set_option maxRecDepth 100000 in
theorem lm_883 : Cond.selects RX9 yX9_safest yX9_safest ∈ lw_tbl := List.mem_of_getElem? (i := 809) (by decide +kernel)
set_option maxRecDepth 100000 in
theorem lm_884 : Cond.instanceMethod yX9_safest ∈ lw_tbl := List.mem_of_getElem? (i := 808) (by decide +kernel)
set_option maxRecDepth 100000 in
theorem lm_885 : Cond.methodLink RL 114 yX9_safest ∈ lw_tbl := List.mem_of_getElem? (i := 807) (by decide +kernel)
set_option maxRecDepth 100000 in
theorem lm_886 : Cond.code yX10_safest cX10_safest 10 (some .int) ∈ lw_tbl := List.mem_of_getElem? (i := 1273) rfl
set_option maxRecDepth 100000 in
theorem lm_887 : Cond.selects RX10 yX10_safest yX10_safest ∈ lw_tbl := List.mem_of_getElem? (i := 1272) (by decide +kernel)
set_option maxRecDepth 100000 in
theorem lm_888 : Cond.instanceMethod yX10_safest ∈ lw_tbl := List.mem_of_getElem? (i := 1271) (by decide +kernel)
set_option maxRecDepth 100000 in
theorem lm_889 : Cond.methodLink RL 117 yX10_safest ∈ lw_tbl := List.mem_of_getElem? (i := 1270) (by decide +kernel)
set_option maxRecDepth 100000 in
theorem lm_890 : Cond.code yX9_drawing cX9_drawing 1 (some .int) ∈ lw_tbl := List.mem_of_getElem? (i := 821) rfl
set_option maxRecDepth 100000 in
theorem lm_891 : Cond.methodLink RX4 71 yX3_inPart ∈ lw_tbl := List.mem_of_getElem? (i := 830) (by decide +kernel)
set_option maxRecDepth 100000 in
theorem lm_892 : Cond.code Lib.Math.max.name Lib.Math.max.code 2 (some .int) ∈ lw_tbl := List.mem_of_getElem? (i := 833) rfl
set_option maxRecDepth 100000 in
theorem lm_893 : Cond.static Lib.Math.max.name ∈ lw_tbl := List.mem_of_getElem? (i := 832) (by decide +kernel)
set_option maxRecDepth 100000 in
theorem lm_894 : Cond.methodLink RX4 79 Lib.Math.max.name ∈ lw_tbl := List.mem_of_getElem? (i := 831) (by decide +kernel)
set_option maxRecDepth 100000 in
theorem lm_895 : Cond.code yX4_mostHoles cX4_mostHoles 5 (some .int) ∈ lw_tbl := List.mem_of_getElem? (i := 829) rfl
set_option maxRecDepth 100000 in
theorem lm_896 : Cond.selects RX4 yX4_mostHoles yX4_mostHoles ∈ lw_tbl := List.mem_of_getElem? (i := 24) (by decide +kernel)
set_option maxRecDepth 100000 in
theorem lm_897 : Cond.instanceMethod yX4_mostHoles ∈ lw_tbl := List.mem_of_getElem? (i := 828) (by decide +kernel)
set_option maxRecDepth 100000 in
theorem lm_898 : Cond.methodLink RX4 67 yX4_mostHoles ∈ lw_tbl := List.mem_of_getElem? (i := 826) (by decide +kernel)
set_option maxRecDepth 100000 in
theorem lm_899 : Cond.code yX4_drawnFrom cX4_drawnFrom 6 (some .int) ∈ lw_tbl := List.mem_of_getElem? (i := 825) rfl
set_option maxRecDepth 100000 in
theorem lm_900 : Cond.selects RX4 yX4_drawnFrom yX4_drawnFrom ∈ lw_tbl := List.mem_of_getElem? (i := 824) (by decide +kernel)
set_option maxRecDepth 100000 in
theorem lm_901 : Cond.instanceMethod yX4_drawnFrom ∈ lw_tbl := List.mem_of_getElem? (i := 823) (by decide +kernel)
set_option maxRecDepth 100000 in
theorem lm_902 : Cond.methodLink RX9 255 yX4_drawnFrom ∈ lw_tbl := List.mem_of_getElem? (i := 822) (by decide +kernel)
set_option maxRecDepth 100000 in
theorem lm_903 : Cond.selects RX9 yX9_drawing yX9_drawing ∈ lw_tbl := List.mem_of_getElem? (i := 820) (by decide +kernel)
set_option maxRecDepth 100000 in
theorem lm_904 : Cond.instanceMethod yX9_drawing ∈ lw_tbl := List.mem_of_getElem? (i := 819) (by decide +kernel)
set_option maxRecDepth 100000 in
theorem lm_905 : Cond.methodLink RL 118 yX9_drawing ∈ lw_tbl := List.mem_of_getElem? (i := 818) (by decide +kernel)
set_option maxRecDepth 100000 in
theorem lm_906 : Cond.code yX10_drawing cX10_drawing 7 (some .int) ∈ lw_tbl := List.mem_of_getElem? (i := 1277) rfl
set_option maxRecDepth 100000 in
theorem lm_907 : Cond.selects RX10 yX10_drawing yX10_drawing ∈ lw_tbl := List.mem_of_getElem? (i := 1276) (by decide +kernel)
set_option maxRecDepth 100000 in
theorem lm_908 : Cond.instanceMethod yX10_drawing ∈ lw_tbl := List.mem_of_getElem? (i := 1275) (by decide +kernel)
set_option maxRecDepth 100000 in
theorem lm_909 : Cond.methodLink RL 121 yX10_drawing ∈ lw_tbl := List.mem_of_getElem? (i := 1274) (by decide +kernel)
set_option maxRecDepth 100000 in
theorem lm_910 : Cond.code yX9_wrong cX9_wrong 6 (some .int) ∈ lw_tbl := List.mem_of_getElem? (i := 837) rfl
set_option maxRecDepth 100000 in
theorem lm_911 : Cond.constantLong RX9 259 (1000) ∈ lw_tbl := List.mem_of_getElem? (i := 838) (by decide +kernel)
set_option maxRecDepth 100000 in
theorem lm_912 : Cond.selects RX9 yX9_wrong yX9_wrong ∈ lw_tbl := List.mem_of_getElem? (i := 836) (by decide +kernel)
set_option maxRecDepth 100000 in
theorem lm_913 : Cond.instanceMethod yX9_wrong ∈ lw_tbl := List.mem_of_getElem? (i := 835) (by decide +kernel)
set_option maxRecDepth 100000 in
theorem lm_914 : Cond.methodLink RL 122 yX9_wrong ∈ lw_tbl := List.mem_of_getElem? (i := 834) (by decide +kernel)
set_option maxRecDepth 100000 in
theorem lm_915 : Cond.code yX10_wrong cX10_wrong 6 (some .int) ∈ lw_tbl := List.mem_of_getElem? (i := 1281) rfl
set_option maxRecDepth 100000 in
theorem lm_916 : Cond.methodLink RX10 263 yX10_drawing ∈ lw_tbl := List.mem_of_getElem? (i := 1282) (by decide +kernel)
set_option maxRecDepth 100000 in
theorem lm_917 : Cond.selects RX10 yX10_wrong yX10_wrong ∈ lw_tbl := List.mem_of_getElem? (i := 1280) (by decide +kernel)
set_option maxRecDepth 100000 in
theorem lm_918 : Cond.instanceMethod yX10_wrong ∈ lw_tbl := List.mem_of_getElem? (i := 1279) (by decide +kernel)
set_option maxRecDepth 100000 in
theorem lm_919 : Cond.methodLink RL 125 yX10_wrong ∈ lw_tbl := List.mem_of_getElem? (i := 1278) (by decide +kernel)
set_option maxRecDepth 100000 in
theorem lm_920 : Cond.code yX9_unlike cX9_unlike 3 (some .int) ∈ lw_tbl := List.mem_of_getElem? (i := 842) rfl
set_option maxRecDepth 100000 in
theorem lm_921 : Cond.methodLink RX2 119 yX4_bestFor ∈ lw_tbl := List.mem_of_getElem? (i := 847) (by decide +kernel)
set_option maxRecDepth 100000 in
theorem lm_922 : Cond.code yX2_unlikeLaw cX2_unlikeLaw 4 (some .int) ∈ lw_tbl := List.mem_of_getElem? (i := 846) rfl
set_option maxRecDepth 100000 in
theorem lm_923 : Cond.selects RX2 yX2_unlikeLaw yX2_unlikeLaw ∈ lw_tbl := List.mem_of_getElem? (i := 845) (by decide +kernel)
set_option maxRecDepth 100000 in
theorem lm_924 : Cond.instanceMethod yX2_unlikeLaw ∈ lw_tbl := List.mem_of_getElem? (i := 844) (by decide +kernel)
set_option maxRecDepth 100000 in
theorem lm_925 : Cond.methodLink RX9 261 yX2_unlikeLaw ∈ lw_tbl := List.mem_of_getElem? (i := 843) (by decide +kernel)
set_option maxRecDepth 100000 in
theorem lm_926 : Cond.code yX9_farthestPart cX9_farthestPart 6 (some .int) ∈ lw_tbl := List.mem_of_getElem? (i := 850) rfl
set_option maxRecDepth 100000 in
theorem lm_927 : Cond.static yX9_farthestPart ∈ lw_tbl := List.mem_of_getElem? (i := 849) (by decide +kernel)
set_option maxRecDepth 100000 in
theorem lm_928 : Cond.methodLink RX9 264 yX9_farthestPart ∈ lw_tbl := List.mem_of_getElem? (i := 848) (by decide +kernel)
set_option maxRecDepth 100000 in
theorem lm_929 : Cond.selects RX9 yX9_unlike yX9_unlike ∈ lw_tbl := List.mem_of_getElem? (i := 841) (by decide +kernel)
set_option maxRecDepth 100000 in
theorem lm_930 : Cond.instanceMethod yX9_unlike ∈ lw_tbl := List.mem_of_getElem? (i := 840) (by decide +kernel)
set_option maxRecDepth 100000 in
theorem lm_931 : Cond.methodLink RL 126 yX9_unlike ∈ lw_tbl := List.mem_of_getElem? (i := 839) (by decide +kernel)
set_option maxRecDepth 100000 in
theorem lm_932 : Cond.code yX10_unlike cX10_unlike 9 (some .int) ∈ lw_tbl := List.mem_of_getElem? (i := 1286) rfl
set_option maxRecDepth 100000 in
theorem lm_933 : Cond.selects RX10 yX10_unlike yX10_unlike ∈ lw_tbl := List.mem_of_getElem? (i := 1285) (by decide +kernel)
set_option maxRecDepth 100000 in
theorem lm_934 : Cond.instanceMethod yX10_unlike ∈ lw_tbl := List.mem_of_getElem? (i := 1284) (by decide +kernel)
set_option maxRecDepth 100000 in
theorem lm_935 : Cond.methodLink RL 129 yX10_unlike ∈ lw_tbl := List.mem_of_getElem? (i := 1283) (by decide +kernel)
set_option maxRecDepth 100000 in
theorem lm_936 : Cond.code yX9_trial cX9_trial 8 (some .int) ∈ lw_tbl := List.mem_of_getElem? (i := 854) rfl
set_option maxRecDepth 100000 in
theorem lm_937 : Cond.methodLink RX9 271 Lib.Math.max.name ∈ lw_tbl := List.mem_of_getElem? (i := 861) (by decide +kernel)
set_option maxRecDepth 100000 in
theorem lm_938 : Cond.methodLink RX2 88 yX2_withFalls ∈ lw_tbl := List.mem_of_getElem? (i := 860) (by decide +kernel)
set_option maxRecDepth 100000 in
theorem lm_939 : Cond.code yX2_leftBy cX2_leftBy 6 (some .int) ∈ lw_tbl := List.mem_of_getElem? (i := 858) rfl
set_option maxRecDepth 100000 in
theorem lm_940 : Cond.selects RX2 yX2_leftBy yX2_leftBy ∈ lw_tbl := List.mem_of_getElem? (i := 857) (by decide +kernel)
set_option maxRecDepth 100000 in
theorem lm_941 : Cond.instanceMethod yX2_leftBy ∈ lw_tbl := List.mem_of_getElem? (i := 856) (by decide +kernel)
set_option maxRecDepth 100000 in
theorem lm_942 : Cond.methodLink RX9 267 yX2_leftBy ∈ lw_tbl := List.mem_of_getElem? (i := 855) (by decide +kernel)
set_option maxRecDepth 100000 in
theorem lm_943 : Cond.selects RX9 yX9_trial yX9_trial ∈ lw_tbl := List.mem_of_getElem? (i := 853) (by decide +kernel)
set_option maxRecDepth 100000 in
theorem lm_944 : Cond.instanceMethod yX9_trial ∈ lw_tbl := List.mem_of_getElem? (i := 852) (by decide +kernel)
set_option maxRecDepth 100000 in
theorem lm_945 : Cond.methodLink RL 130 yX9_trial ∈ lw_tbl := List.mem_of_getElem? (i := 851) (by decide +kernel)
set_option maxRecDepth 100000 in
theorem lm_946 : Cond.code yX10_trial cX10_trial 10 (some .int) ∈ lw_tbl := List.mem_of_getElem? (i := 1290) rfl
set_option maxRecDepth 100000 in
theorem lm_947 : Cond.constantLong RX10 268 (22) ∈ lw_tbl := List.mem_of_getElem? (i := 1292) (by decide +kernel)
set_option maxRecDepth 100000 in
theorem lm_948 : Cond.constantLong RX10 266 (21) ∈ lw_tbl := List.mem_of_getElem? (i := 1291) (by decide +kernel)
set_option maxRecDepth 100000 in
theorem lm_949 : Cond.selects RX10 yX10_trial yX10_trial ∈ lw_tbl := List.mem_of_getElem? (i := 1289) (by decide +kernel)
set_option maxRecDepth 100000 in
theorem lm_950 : Cond.instanceMethod yX10_trial ∈ lw_tbl := List.mem_of_getElem? (i := 1288) (by decide +kernel)
set_option maxRecDepth 100000 in
theorem lm_951 : Cond.methodLink RL 133 yX10_trial ∈ lw_tbl := List.mem_of_getElem? (i := 1287) (by decide +kernel)
set_option maxRecDepth 100000 in
theorem lm_952 : Cond.code yX9_sheet cX9_sheet 4 (some .int) ∈ lw_tbl := List.mem_of_getElem? (i := 865) rfl
set_option maxRecDepth 100000 in
theorem lm_953 : Cond.fieldLink RX6 19 "MissingHoles$Sheet" "size" "I" ∈ lw_tbl := List.mem_of_getElem? (i := 346) (by decide +kernel)
set_option maxRecDepth 100000 in
theorem lm_954 : Cond.code yX6_renew cX6_renew 4 none ∈ lw_tbl := List.mem_of_getElem? (i := 875) rfl
set_option maxRecDepth 100000 in
theorem lm_955 : Cond.selects RX6 yX6_renew yX6_renew ∈ lw_tbl := List.mem_of_getElem? (i := 874) (by decide +kernel)
set_option maxRecDepth 100000 in
theorem lm_956 : Cond.instanceMethod yX6_renew ∈ lw_tbl := List.mem_of_getElem? (i := 873) (by decide +kernel)
set_option maxRecDepth 100000 in
theorem lm_957 : Cond.methodLink RX9 280 yX6_renew ∈ lw_tbl := List.mem_of_getElem? (i := 872) (by decide +kernel)
set_option maxRecDepth 100000 in
theorem lm_958 : Cond.code yX9_isLane cX9_isLane 1 (some .boolean) ∈ lw_tbl := List.mem_of_getElem? (i := 871) rfl
set_option maxRecDepth 100000 in
theorem lm_959 : Cond.static yX9_isLane ∈ lw_tbl := List.mem_of_getElem? (i := 870) (by decide +kernel)
set_option maxRecDepth 100000 in
theorem lm_960 : Cond.methodLink RX9 277 yX9_isLane ∈ lw_tbl := List.mem_of_getElem? (i := 869) (by decide +kernel)
set_option maxRecDepth 100000 in
theorem lm_961 : Cond.code yX9_isSheet cX9_isSheet 1 (some .boolean) ∈ lw_tbl := List.mem_of_getElem? (i := 868) rfl
set_option maxRecDepth 100000 in
theorem lm_962 : Cond.static yX9_isSheet ∈ lw_tbl := List.mem_of_getElem? (i := 867) (by decide +kernel)
set_option maxRecDepth 100000 in
theorem lm_963 : Cond.methodLink RX9 274 yX9_isSheet ∈ lw_tbl := List.mem_of_getElem? (i := 866) (by decide +kernel)
set_option maxRecDepth 100000 in
theorem lm_964 : Cond.selects RX9 yX9_sheet yX9_sheet ∈ lw_tbl := List.mem_of_getElem? (i := 864) (by decide +kernel)
set_option maxRecDepth 100000 in
theorem lm_965 : Cond.instanceMethod yX9_sheet ∈ lw_tbl := List.mem_of_getElem? (i := 863) (by decide +kernel)
set_option maxRecDepth 100000 in
theorem lm_966 : Cond.methodLink RL 134 yX9_sheet ∈ lw_tbl := List.mem_of_getElem? (i := 862) (by decide +kernel)
set_option maxRecDepth 100000 in
theorem lm_967 : Cond.code yX10_sheet cX10_sheet 5 (some .int) ∈ lw_tbl := List.mem_of_getElem? (i := 1296) rfl
set_option maxRecDepth 100000 in
theorem lm_968 : Cond.selects RX10 yX10_sheet yX10_sheet ∈ lw_tbl := List.mem_of_getElem? (i := 1295) (by decide +kernel)
set_option maxRecDepth 100000 in
theorem lm_969 : Cond.instanceMethod yX10_sheet ∈ lw_tbl := List.mem_of_getElem? (i := 1294) (by decide +kernel)
set_option maxRecDepth 100000 in
theorem lm_970 : Cond.methodLink RL 137 yX10_sheet ∈ lw_tbl := List.mem_of_getElem? (i := 1293) (by decide +kernel)
set_option maxRecDepth 100000 in
theorem lm_971 : Cond.code yX9_lay cX9_lay 6 (some .int) ∈ lw_tbl := List.mem_of_getElem? (i := 879) rfl
set_option maxRecDepth 100000 in
theorem lm_972 : Cond.code yX6_put cX6_put 3 none ∈ lw_tbl := List.mem_of_getElem? (i := 887) rfl
set_option maxRecDepth 100000 in
theorem lm_973 : Cond.selects RX6 yX6_put yX6_put ∈ lw_tbl := List.mem_of_getElem? (i := 886) (by decide +kernel)
set_option maxRecDepth 100000 in
theorem lm_974 : Cond.instanceMethod yX6_put ∈ lw_tbl := List.mem_of_getElem? (i := 885) (by decide +kernel)
set_option maxRecDepth 100000 in
theorem lm_975 : Cond.methodLink RX9 289 yX6_put ∈ lw_tbl := List.mem_of_getElem? (i := 884) (by decide +kernel)
set_option maxRecDepth 100000 in
theorem lm_976 : Cond.code yX6_faultAt cX6_faultAt 3 (some .int) ∈ lw_tbl := List.mem_of_getElem? (i := 883) rfl
set_option maxRecDepth 100000 in
theorem lm_977 : Cond.selects RX6 yX6_faultAt yX6_faultAt ∈ lw_tbl := List.mem_of_getElem? (i := 882) (by decide +kernel)
set_option maxRecDepth 100000 in
theorem lm_978 : Cond.instanceMethod yX6_faultAt ∈ lw_tbl := List.mem_of_getElem? (i := 881) (by decide +kernel)
set_option maxRecDepth 100000 in
theorem lm_979 : Cond.methodLink RX9 286 yX6_faultAt ∈ lw_tbl := List.mem_of_getElem? (i := 880) (by decide +kernel)
set_option maxRecDepth 100000 in
theorem lm_980 : Cond.fieldLink RX9 283 "MissingHoles$Sheet" "lane" "I" ∈ lw_tbl := List.mem_of_getElem? (i := 345) (by decide +kernel)
set_option maxRecDepth 100000 in
theorem lm_981 : Cond.selects RX9 yX9_lay yX9_lay ∈ lw_tbl := List.mem_of_getElem? (i := 878) (by decide +kernel)
set_option maxRecDepth 100000 in
theorem lm_982 : Cond.instanceMethod yX9_lay ∈ lw_tbl := List.mem_of_getElem? (i := 877) (by decide +kernel)
set_option maxRecDepth 100000 in
theorem lm_983 : Cond.methodLink RL 138 yX9_lay ∈ lw_tbl := List.mem_of_getElem? (i := 876) (by decide +kernel)
set_option maxRecDepth 100000 in
theorem lm_984 : Cond.code yX10_lay cX10_lay 4 (some .int) ∈ lw_tbl := List.mem_of_getElem? (i := 1300) rfl
set_option maxRecDepth 100000 in
theorem lm_985 : Cond.selects RX10 yX10_lay yX10_lay ∈ lw_tbl := List.mem_of_getElem? (i := 1299) (by decide +kernel)
set_option maxRecDepth 100000 in
theorem lm_986 : Cond.instanceMethod yX10_lay ∈ lw_tbl := List.mem_of_getElem? (i := 1298) (by decide +kernel)
set_option maxRecDepth 100000 in
theorem lm_987 : Cond.methodLink RL 141 yX10_lay ∈ lw_tbl := List.mem_of_getElem? (i := 1297) (by decide +kernel)
set_option maxRecDepth 100000 in
theorem lm_988 : Cond.code yX9_read cX9_read 9 (some .int) ∈ lw_tbl := List.mem_of_getElem? (i := 891) rfl
set_option maxRecDepth 100000 in
theorem lm_989 : Cond.selects RX6 yX6_isHome yX6_isHome ∈ lw_tbl := List.mem_of_getElem? (i := 899) (by decide +kernel)
set_option maxRecDepth 100000 in
theorem lm_990 : Cond.instanceMethod yX6_isHome ∈ lw_tbl := List.mem_of_getElem? (i := 898) (by decide +kernel)
set_option maxRecDepth 100000 in
theorem lm_991 : Cond.methodLink RX9 294 yX6_isHome ∈ lw_tbl := List.mem_of_getElem? (i := 897) (by decide +kernel)
set_option maxRecDepth 100000 in
theorem lm_992 : Cond.methodLink RX6 22 yX6_faultAt ∈ lw_tbl := List.mem_of_getElem? (i := 896) (by decide +kernel)
set_option maxRecDepth 100000 in
theorem lm_993 : Cond.code yX6_faultOfHome cX6_faultOfHome 5 (some .int) ∈ lw_tbl := List.mem_of_getElem? (i := 895) rfl
set_option maxRecDepth 100000 in
theorem lm_994 : Cond.selects RX6 yX6_faultOfHome yX6_faultOfHome ∈ lw_tbl := List.mem_of_getElem? (i := 894) (by decide +kernel)
set_option maxRecDepth 100000 in
theorem lm_995 : Cond.instanceMethod yX6_faultOfHome ∈ lw_tbl := List.mem_of_getElem? (i := 893) (by decide +kernel)
set_option maxRecDepth 100000 in
theorem lm_996 : Cond.methodLink RX9 291 yX6_faultOfHome ∈ lw_tbl := List.mem_of_getElem? (i := 892) (by decide +kernel)
set_option maxRecDepth 100000 in
theorem lm_997 : Cond.code yX9_takeHomes cX9_takeHomes 6 none ∈ lw_tbl := List.mem_of_getElem? (i := 908) rfl
set_option maxRecDepth 100000 in
theorem lm_998 : Cond.selects RX9 yX9_takeHomes yX9_takeHomes ∈ lw_tbl := List.mem_of_getElem? (i := 25) (by decide +kernel)
set_option maxRecDepth 100000 in
theorem lm_999 : Cond.instanceMethod yX9_takeHomes ∈ lw_tbl := List.mem_of_getElem? (i := 907) (by decide +kernel)
set_option maxRecDepth 100000 in
theorem lm_1000 : Cond.methodLink RX9 297 yX9_takeHomes ∈ lw_tbl := List.mem_of_getElem? (i := 905) (by decide +kernel)
set_option maxRecDepth 100000 in
theorem lm_1001 : Cond.code yX6_cell cX6_cell 2 (some .int) ∈ lw_tbl := List.mem_of_getElem? (i := 904) rfl
set_option maxRecDepth 100000 in
theorem lm_1002 : Cond.selects RX6 yX6_cell yX6_cell ∈ lw_tbl := List.mem_of_getElem? (i := 903) (by decide +kernel)
set_option maxRecDepth 100000 in
theorem lm_1003 : Cond.instanceMethod yX6_cell ∈ lw_tbl := List.mem_of_getElem? (i := 902) (by decide +kernel)
set_option maxRecDepth 100000 in
theorem lm_1004 : Cond.methodLink RX6 26 yX6_cell ∈ lw_tbl := List.mem_of_getElem? (i := 901) (by decide +kernel)
set_option maxRecDepth 100000 in
theorem lm_1005 : Cond.code yX6_isHome cX6_isHome 5 (some .boolean) ∈ lw_tbl := List.mem_of_getElem? (i := 900) rfl
set_option maxRecDepth 100000 in
theorem lm_1006 : Cond.methodLink RX9 313 yX6_cell ∈ lw_tbl := List.mem_of_getElem? (i := 909) (by decide +kernel)
set_option maxRecDepth 100000 in
theorem lm_1007 : Cond.selects RX9 yX9_read yX9_read ∈ lw_tbl := List.mem_of_getElem? (i := 890) (by decide +kernel)
set_option maxRecDepth 100000 in
theorem lm_1008 : Cond.instanceMethod yX9_read ∈ lw_tbl := List.mem_of_getElem? (i := 889) (by decide +kernel)
set_option maxRecDepth 100000 in
theorem lm_1009 : Cond.methodLink RL 142 yX9_read ∈ lw_tbl := List.mem_of_getElem? (i := 888) (by decide +kernel)
set_option maxRecDepth 100000 in
theorem lm_1010 : Cond.code yX10_read cX10_read 8 (some .int) ∈ lw_tbl := List.mem_of_getElem? (i := 1304) rfl
set_option maxRecDepth 100000 in
theorem lm_1011 : Cond.code yX10_homeAt cX10_homeAt 5 (some .int) ∈ lw_tbl := List.mem_of_getElem? (i := 1309) rfl
set_option maxRecDepth 100000 in
theorem lm_1012 : Cond.selects RX10 yX10_homeAt yX10_homeAt ∈ lw_tbl := List.mem_of_getElem? (i := 52) (by decide +kernel)
set_option maxRecDepth 100000 in
theorem lm_1013 : Cond.instanceMethod yX10_homeAt ∈ lw_tbl := List.mem_of_getElem? (i := 1308) (by decide +kernel)
set_option maxRecDepth 100000 in
theorem lm_1014 : Cond.methodLink RX10 272 yX10_homeAt ∈ lw_tbl := List.mem_of_getElem? (i := 1306) (by decide +kernel)
set_option maxRecDepth 100000 in
theorem lm_1015 : Cond.fieldLink RX10 275 "MissingHolesModel" "torn" "I" ∈ lw_tbl := List.mem_of_getElem? (i := 963) (by decide +kernel)
set_option maxRecDepth 100000 in
theorem lm_1016 : Cond.constantLong RX10 270 (12) ∈ lw_tbl := List.mem_of_getElem? (i := 1305) (by decide +kernel)
set_option maxRecDepth 100000 in
theorem lm_1017 : Cond.selects RX10 yX10_read yX10_read ∈ lw_tbl := List.mem_of_getElem? (i := 1303) (by decide +kernel)
set_option maxRecDepth 100000 in
theorem lm_1018 : Cond.instanceMethod yX10_read ∈ lw_tbl := List.mem_of_getElem? (i := 1302) (by decide +kernel)
set_option maxRecDepth 100000 in
theorem lm_1019 : Cond.methodLink RL 146 yX10_read ∈ lw_tbl := List.mem_of_getElem? (i := 1301) (by decide +kernel)
set_option maxRecDepth 100000 in
theorem lm_1020 : Cond.code yX9_torn cX9_torn 1 (some .int) ∈ lw_tbl := List.mem_of_getElem? (i := 913) rfl
set_option maxRecDepth 100000 in
theorem lm_1021 : Cond.selects RX9 yX9_torn yX9_torn ∈ lw_tbl := List.mem_of_getElem? (i := 912) (by decide +kernel)
set_option maxRecDepth 100000 in
theorem lm_1022 : Cond.instanceMethod yX9_torn ∈ lw_tbl := List.mem_of_getElem? (i := 911) (by decide +kernel)
set_option maxRecDepth 100000 in
theorem lm_1023 : Cond.methodLink RL 147 yX9_torn ∈ lw_tbl := List.mem_of_getElem? (i := 910) (by decide +kernel)
set_option maxRecDepth 100000 in
theorem lm_1024 : Cond.code yX10_torn cX10_torn 1 (some .int) ∈ lw_tbl := List.mem_of_getElem? (i := 1313) rfl
set_option maxRecDepth 100000 in
theorem lm_1025 : Cond.selects RX10 yX10_torn yX10_torn ∈ lw_tbl := List.mem_of_getElem? (i := 1312) (by decide +kernel)
set_option maxRecDepth 100000 in
theorem lm_1026 : Cond.instanceMethod yX10_torn ∈ lw_tbl := List.mem_of_getElem? (i := 1311) (by decide +kernel)
set_option maxRecDepth 100000 in
theorem lm_1027 : Cond.methodLink RL 150 yX10_torn ∈ lw_tbl := List.mem_of_getElem? (i := 1310) (by decide +kernel)
set_option maxRecDepth 100000 in
theorem lm_1028 : Cond.code yX9_count cX9_count 2 (some .int) ∈ lw_tbl := List.mem_of_getElem? (i := 917) rfl
set_option maxRecDepth 100000 in
theorem lm_1029 : Cond.fieldLink RX9 307 "MissingHoles$Sheet" "size" "I" ∈ lw_tbl := List.mem_of_getElem? (i := 347) (by decide +kernel)
set_option maxRecDepth 100000 in
theorem lm_1030 : Cond.code yX0_allTried cX0_allTried 3 (some .int) ∈ lw_tbl := List.mem_of_getElem? (i := 925) rfl
set_option maxRecDepth 100000 in
theorem lm_1031 : Cond.selects RX0 yX0_allTried yX0_allTried ∈ lw_tbl := List.mem_of_getElem? (i := 924) (by decide +kernel)
set_option maxRecDepth 100000 in
theorem lm_1032 : Cond.instanceMethod yX0_allTried ∈ lw_tbl := List.mem_of_getElem? (i := 923) (by decide +kernel)
set_option maxRecDepth 100000 in
theorem lm_1033 : Cond.methodLink RX9 304 yX0_allTried ∈ lw_tbl := List.mem_of_getElem? (i := 922) (by decide +kernel)
set_option maxRecDepth 100000 in
theorem lm_1034 : Cond.code yX0_allWrecks cX0_allWrecks 3 (some .int) ∈ lw_tbl := List.mem_of_getElem? (i := 921) rfl
set_option maxRecDepth 100000 in
theorem lm_1035 : Cond.selects RX0 yX0_allWrecks yX0_allWrecks ∈ lw_tbl := List.mem_of_getElem? (i := 920) (by decide +kernel)
set_option maxRecDepth 100000 in
theorem lm_1036 : Cond.instanceMethod yX0_allWrecks ∈ lw_tbl := List.mem_of_getElem? (i := 919) (by decide +kernel)
set_option maxRecDepth 100000 in
theorem lm_1037 : Cond.methodLink RX9 301 yX0_allWrecks ∈ lw_tbl := List.mem_of_getElem? (i := 918) (by decide +kernel)
set_option maxRecDepth 100000 in
theorem lm_1038 : Cond.selects RX9 yX9_count yX9_count ∈ lw_tbl := List.mem_of_getElem? (i := 916) (by decide +kernel)
set_option maxRecDepth 100000 in
theorem lm_1039 : Cond.instanceMethod yX9_count ∈ lw_tbl := List.mem_of_getElem? (i := 915) (by decide +kernel)
set_option maxRecDepth 100000 in
theorem lm_1040 : Cond.methodLink RL 151 yX9_count ∈ lw_tbl := List.mem_of_getElem? (i := 914) (by decide +kernel)
set_option maxRecDepth 100000 in
theorem lm_1041 : Cond.code yX10_count cX10_count 5 (some .int) ∈ lw_tbl := List.mem_of_getElem? (i := 1317) rfl
set_option maxRecDepth 100000 in
theorem lm_1042 : Cond.selects RX10 yX10_count yX10_count ∈ lw_tbl := List.mem_of_getElem? (i := 1316) (by decide +kernel)
set_option maxRecDepth 100000 in
theorem lm_1043 : Cond.instanceMethod yX10_count ∈ lw_tbl := List.mem_of_getElem? (i := 1315) (by decide +kernel)
set_option maxRecDepth 100000 in
theorem lm_1044 : Cond.methodLink RL 154 yX10_count ∈ lw_tbl := List.mem_of_getElem? (i := 1314) (by decide +kernel)
