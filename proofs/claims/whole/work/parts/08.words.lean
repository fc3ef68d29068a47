theorem wd_1 : (Cond.initialized "HomeFreed") ∈ lw_tbl := List.mem_append_right _ (List.mem_of_getElem? (i := 1) (by decide +kernel))
theorem wd_2 : (Cond.initialized "HomeFreed$Tape") ∈ lw_tbl := List.mem_append_right _ (List.mem_of_getElem? (i := 2) (by decide +kernel))
theorem wd_3 : (Cond.initialized "HomeFreed$Reader") ∈ lw_tbl := List.mem_append_right _ (List.mem_of_getElem? (i := 3) (by decide +kernel))
theorem wd_4 : (Cond.initialized "HomeFreed$Rules") ∈ lw_tbl := List.mem_append_right _ (List.mem_of_getElem? (i := 4) (by decide +kernel))
theorem wd_5 : (Cond.initialized "HomeFreed$Script") ∈ lw_tbl := List.mem_append_right _ (List.mem_of_getElem? (i := 5) (by decide +kernel))
theorem wd_6 : (Cond.initialized "HomeFreed$Heap") ∈ lw_tbl := List.mem_append_right _ (List.mem_of_getElem? (i := 6) (by decide +kernel))
theorem wd_7 : (Cond.initialized "HomeFreed$Chains") ∈ lw_tbl := List.mem_append_right _ (List.mem_of_getElem? (i := 7) (by decide +kernel))
theorem wd_8 : (Cond.initialized "java/util/Arrays") ∈ lw_tbl := List.mem_append_right _ (List.mem_of_getElem? (i := 8) (by decide +kernel))
theorem wd_9 : (Cond.initialized "HomeFreed$Log") ∈ lw_tbl := List.mem_append_right _ (List.mem_of_getElem? (i := 9) (by decide +kernel))
theorem wd_10 : (Cond.initialized "HomeFreed$Past") ∈ lw_tbl := List.mem_append_right _ (List.mem_of_getElem? (i := 10) (by decide +kernel))
theorem wd_11 : (Cond.initialized "HomeFreed$Mixer") ∈ lw_tbl := List.mem_append_right _ (List.mem_of_getElem? (i := 11) (by decide +kernel))
theorem wd_12 : (Cond.initialized "HomeFreed$Progress") ∈ lw_tbl := List.mem_append_right _ (List.mem_of_getElem? (i := 12) (by decide +kernel))
theorem wd_13 : (Cond.initialized "HomeFreedModel") ∈ lw_tbl := List.mem_append_right _ (List.mem_of_getElem? (i := 13) (by decide +kernel))
theorem wd_14 : (Cond.initialized "java/lang/System") ∈ lw_tbl := List.mem_append_right _ (List.mem_of_getElem? (i := 14) (by decide +kernel))
theorem wd_17 : (Cond.initialized "java/lang/Math") ∈ lw_tbl := List.mem_append_right _ (List.mem_of_getElem? (i := 17) (by decide +kernel))
theorem wd_39 : (Cond.fieldLink "HomeFreed$Tape" (9 : Nat) "HomeFreed$Tape" "bytes" "[I") ∈ lw_tbl := List.mem_append_right _ (List.mem_of_getElem? (i := 39) (by decide +kernel))
theorem wd_40 : (Cond.fieldLink "HomeFreed$Reader" (27 : Nat) "HomeFreed$Tape" "bytes" "[I") ∈ lw_tbl := List.mem_append_right _ (List.mem_of_getElem? (i := 40) (by decide +kernel))
theorem wd_41 : (Cond.fieldLink "HomeFreed$Tape" (15 : Nat) "HomeFreed$Tape" "length" "I") ∈ lw_tbl := List.mem_append_right _ (List.mem_of_getElem? (i := 41) (by decide +kernel))
theorem wd_42 : (Cond.fieldLink "HomeFreed" (98 : Nat) "HomeFreed$Tape" "length" "I") ∈ lw_tbl := List.mem_append_right _ (List.mem_of_getElem? (i := 42) (by decide +kernel))
theorem wd_43 : (Cond.fieldLink "HomeFreed$Reader" (22 : Nat) "HomeFreed$Tape" "length" "I") ∈ lw_tbl := List.mem_append_right _ (List.mem_of_getElem? (i := 43) (by decide +kernel))
theorem wd_56 : (Cond.fieldLink "HomeFreed$Reader" (9 : Nat) "HomeFreed$Reader" "tape" "LHomeFreed$Tape;") ∈ lw_tbl := List.mem_append_right _ (List.mem_of_getElem? (i := 56) (by decide +kernel))
theorem wd_57 : (Cond.fieldLink "HomeFreed$Reader" (15 : Nat) "HomeFreed$Reader" "at" "I") ∈ lw_tbl := List.mem_append_right _ (List.mem_of_getElem? (i := 57) (by decide +kernel))
theorem wd_58 : (Cond.fieldLink "HomeFreed$Reader" (19 : Nat) "HomeFreed$Reader" "wrongAt" "I") ∈ lw_tbl := List.mem_append_right _ (List.mem_of_getElem? (i := 58) (by decide +kernel))
theorem wd_74 : (Cond.fieldLink "HomeFreed$Rules" (9 : Nat) "HomeFreed$Rules" "values" "[I") ∈ lw_tbl := List.mem_append_right _ (List.mem_of_getElem? (i := 74) (by decide +kernel))
theorem wd_75 : (Cond.fieldLink "HomeFreed$Heap" (76 : Nat) "HomeFreed$Rules" "values" "[I") ∈ lw_tbl := List.mem_append_right _ (List.mem_of_getElem? (i := 75) (by decide +kernel))
theorem wd_76 : (Cond.fieldLink "HomeFreed" (136 : Nat) "HomeFreed$Rules" "values" "[I") ∈ lw_tbl := List.mem_append_right _ (List.mem_of_getElem? (i := 76) (by decide +kernel))
theorem wd_77 : (Cond.fieldLink "HomeFreed$Rules" (15 : Nat) "HomeFreed$Rules" "sizes" "[I") ∈ lw_tbl := List.mem_append_right _ (List.mem_of_getElem? (i := 77) (by decide +kernel))
theorem wd_78 : (Cond.fieldLink "HomeFreed" (143 : Nat) "HomeFreed$Rules" "sizes" "[I") ∈ lw_tbl := List.mem_append_right _ (List.mem_of_getElem? (i := 78) (by decide +kernel))
theorem wd_79 : (Cond.fieldLink "HomeFreed$Heap" (117 : Nat) "HomeFreed$Rules" "sizes" "[I") ∈ lw_tbl := List.mem_append_right _ (List.mem_of_getElem? (i := 79) (by decide +kernel))
theorem wd_80 : (Cond.fieldLink "HomeFreed$Rules" (18 : Nat) "HomeFreed$Rules" "kinds" "I") ∈ lw_tbl := List.mem_append_right _ (List.mem_of_getElem? (i := 80) (by decide +kernel))
theorem wd_81 : (Cond.fieldLink "HomeFreed" (126 : Nat) "HomeFreed$Rules" "kinds" "I") ∈ lw_tbl := List.mem_append_right _ (List.mem_of_getElem? (i := 81) (by decide +kernel))
theorem wd_96 : (Cond.fieldLink "HomeFreed$Script" (9 : Nat) "HomeFreed$Script" "deed" "[I") ∈ lw_tbl := List.mem_append_right _ (List.mem_of_getElem? (i := 96) (by decide +kernel))
theorem wd_97 : (Cond.fieldLink "HomeFreed$Progress" (51 : Nat) "HomeFreed$Script" "deed" "[I") ∈ lw_tbl := List.mem_append_right _ (List.mem_of_getElem? (i := 97) (by decide +kernel))
theorem wd_98 : (Cond.fieldLink "HomeFreed" (301 : Nat) "HomeFreed$Script" "deed" "[I") ∈ lw_tbl := List.mem_append_right _ (List.mem_of_getElem? (i := 98) (by decide +kernel))
theorem wd_99 : (Cond.fieldLink "HomeFreed$Script" (15 : Nat) "HomeFreed$Script" "by" "[I") ∈ lw_tbl := List.mem_append_right _ (List.mem_of_getElem? (i := 99) (by decide +kernel))
theorem wd_100 : (Cond.fieldLink "HomeFreed$Progress" (50 : Nat) "HomeFreed$Script" "by" "[I") ∈ lw_tbl := List.mem_append_right _ (List.mem_of_getElem? (i := 100) (by decide +kernel))
theorem wd_101 : (Cond.fieldLink "HomeFreed" (304 : Nat) "HomeFreed$Script" "by" "[I") ∈ lw_tbl := List.mem_append_right _ (List.mem_of_getElem? (i := 101) (by decide +kernel))
theorem wd_102 : (Cond.fieldLink "HomeFreed$Script" (18 : Nat) "HomeFreed$Script" "number" "[I") ∈ lw_tbl := List.mem_append_right _ (List.mem_of_getElem? (i := 102) (by decide +kernel))
theorem wd_103 : (Cond.fieldLink "HomeFreed$Progress" (64 : Nat) "HomeFreed$Script" "number" "[I") ∈ lw_tbl := List.mem_append_right _ (List.mem_of_getElem? (i := 103) (by decide +kernel))
theorem wd_104 : (Cond.fieldLink "HomeFreed" (307 : Nat) "HomeFreed$Script" "number" "[I") ∈ lw_tbl := List.mem_append_right _ (List.mem_of_getElem? (i := 104) (by decide +kernel))
theorem wd_105 : (Cond.fieldLink "HomeFreed$Script" (21 : Nat) "HomeFreed$Script" "steps" "I") ∈ lw_tbl := List.mem_append_right _ (List.mem_of_getElem? (i := 105) (by decide +kernel))
theorem wd_106 : (Cond.fieldLink "HomeFreed$Mixer" (60 : Nat) "HomeFreed$Script" "steps" "I") ∈ lw_tbl := List.mem_append_right _ (List.mem_of_getElem? (i := 106) (by decide +kernel))
theorem wd_107 : (Cond.fieldLink "HomeFreed$Progress" (37 : Nat) "HomeFreed$Script" "steps" "I") ∈ lw_tbl := List.mem_append_right _ (List.mem_of_getElem? (i := 107) (by decide +kernel))
theorem wd_108 : (Cond.fieldLink "HomeFreed" (297 : Nat) "HomeFreed$Script" "steps" "I") ∈ lw_tbl := List.mem_append_right _ (List.mem_of_getElem? (i := 108) (by decide +kernel))
theorem wd_130 : (Cond.methodLink "HomeFreed$Chains" (24 : Nat) ({ cls := "java/util/Arrays", name := "fill", desc := "([II)V" } : MethodName)) ∈ lw_tbl := List.mem_append_right _ (List.mem_of_getElem? (i := 130) (by decide +kernel))
theorem wd_131 : (Cond.static ({ cls := "java/util/Arrays", name := "fill", desc := "([II)V" } : MethodName)) ∈ lw_tbl := List.mem_append_right _ (List.mem_of_getElem? (i := 131) (by decide +kernel))
theorem wd_132 : (Cond.code ({ cls := "java/util/Arrays", name := "fill", desc := "([II)V" } : MethodName) prog_28_method_103_code (4 : Nat) (Option.none : Option ClassFile.FieldType)) ∈ lw_tbl := List.mem_append_right _ (List.mem_of_getElem? (i := 132) (by decide +kernel))
theorem wd_133 : (Cond.fieldLink "HomeFreed$Chains" (9 : Nat) "HomeFreed$Chains" "first" "[I") ∈ lw_tbl := List.mem_append_right _ (List.mem_of_getElem? (i := 133) (by decide +kernel))
theorem wd_134 : (Cond.fieldLink "HomeFreed$Heap" (132 : Nat) "HomeFreed$Chains" "first" "[I") ∈ lw_tbl := List.mem_append_right _ (List.mem_of_getElem? (i := 134) (by decide +kernel))
theorem wd_135 : (Cond.fieldLink "HomeFreed$Chains" (15 : Nat) "HomeFreed$Chains" "many" "[I") ∈ lw_tbl := List.mem_append_right _ (List.mem_of_getElem? (i := 135) (by decide +kernel))
theorem wd_136 : (Cond.fieldLink "HomeFreed$Heap" (95 : Nat) "HomeFreed$Chains" "many" "[I") ∈ lw_tbl := List.mem_append_right _ (List.mem_of_getElem? (i := 136) (by decide +kernel))
theorem wd_137 : (Cond.fieldLink "HomeFreed" (332 : Nat) "HomeFreed$Chains" "many" "[I") ∈ lw_tbl := List.mem_append_right _ (List.mem_of_getElem? (i := 137) (by decide +kernel))
theorem wd_138 : (Cond.fieldLink "HomeFreed$Chains" (18 : Nat) "HomeFreed$Chains" "next" "[I") ∈ lw_tbl := List.mem_append_right _ (List.mem_of_getElem? (i := 138) (by decide +kernel))
theorem wd_139 : (Cond.fieldLink "HomeFreed$Heap" (135 : Nat) "HomeFreed$Chains" "next" "[I") ∈ lw_tbl := List.mem_append_right _ (List.mem_of_getElem? (i := 139) (by decide +kernel))
theorem wd_140 : (Cond.fieldLink "HomeFreed$Chains" (21 : Nat) "HomeFreed$Chains" "home" "[I") ∈ lw_tbl := List.mem_append_right _ (List.mem_of_getElem? (i := 140) (by decide +kernel))
theorem wd_141 : (Cond.fieldLink "HomeFreed$Heap" (88 : Nat) "HomeFreed$Chains" "home" "[I") ∈ lw_tbl := List.mem_append_right _ (List.mem_of_getElem? (i := 141) (by decide +kernel))
theorem wd_142 : (Cond.fieldLink "HomeFreed" (323 : Nat) "HomeFreed$Chains" "home" "[I") ∈ lw_tbl := List.mem_append_right _ (List.mem_of_getElem? (i := 142) (by decide +kernel))
theorem wd_158 : (Cond.fieldLink "HomeFreed$Log" (9 : Nat) "HomeFreed$Log" "entries" "[I") ∈ lw_tbl := List.mem_append_right _ (List.mem_of_getElem? (i := 158) (by decide +kernel))
theorem wd_159 : (Cond.fieldLink "HomeFreed$Log" (15 : Nat) "HomeFreed$Log" "all" "I") ∈ lw_tbl := List.mem_append_right _ (List.mem_of_getElem? (i := 159) (by decide +kernel))
theorem wd_160 : (Cond.fieldLink "HomeFreed$Heap" (59 : Nat) "HomeFreed$Log" "all" "I") ∈ lw_tbl := List.mem_append_right _ (List.mem_of_getElem? (i := 160) (by decide +kernel))
theorem wd_166 : (Cond.methodLink "HomeFreed$Heap" (50 : Nat) ({ cls := "java/util/Arrays", name := "fill", desc := "([II)V" } : MethodName)) ∈ lw_tbl := List.mem_append_right _ (List.mem_of_getElem? (i := 166) (by decide +kernel))
theorem wd_167 : (Cond.fieldLink "HomeFreed$Heap" (46 : Nat) "HomeFreed$Heap" "rules" "LHomeFreed$Rules;") ∈ lw_tbl := List.mem_append_right _ (List.mem_of_getElem? (i := 167) (by decide +kernel))
theorem wd_168 : (Cond.fieldLink "HomeFreed$Heap" (9 : Nat) "HomeFreed$Heap" "kind" "[I") ∈ lw_tbl := List.mem_append_right _ (List.mem_of_getElem? (i := 168) (by decide +kernel))
theorem wd_170 : (Cond.fieldLink "HomeFreed$Heap" (15 : Nat) "HomeFreed$Heap" "owner" "[I") ∈ lw_tbl := List.mem_append_right _ (List.mem_of_getElem? (i := 170) (by decide +kernel))
theorem wd_171 : (Cond.fieldLink "HomeFreed" (159 : Nat) "HomeFreed$Heap" "owner" "[I") ∈ lw_tbl := List.mem_append_right _ (List.mem_of_getElem? (i := 171) (by decide +kernel))
theorem wd_172 : (Cond.fieldLink "HomeFreed$Heap" (18 : Nat) "HomeFreed$Heap" "cut" "[I") ∈ lw_tbl := List.mem_append_right _ (List.mem_of_getElem? (i := 172) (by decide +kernel))
theorem wd_173 : (Cond.fieldLink "HomeFreed$Heap" (26 : Nat) "HomeFreed$Heap" "queues" "LHomeFreed$Chains;") ∈ lw_tbl := List.mem_append_right _ (List.mem_of_getElem? (i := 173) (by decide +kernel))
theorem wd_174 : (Cond.fieldLink "HomeFreed" (202 : Nat) "HomeFreed$Heap" "queues" "LHomeFreed$Chains;") ∈ lw_tbl := List.mem_append_right _ (List.mem_of_getElem? (i := 174) (by decide +kernel))
theorem wd_175 : (Cond.fieldLink "HomeFreed$Heap" (30 : Nat) "HomeFreed$Heap" "blocks" "LHomeFreed$Chains;") ∈ lw_tbl := List.mem_append_right _ (List.mem_of_getElem? (i := 175) (by decide +kernel))
theorem wd_176 : (Cond.fieldLink "HomeFreed" (172 : Nat) "HomeFreed$Heap" "blocks" "LHomeFreed$Chains;") ∈ lw_tbl := List.mem_append_right _ (List.mem_of_getElem? (i := 176) (by decide +kernel))
theorem wd_177 : (Cond.fieldLink "HomeFreed$Heap" (33 : Nat) "HomeFreed$Heap" "lives" "[I") ∈ lw_tbl := List.mem_append_right _ (List.mem_of_getElem? (i := 177) (by decide +kernel))
theorem wd_178 : (Cond.fieldLink "HomeFreed$Heap" (36 : Nat) "HomeFreed$Heap" "gets" "[I") ∈ lw_tbl := List.mem_append_right _ (List.mem_of_getElem? (i := 178) (by decide +kernel))
theorem wd_179 : (Cond.fieldLink "HomeFreed" (196 : Nat) "HomeFreed$Heap" "gets" "[I") ∈ lw_tbl := List.mem_append_right _ (List.mem_of_getElem? (i := 179) (by decide +kernel))
theorem wd_180 : (Cond.fieldLink "HomeFreed$Heap" (42 : Nat) "HomeFreed$Heap" "log" "LHomeFreed$Log;") ∈ lw_tbl := List.mem_append_right _ (List.mem_of_getElem? (i := 180) (by decide +kernel))
theorem wd_181 : (Cond.fieldLink "HomeFreed" (280 : Nat) "HomeFreed$Heap" "log" "LHomeFreed$Log;") ∈ lw_tbl := List.mem_append_right _ (List.mem_of_getElem? (i := 181) (by decide +kernel))
theorem wd_210 : (Cond.fieldLink "HomeFreed$Past" (11 : Nat) "HomeFreed$Past" "before" "[LHomeFreed$Heap;") ∈ lw_tbl := List.mem_append_right _ (List.mem_of_getElem? (i := 210) (by decide +kernel))
theorem wd_211 : (Cond.fieldLink "HomeFreed$Past" (20 : Nat) "HomeFreed$Past" "oldest" "I") ∈ lw_tbl := List.mem_append_right _ (List.mem_of_getElem? (i := 211) (by decide +kernel))
theorem wd_212 : (Cond.fieldLink "HomeFreed$Past" (24 : Nat) "HomeFreed$Past" "many" "I") ∈ lw_tbl := List.mem_append_right _ (List.mem_of_getElem? (i := 212) (by decide +kernel))
theorem wd_213 : (Cond.fieldLink "HomeFreed" (393 : Nat) "HomeFreed$Past" "many" "I") ∈ lw_tbl := List.mem_append_right _ (List.mem_of_getElem? (i := 213) (by decide +kernel))
theorem wd_236 : (Cond.fieldLink "HomeFreed$Progress" (9 : Nat) "HomeFreed$Progress" "block" "[I") ∈ lw_tbl := List.mem_append_right _ (List.mem_of_getElem? (i := 236) (by decide +kernel))
theorem wd_237 : (Cond.fieldLink "HomeFreed$Progress" (15 : Nat) "HomeFreed$Progress" "by" "[I") ∈ lw_tbl := List.mem_append_right _ (List.mem_of_getElem? (i := 237) (by decide +kernel))
theorem wd_238 : (Cond.fieldLink "HomeFreed$Progress" (18 : Nat) "HomeFreed$Progress" "scope" "[I") ∈ lw_tbl := List.mem_append_right _ (List.mem_of_getElem? (i := 238) (by decide +kernel))
theorem wd_239 : (Cond.fieldLink "HomeFreed$Progress" (21 : Nat) "HomeFreed$Progress" "got" "I") ∈ lw_tbl := List.mem_append_right _ (List.mem_of_getElem? (i := 239) (by decide +kernel))
theorem wd_240 : (Cond.fieldLink "HomeFreed$Progress" (25 : Nat) "HomeFreed$Progress" "depth" "I") ∈ lw_tbl := List.mem_append_right _ (List.mem_of_getElem? (i := 240) (by decide +kernel))
theorem wd_254 : (Cond.fieldLink "HomeFreed$Mixer" (11 : Nat) "HomeFreed$Mixer" "heaps" "[LHomeFreed$Heap;") ∈ lw_tbl := List.mem_append_right _ (List.mem_of_getElem? (i := 254) (by decide +kernel))
theorem wd_255 : (Cond.fieldLink "HomeFreed$Mixer" (19 : Nat) "HomeFreed$Mixer" "ofOne" "[LHomeFreed$Progress;") ∈ lw_tbl := List.mem_append_right _ (List.mem_of_getElem? (i := 255) (by decide +kernel))
theorem wd_256 : (Cond.fieldLink "HomeFreed$Mixer" (23 : Nat) "HomeFreed$Mixer" "ofOther" "[LHomeFreed$Progress;") ∈ lw_tbl := List.mem_append_right _ (List.mem_of_getElem? (i := 256) (by decide +kernel))
theorem wd_257 : (Cond.fieldLink "HomeFreed$Mixer" (33 : Nat) "HomeFreed$Mixer" "one" "LHomeFreed$Script;") ∈ lw_tbl := List.mem_append_right _ (List.mem_of_getElem? (i := 257) (by decide +kernel))
theorem wd_258 : (Cond.fieldLink "HomeFreed$Mixer" (37 : Nat) "HomeFreed$Mixer" "other" "LHomeFreed$Script;") ∈ lw_tbl := List.mem_append_right _ (List.mem_of_getElem? (i := 258) (by decide +kernel))
theorem wd_259 : (Cond.fieldLink "HomeFreed$Mixer" (47 : Nat) "HomeFreed$Mixer" "all" "I") ∈ lw_tbl := List.mem_append_right _ (List.mem_of_getElem? (i := 259) (by decide +kernel))
theorem wd_260 : (Cond.fieldLink "HomeFreed" (357 : Nat) "HomeFreed$Mixer" "all" "I") ∈ lw_tbl := List.mem_append_right _ (List.mem_of_getElem? (i := 260) (by decide +kernel))
theorem wd_261 : (Cond.fieldLink "HomeFreed$Mixer" (51 : Nat) "HomeFreed$Mixer" "whole" "I") ∈ lw_tbl := List.mem_append_right _ (List.mem_of_getElem? (i := 261) (by decide +kernel))
theorem wd_262 : (Cond.fieldLink "HomeFreed" (360 : Nat) "HomeFreed$Mixer" "whole" "I") ∈ lw_tbl := List.mem_append_right _ (List.mem_of_getElem? (i := 262) (by decide +kernel))
theorem wd_263 : (Cond.fieldLink "HomeFreed$Mixer" (54 : Nat) "HomeFreed$Mixer" "mostPages" "I") ∈ lw_tbl := List.mem_append_right _ (List.mem_of_getElem? (i := 263) (by decide +kernel))
theorem wd_264 : (Cond.fieldLink "HomeFreed" (363 : Nat) "HomeFreed$Mixer" "mostPages" "I") ∈ lw_tbl := List.mem_append_right _ (List.mem_of_getElem? (i := 264) (by decide +kernel))
theorem wd_265 : (Cond.fieldLink "HomeFreed$Mixer" (57 : Nat) "HomeFreed$Mixer" "fewestPages" "I") ∈ lw_tbl := List.mem_append_right _ (List.mem_of_getElem? (i := 265) (by decide +kernel))
theorem wd_266 : (Cond.fieldLink "HomeFreed" (366 : Nat) "HomeFreed$Mixer" "fewestPages" "I") ∈ lw_tbl := List.mem_append_right _ (List.mem_of_getElem? (i := 266) (by decide +kernel))
theorem wd_288 : (Cond.fieldLink "HomeFreed" (12 : Nat) "HomeFreed" "tape" "LHomeFreed$Tape;") ∈ lw_tbl := List.mem_append_right _ (List.mem_of_getElem? (i := 288) (by decide +kernel))
theorem wd_290 : (Cond.fieldLink "HomeFreed" (28 : Nat) "HomeFreed" "rules" "LHomeFreed$Rules;") ∈ lw_tbl := List.mem_append_right _ (List.mem_of_getElem? (i := 290) (by decide +kernel))
theorem wd_292 : (Cond.fieldLink "HomeFreed" (37 : Nat) "HomeFreed" "scripts" "[LHomeFreed$Script;") ∈ lw_tbl := List.mem_append_right _ (List.mem_of_getElem? (i := 292) (by decide +kernel))
theorem wd_293 : (Cond.fieldLink "HomeFreed" (42 : Nat) "HomeFreed" "scriptsTold" "I") ∈ lw_tbl := List.mem_append_right _ (List.mem_of_getElem? (i := 293) (by decide +kernel))
theorem wd_295 : (Cond.fieldLink "HomeFreed" (55 : Nat) "HomeFreed" "now" "LHomeFreed$Heap;") ∈ lw_tbl := List.mem_append_right _ (List.mem_of_getElem? (i := 295) (by decide +kernel))
theorem wd_296 : (Cond.fieldLink "HomeFreed" (62 : Nat) "HomeFreed" "past" "LHomeFreed$Past;") ∈ lw_tbl := List.mem_append_right _ (List.mem_of_getElem? (i := 296) (by decide +kernel))
theorem wd_297 : (Cond.fieldLink "HomeFreed" (66 : Nat) "HomeFreed" "kept" "LHomeFreed$Heap;") ∈ lw_tbl := List.mem_append_right _ (List.mem_of_getElem? (i := 297) (by decide +kernel))
theorem wd_298 : (Cond.fieldLink "HomeFreed" (69 : Nat) "HomeFreed" "imaged" "Z") ∈ lw_tbl := List.mem_append_right _ (List.mem_of_getElem? (i := 298) (by decide +kernel))
theorem wd_299 : (Cond.fieldLink "HomeFreed" (73 : Nat) "HomeFreed" "refused" "[I") ∈ lw_tbl := List.mem_append_right _ (List.mem_of_getElem? (i := 299) (by decide +kernel))
theorem wd_300 : (Cond.fieldLink "HomeFreed" (80 : Nat) "HomeFreed" "mixer" "LHomeFreed$Mixer;") ∈ lw_tbl := List.mem_append_right _ (List.mem_of_getElem? (i := 300) (by decide +kernel))
theorem wd_301 : (Cond.fieldLink "HomeFreed" (84 : Nat) "HomeFreed" "trial" "LHomeFreed$Heap;") ∈ lw_tbl := List.mem_append_right _ (List.mem_of_getElem? (i := 301) (by decide +kernel))
theorem wd_302 : (Cond.fieldLink "HomeFreed" (90 : Nat) "HomeFreed" "progress" "LHomeFreed$Progress;") ∈ lw_tbl := List.mem_append_right _ (List.mem_of_getElem? (i := 302) (by decide +kernel))
theorem wd_335 : (Cond.instanceMethod ({ cls := "HomeFreed", name := "feed", desc := "(IIIII)I" } : MethodName)) ∈ lw_tbl := List.mem_append_right _ (List.mem_of_getElem? (i := 335) (by decide +kernel))
theorem wd_336 : (Cond.selects "HomeFreed" ({ cls := "HomeFreed", name := "feed", desc := "(IIIII)I" } : MethodName) ({ cls := "HomeFreed", name := "feed", desc := "(IIIII)I" } : MethodName)) ∈ lw_tbl := List.mem_append_right _ (List.mem_of_getElem? (i := 336) (by decide +kernel))
theorem wd_337 : (Cond.code ({ cls := "HomeFreed", name := "feed", desc := "(IIIII)I" } : MethodName) prog_1_method_2_code (7 : Nat) (Option.some ClassFile.FieldType.int)) ∈ lw_tbl := List.mem_append_right _ (List.mem_of_getElem? (i := 337) (by decide +kernel))
theorem wd_338 : (Cond.methodLink "HomeFreed" (94 : Nat) ({ cls := "HomeFreed$Tape", name := "signsIn", desc := "(I)I" } : MethodName)) ∈ lw_tbl := List.mem_append_right _ (List.mem_of_getElem? (i := 338) (by decide +kernel))
theorem wd_339 : (Cond.instanceMethod ({ cls := "HomeFreed$Tape", name := "signsIn", desc := "(I)I" } : MethodName)) ∈ lw_tbl := List.mem_append_right _ (List.mem_of_getElem? (i := 339) (by decide +kernel))
theorem wd_340 : (Cond.selects "HomeFreed$Tape" ({ cls := "HomeFreed$Tape", name := "signsIn", desc := "(I)I" } : MethodName) ({ cls := "HomeFreed$Tape", name := "signsIn", desc := "(I)I" } : MethodName)) ∈ lw_tbl := List.mem_append_right _ (List.mem_of_getElem? (i := 340) (by decide +kernel))
theorem wd_341 : (Cond.code ({ cls := "HomeFreed$Tape", name := "signsIn", desc := "(I)I" } : MethodName) prog_11_method_2_code (4 : Nat) (Option.some ClassFile.FieldType.int)) ∈ lw_tbl := List.mem_append_right _ (List.mem_of_getElem? (i := 341) (by decide +kernel))
theorem wd_342 : (Cond.methodLink "HomeFreed" (101 : Nat) ({ cls := "HomeFreed$Tape", name := "append", desc := "(I)V" } : MethodName)) ∈ lw_tbl := List.mem_append_right _ (List.mem_of_getElem? (i := 342) (by decide +kernel))
theorem wd_343 : (Cond.instanceMethod ({ cls := "HomeFreed$Tape", name := "append", desc := "(I)V" } : MethodName)) ∈ lw_tbl := List.mem_append_right _ (List.mem_of_getElem? (i := 343) (by decide +kernel))
theorem wd_344 : (Cond.selects "HomeFreed$Tape" ({ cls := "HomeFreed$Tape", name := "append", desc := "(I)V" } : MethodName) ({ cls := "HomeFreed$Tape", name := "append", desc := "(I)V" } : MethodName)) ∈ lw_tbl := List.mem_append_right _ (List.mem_of_getElem? (i := 344) (by decide +kernel))
theorem wd_345 : (Cond.code ({ cls := "HomeFreed$Tape", name := "append", desc := "(I)V" } : MethodName) prog_11_method_3_code (4 : Nat) (Option.none : Option ClassFile.FieldType)) ∈ lw_tbl := List.mem_append_right _ (List.mem_of_getElem? (i := 345) (by decide +kernel))
theorem wd_347 : (Cond.instanceMethod ({ cls := "HomeFreed", name := "end", desc := "(I)Z" } : MethodName)) ∈ lw_tbl := List.mem_append_right _ (List.mem_of_getElem? (i := 347) (by decide +kernel))
theorem wd_348 : (Cond.selects "HomeFreed" ({ cls := "HomeFreed", name := "end", desc := "(I)Z" } : MethodName) ({ cls := "HomeFreed", name := "end", desc := "(I)Z" } : MethodName)) ∈ lw_tbl := List.mem_append_right _ (List.mem_of_getElem? (i := 348) (by decide +kernel))
theorem wd_349 : (Cond.code ({ cls := "HomeFreed", name := "end", desc := "(I)Z" } : MethodName) prog_1_method_3_code (2 : Nat) (Option.some ClassFile.FieldType.boolean)) ∈ lw_tbl := List.mem_append_right _ (List.mem_of_getElem? (i := 349) (by decide +kernel))
theorem wd_360 : (Cond.methodLink "HomeFreed$Rules" (22 : Nat) ({ cls := "java/lang/System", name := "arraycopy", desc := "(Ljava/lang/Object;ILjava/lang/Object;II)V" } : MethodName)) ∈ lw_tbl := List.mem_append_right _ (List.mem_of_getElem? (i := 360) (by decide +kernel))
theorem wd_361 : (Cond.static ({ cls := "java/lang/System", name := "arraycopy", desc := "(Ljava/lang/Object;ILjava/lang/Object;II)V" } : MethodName)) ∈ lw_tbl := List.mem_append_right _ (List.mem_of_getElem? (i := 361) (by decide +kernel))
theorem wd_362 : (Cond.native ({ cls := "java/lang/System", name := "arraycopy", desc := "(Ljava/lang/Object;ILjava/lang/Object;II)V" } : MethodName)) ∈ lw_tbl := List.mem_append_right _ (List.mem_of_getElem? (i := 362) (by decide +kernel))
theorem wd_364 : (Cond.instanceMethod ({ cls := "HomeFreed$Reader", name := "rewind", desc := "()V" } : MethodName)) ∈ lw_tbl := List.mem_append_right _ (List.mem_of_getElem? (i := 364) (by decide +kernel))
theorem wd_365 : (Cond.selects "HomeFreed$Reader" ({ cls := "HomeFreed$Reader", name := "rewind", desc := "()V" } : MethodName) ({ cls := "HomeFreed$Reader", name := "rewind", desc := "()V" } : MethodName)) ∈ lw_tbl := List.mem_append_right _ (List.mem_of_getElem? (i := 365) (by decide +kernel))
theorem wd_366 : (Cond.code ({ cls := "HomeFreed$Reader", name := "rewind", desc := "()V" } : MethodName) prog_8_method_2_code (1 : Nat) (Option.none : Option ClassFile.FieldType)) ∈ lw_tbl := List.mem_append_right _ (List.mem_of_getElem? (i := 366) (by decide +kernel))
theorem wd_368 : (Cond.instanceMethod ({ cls := "HomeFreed$Reader", name := "isWrong", desc := "()Z" } : MethodName)) ∈ lw_tbl := List.mem_append_right _ (List.mem_of_getElem? (i := 368) (by decide +kernel))
theorem wd_369 : (Cond.selects "HomeFreed$Reader" ({ cls := "HomeFreed$Reader", name := "isWrong", desc := "()Z" } : MethodName) ({ cls := "HomeFreed$Reader", name := "isWrong", desc := "()Z" } : MethodName)) ∈ lw_tbl := List.mem_append_right _ (List.mem_of_getElem? (i := 369) (by decide +kernel))
theorem wd_370 : (Cond.code ({ cls := "HomeFreed$Reader", name := "isWrong", desc := "()Z" } : MethodName) prog_8_method_3_code (1 : Nat) (Option.some ClassFile.FieldType.boolean)) ∈ lw_tbl := List.mem_append_right _ (List.mem_of_getElem? (i := 370) (by decide +kernel))
theorem wd_372 : (Cond.instanceMethod ({ cls := "HomeFreed$Reader", name := "peek", desc := "()I" } : MethodName)) ∈ lw_tbl := List.mem_append_right _ (List.mem_of_getElem? (i := 372) (by decide +kernel))
theorem wd_373 : (Cond.selects "HomeFreed$Reader" ({ cls := "HomeFreed$Reader", name := "peek", desc := "()I" } : MethodName) ({ cls := "HomeFreed$Reader", name := "peek", desc := "()I" } : MethodName)) ∈ lw_tbl := List.mem_append_right _ (List.mem_of_getElem? (i := 373) (by decide +kernel))
theorem wd_374 : (Cond.code ({ cls := "HomeFreed$Reader", name := "peek", desc := "()I" } : MethodName) prog_8_method_5_code (1 : Nat) (Option.some ClassFile.FieldType.int)) ∈ lw_tbl := List.mem_append_right _ (List.mem_of_getElem? (i := 374) (by decide +kernel))
theorem wd_376 : (Cond.instanceMethod ({ cls := "HomeFreed$Reader", name := "pass", desc := "()V" } : MethodName)) ∈ lw_tbl := List.mem_append_right _ (List.mem_of_getElem? (i := 376) (by decide +kernel))
theorem wd_377 : (Cond.selects "HomeFreed$Reader" ({ cls := "HomeFreed$Reader", name := "pass", desc := "()V" } : MethodName) ({ cls := "HomeFreed$Reader", name := "pass", desc := "()V" } : MethodName)) ∈ lw_tbl := List.mem_append_right _ (List.mem_of_getElem? (i := 377) (by decide +kernel))
theorem wd_378 : (Cond.code ({ cls := "HomeFreed$Reader", name := "pass", desc := "()V" } : MethodName) prog_8_method_6_code (1 : Nat) (Option.none : Option ClassFile.FieldType)) ∈ lw_tbl := List.mem_append_right _ (List.mem_of_getElem? (i := 378) (by decide +kernel))
theorem wd_417 : (Cond.static ({ cls := "java/lang/Math", name := "max", desc := "(II)I" } : MethodName)) ∈ lw_tbl := List.mem_append_right _ (List.mem_of_getElem? (i := 417) (by decide +kernel))
theorem wd_418 : (Cond.code ({ cls := "java/lang/Math", name := "max", desc := "(II)I" } : MethodName) prog_19_method_65_code (2 : Nat) (Option.some ClassFile.FieldType.int)) ∈ lw_tbl := List.mem_append_right _ (List.mem_of_getElem? (i := 418) (by decide +kernel))
theorem wd_420 : (Cond.static ({ cls := "java/lang/Math", name := "min", desc := "(II)I" } : MethodName)) ∈ lw_tbl := List.mem_append_right _ (List.mem_of_getElem? (i := 420) (by decide +kernel))
theorem wd_421 : (Cond.code ({ cls := "java/lang/Math", name := "min", desc := "(II)I" } : MethodName) prog_19_method_69_code (2 : Nat) (Option.some ClassFile.FieldType.int)) ∈ lw_tbl := List.mem_append_right _ (List.mem_of_getElem? (i := 421) (by decide +kernel))
theorem wd_475 : (Cond.instanceMethod ({ cls := "HomeFreed$Reader", name := "mark", desc := "()V" } : MethodName)) ∈ lw_tbl := List.mem_append_right _ (List.mem_of_getElem? (i := 475) (by decide +kernel))
theorem wd_476 : (Cond.selects "HomeFreed$Reader" ({ cls := "HomeFreed$Reader", name := "mark", desc := "()V" } : MethodName) ({ cls := "HomeFreed$Reader", name := "mark", desc := "()V" } : MethodName)) ∈ lw_tbl := List.mem_append_right _ (List.mem_of_getElem? (i := 476) (by decide +kernel))
theorem wd_477 : (Cond.code ({ cls := "HomeFreed$Reader", name := "mark", desc := "()V" } : MethodName) prog_8_method_4_code (1 : Nat) (Option.none : Option ClassFile.FieldType)) ∈ lw_tbl := List.mem_append_right _ (List.mem_of_getElem? (i := 477) (by decide +kernel))
theorem wd_479 : (Cond.instanceMethod ({ cls := "HomeFreed$Reader", name := "readNumber", desc := "(II)I" } : MethodName)) ∈ lw_tbl := List.mem_append_right _ (List.mem_of_getElem? (i := 479) (by decide +kernel))
theorem wd_480 : (Cond.selects "HomeFreed$Reader" ({ cls := "HomeFreed$Reader", name := "readNumber", desc := "(II)I" } : MethodName) ({ cls := "HomeFreed$Reader", name := "readNumber", desc := "(II)I" } : MethodName)) ∈ lw_tbl := List.mem_append_right _ (List.mem_of_getElem? (i := 480) (by decide +kernel))
theorem wd_481 : (Cond.code ({ cls := "HomeFreed$Reader", name := "readNumber", desc := "(II)I" } : MethodName) prog_8_method_9_code (4 : Nat) (Option.some ClassFile.FieldType.int)) ∈ lw_tbl := List.mem_append_right _ (List.mem_of_getElem? (i := 481) (by decide +kernel))
theorem wd_482 : (Cond.methodLink "HomeFreed$Reader" (45 : Nat) ({ cls := "HomeFreed$Reader", name := "readDigit", desc := "()I" } : MethodName)) ∈ lw_tbl := List.mem_append_right _ (List.mem_of_getElem? (i := 482) (by decide +kernel))
theorem wd_483 : (Cond.instanceMethod ({ cls := "HomeFreed$Reader", name := "readDigit", desc := "()I" } : MethodName)) ∈ lw_tbl := List.mem_append_right _ (List.mem_of_getElem? (i := 483) (by decide +kernel))
theorem wd_484 : (Cond.selects "HomeFreed$Reader" ({ cls := "HomeFreed$Reader", name := "readDigit", desc := "()I" } : MethodName) ({ cls := "HomeFreed$Reader", name := "readDigit", desc := "()I" } : MethodName)) ∈ lw_tbl := List.mem_append_right _ (List.mem_of_getElem? (i := 484) (by decide +kernel))
theorem wd_485 : (Cond.code ({ cls := "HomeFreed$Reader", name := "readDigit", desc := "()I" } : MethodName) prog_8_method_8_code (2 : Nat) (Option.some ClassFile.FieldType.int)) ∈ lw_tbl := List.mem_append_right _ (List.mem_of_getElem? (i := 485) (by decide +kernel))
theorem wd_486 : (Cond.methodLink "HomeFreed$Reader" (31 : Nat) ({ cls := "HomeFreed$Reader", name := "peek", desc := "()I" } : MethodName)) ∈ lw_tbl := List.mem_append_right _ (List.mem_of_getElem? (i := 486) (by decide +kernel))
theorem wd_487 : (Cond.methodLink "HomeFreed$Reader" (41 : Nat) ({ cls := "HomeFreed$Reader", name := "isDigit", desc := "(I)Z" } : MethodName)) ∈ lw_tbl := List.mem_append_right _ (List.mem_of_getElem? (i := 487) (by decide +kernel))
theorem wd_488 : (Cond.static ({ cls := "HomeFreed$Reader", name := "isDigit", desc := "(I)Z" } : MethodName)) ∈ lw_tbl := List.mem_append_right _ (List.mem_of_getElem? (i := 488) (by decide +kernel))
theorem wd_489 : (Cond.code ({ cls := "HomeFreed$Reader", name := "isDigit", desc := "(I)Z" } : MethodName) prog_8_method_11_code (1 : Nat) (Option.some ClassFile.FieldType.boolean)) ∈ lw_tbl := List.mem_append_right _ (List.mem_of_getElem? (i := 489) (by decide +kernel))
theorem wd_490 : (Cond.methodLink "HomeFreed$Reader" (38 : Nat) ({ cls := "HomeFreed$Reader", name := "mark", desc := "()V" } : MethodName)) ∈ lw_tbl := List.mem_append_right _ (List.mem_of_getElem? (i := 490) (by decide +kernel))
theorem wd_491 : (Cond.methodLink "HomeFreed$Reader" (35 : Nat) ({ cls := "HomeFreed$Reader", name := "pass", desc := "()V" } : MethodName)) ∈ lw_tbl := List.mem_append_right _ (List.mem_of_getElem? (i := 491) (by decide +kernel))
theorem wd_492 : (Cond.methodLink "HomeFreed$Reader" (48 : Nat) ({ cls := "HomeFreed$Reader", name := "isWrong", desc := "()Z" } : MethodName)) ∈ lw_tbl := List.mem_append_right _ (List.mem_of_getElem? (i := 492) (by decide +kernel))
theorem wd_493 : (Cond.methodLink "HomeFreed$Reader" (52 : Nat) ({ cls := "HomeFreed$Reader", name := "signHere", desc := "()I" } : MethodName)) ∈ lw_tbl := List.mem_append_right _ (List.mem_of_getElem? (i := 493) (by decide +kernel))
theorem wd_495 : (Cond.instanceMethod ({ cls := "HomeFreed$Reader", name := "signHere", desc := "()I" } : MethodName)) ∈ lw_tbl := List.mem_append_right _ (List.mem_of_getElem? (i := 495) (by decide +kernel))
theorem wd_496 : (Cond.code ({ cls := "HomeFreed$Reader", name := "signHere", desc := "()I" } : MethodName) prog_8_method_10_code (1 : Nat) (Option.some ClassFile.FieldType.int)) ∈ lw_tbl := List.mem_append_right _ (List.mem_of_getElem? (i := 496) (by decide +kernel))
theorem wd_503 : (Cond.instanceMethod ({ cls := "HomeFreed$Reader", name := "expect", desc := "(C)V" } : MethodName)) ∈ lw_tbl := List.mem_append_right _ (List.mem_of_getElem? (i := 503) (by decide +kernel))
theorem wd_504 : (Cond.selects "HomeFreed$Reader" ({ cls := "HomeFreed$Reader", name := "expect", desc := "(C)V" } : MethodName) ({ cls := "HomeFreed$Reader", name := "expect", desc := "(C)V" } : MethodName)) ∈ lw_tbl := List.mem_append_right _ (List.mem_of_getElem? (i := 504) (by decide +kernel))
theorem wd_505 : (Cond.code ({ cls := "HomeFreed$Reader", name := "expect", desc := "(C)V" } : MethodName) prog_8_method_7_code (2 : Nat) (Option.none : Option ClassFile.FieldType)) ∈ lw_tbl := List.mem_append_right _ (List.mem_of_getElem? (i := 505) (by decide +kernel))
theorem wd_508 : (Cond.instanceMethod ({ cls := "HomeFreed$Rules", name := "sizesFit", desc := "()Z" } : MethodName)) ∈ lw_tbl := List.mem_append_right _ (List.mem_of_getElem? (i := 508) (by decide +kernel))
theorem wd_509 : (Cond.code ({ cls := "HomeFreed$Rules", name := "sizesFit", desc := "()Z" } : MethodName) prog_9_method_7_code (2 : Nat) (Option.some ClassFile.FieldType.boolean)) ∈ lw_tbl := List.mem_append_right _ (List.mem_of_getElem? (i := 509) (by decide +kernel))
theorem wd_538 : (Cond.instanceMethod ({ cls := "HomeFreed$Rules", name := "copyFrom", desc := "(LHomeFreed$Rules;)V" } : MethodName)) ∈ lw_tbl := List.mem_append_right _ (List.mem_of_getElem? (i := 538) (by decide +kernel))
theorem wd_539 : (Cond.selects "HomeFreed$Rules" ({ cls := "HomeFreed$Rules", name := "copyFrom", desc := "(LHomeFreed$Rules;)V" } : MethodName) ({ cls := "HomeFreed$Rules", name := "copyFrom", desc := "(LHomeFreed$Rules;)V" } : MethodName)) ∈ lw_tbl := List.mem_append_right _ (List.mem_of_getElem? (i := 539) (by decide +kernel))
theorem wd_540 : (Cond.code ({ cls := "HomeFreed$Rules", name := "copyFrom", desc := "(LHomeFreed$Rules;)V" } : MethodName) prog_9_method_4_code (2 : Nat) (Option.none : Option ClassFile.FieldType)) ∈ lw_tbl := List.mem_append_right _ (List.mem_of_getElem? (i := 540) (by decide +kernel))
theorem wd_542 : (Cond.instanceMethod ({ cls := "HomeFreed$Heap", name := "makeNew", desc := "()V" } : MethodName)) ∈ lw_tbl := List.mem_append_right _ (List.mem_of_getElem? (i := 542) (by decide +kernel))
theorem wd_543 : (Cond.selects "HomeFreed$Heap" ({ cls := "HomeFreed$Heap", name := "makeNew", desc := "()V" } : MethodName) ({ cls := "HomeFreed$Heap", name := "makeNew", desc := "()V" } : MethodName)) ∈ lw_tbl := List.mem_append_right _ (List.mem_of_getElem? (i := 543) (by decide +kernel))
theorem wd_544 : (Cond.code ({ cls := "HomeFreed$Heap", name := "makeNew", desc := "()V" } : MethodName) prog_3_method_2_code (1 : Nat) (Option.none : Option ClassFile.FieldType)) ∈ lw_tbl := List.mem_append_right _ (List.mem_of_getElem? (i := 544) (by decide +kernel))
theorem wd_545 : (Cond.methodLink "HomeFreed$Heap" (56 : Nat) ({ cls := "HomeFreed$Chains", name := "clearAll", desc := "()V" } : MethodName)) ∈ lw_tbl := List.mem_append_right _ (List.mem_of_getElem? (i := 545) (by decide +kernel))
theorem wd_546 : (Cond.instanceMethod ({ cls := "HomeFreed$Chains", name := "clearAll", desc := "()V" } : MethodName)) ∈ lw_tbl := List.mem_append_right _ (List.mem_of_getElem? (i := 546) (by decide +kernel))
theorem wd_547 : (Cond.selects "HomeFreed$Chains" ({ cls := "HomeFreed$Chains", name := "clearAll", desc := "()V" } : MethodName) ({ cls := "HomeFreed$Chains", name := "clearAll", desc := "()V" } : MethodName)) ∈ lw_tbl := List.mem_append_right _ (List.mem_of_getElem? (i := 547) (by decide +kernel))
theorem wd_548 : (Cond.code ({ cls := "HomeFreed$Chains", name := "clearAll", desc := "()V" } : MethodName) prog_2_method_2_code (1 : Nat) (Option.none : Option ClassFile.FieldType)) ∈ lw_tbl := List.mem_append_right _ (List.mem_of_getElem? (i := 548) (by decide +kernel))
theorem wd_549 : (Cond.methodLink "HomeFreed" (123 : Nat) ({ cls := "HomeFreed$Past", name := "forget", desc := "()V" } : MethodName)) ∈ lw_tbl := List.mem_append_right _ (List.mem_of_getElem? (i := 549) (by decide +kernel))
theorem wd_550 : (Cond.instanceMethod ({ cls := "HomeFreed$Past", name := "forget", desc := "()V" } : MethodName)) ∈ lw_tbl := List.mem_append_right _ (List.mem_of_getElem? (i := 550) (by decide +kernel))
theorem wd_551 : (Cond.selects "HomeFreed$Past" ({ cls := "HomeFreed$Past", name := "forget", desc := "()V" } : MethodName) ({ cls := "HomeFreed$Past", name := "forget", desc := "()V" } : MethodName)) ∈ lw_tbl := List.mem_append_right _ (List.mem_of_getElem? (i := 551) (by decide +kernel))
theorem wd_552 : (Cond.code ({ cls := "HomeFreed$Past", name := "forget", desc := "()V" } : MethodName) prog_6_method_2_code (1 : Nat) (Option.none : Option ClassFile.FieldType)) ∈ lw_tbl := List.mem_append_right _ (List.mem_of_getElem? (i := 552) (by decide +kernel))
theorem wd_558 : (Cond.instanceMethod ({ cls := "HomeFreed$Script", name := "copyFrom", desc := "(LHomeFreed$Script;)V" } : MethodName)) ∈ lw_tbl := List.mem_append_right _ (List.mem_of_getElem? (i := 558) (by decide +kernel))
theorem wd_559 : (Cond.selects "HomeFreed$Script" ({ cls := "HomeFreed$Script", name := "copyFrom", desc := "(LHomeFreed$Script;)V" } : MethodName) ({ cls := "HomeFreed$Script", name := "copyFrom", desc := "(LHomeFreed$Script;)V" } : MethodName)) ∈ lw_tbl := List.mem_append_right _ (List.mem_of_getElem? (i := 559) (by decide +kernel))
theorem wd_560 : (Cond.code ({ cls := "HomeFreed$Script", name := "copyFrom", desc := "(LHomeFreed$Script;)V" } : MethodName) prog_10_method_2_code (2 : Nat) (Option.none : Option ClassFile.FieldType)) ∈ lw_tbl := List.mem_append_right _ (List.mem_of_getElem? (i := 560) (by decide +kernel))
theorem wd_561 : (Cond.methodLink "HomeFreed$Script" (25 : Nat) ({ cls := "java/lang/System", name := "arraycopy", desc := "(Ljava/lang/Object;ILjava/lang/Object;II)V" } : MethodName)) ∈ lw_tbl := List.mem_append_right _ (List.mem_of_getElem? (i := 561) (by decide +kernel))
theorem wd_563 : (Cond.instanceMethod ({ cls := "HomeFreed", name := "rule", desc := "(I)I" } : MethodName)) ∈ lw_tbl := List.mem_append_right _ (List.mem_of_getElem? (i := 563) (by decide +kernel))
theorem wd_564 : (Cond.selects "HomeFreed" ({ cls := "HomeFreed", name := "rule", desc := "(I)I" } : MethodName) ({ cls := "HomeFreed", name := "rule", desc := "(I)I" } : MethodName)) ∈ lw_tbl := List.mem_append_right _ (List.mem_of_getElem? (i := 564) (by decide +kernel))
theorem wd_565 : (Cond.code ({ cls := "HomeFreed", name := "rule", desc := "(I)I" } : MethodName) prog_1_method_8_code (2 : Nat) (Option.some ClassFile.FieldType.int)) ∈ lw_tbl := List.mem_append_right _ (List.mem_of_getElem? (i := 565) (by decide +kernel))
theorem wd_566 : (Cond.methodLink "HomeFreed" (132 : Nat) ({ cls := "HomeFreed$Rules", name := "areTold", desc := "()Z" } : MethodName)) ∈ lw_tbl := List.mem_append_right _ (List.mem_of_getElem? (i := 566) (by decide +kernel))
theorem wd_567 : (Cond.instanceMethod ({ cls := "HomeFreed$Rules", name := "areTold", desc := "()Z" } : MethodName)) ∈ lw_tbl := List.mem_append_right _ (List.mem_of_getElem? (i := 567) (by decide +kernel))
theorem wd_568 : (Cond.selects "HomeFreed$Rules" ({ cls := "HomeFreed$Rules", name := "areTold", desc := "()Z" } : MethodName) ({ cls := "HomeFreed$Rules", name := "areTold", desc := "()Z" } : MethodName)) ∈ lw_tbl := List.mem_append_right _ (List.mem_of_getElem? (i := 568) (by decide +kernel))
theorem wd_569 : (Cond.code ({ cls := "HomeFreed$Rules", name := "areTold", desc := "()Z" } : MethodName) prog_9_method_2_code (1 : Nat) (Option.some ClassFile.FieldType.boolean)) ∈ lw_tbl := List.mem_append_right _ (List.mem_of_getElem? (i := 569) (by decide +kernel))
theorem wd_571 : (Cond.instanceMethod ({ cls := "HomeFreed", name := "size", desc := "(I)I" } : MethodName)) ∈ lw_tbl := List.mem_append_right _ (List.mem_of_getElem? (i := 571) (by decide +kernel))
theorem wd_572 : (Cond.selects "HomeFreed" ({ cls := "HomeFreed", name := "size", desc := "(I)I" } : MethodName) ({ cls := "HomeFreed", name := "size", desc := "(I)I" } : MethodName)) ∈ lw_tbl := List.mem_append_right _ (List.mem_of_getElem? (i := 572) (by decide +kernel))
theorem wd_573 : (Cond.code ({ cls := "HomeFreed", name := "size", desc := "(I)I" } : MethodName) prog_1_method_9_code (2 : Nat) (Option.some ClassFile.FieldType.int)) ∈ lw_tbl := List.mem_append_right _ (List.mem_of_getElem? (i := 573) (by decide +kernel))
theorem wd_574 : (Cond.methodLink "HomeFreed" (139 : Nat) ({ cls := "HomeFreed$Rules", name := "isKind", desc := "(I)Z" } : MethodName)) ∈ lw_tbl := List.mem_append_right _ (List.mem_of_getElem? (i := 574) (by decide +kernel))
theorem wd_575 : (Cond.instanceMethod ({ cls := "HomeFreed$Rules", name := "isKind", desc := "(I)Z" } : MethodName)) ∈ lw_tbl := List.mem_append_right _ (List.mem_of_getElem? (i := 575) (by decide +kernel))
theorem wd_576 : (Cond.selects "HomeFreed$Rules" ({ cls := "HomeFreed$Rules", name := "isKind", desc := "(I)Z" } : MethodName) ({ cls := "HomeFreed$Rules", name := "isKind", desc := "(I)Z" } : MethodName)) ∈ lw_tbl := List.mem_append_right _ (List.mem_of_getElem? (i := 576) (by decide +kernel))
theorem wd_577 : (Cond.code ({ cls := "HomeFreed$Rules", name := "isKind", desc := "(I)Z" } : MethodName) prog_9_method_3_code (2 : Nat) (Option.some ClassFile.FieldType.boolean)) ∈ lw_tbl := List.mem_append_right _ (List.mem_of_getElem? (i := 577) (by decide +kernel))
theorem wd_579 : (Cond.instanceMethod ({ cls := "HomeFreed", name := "list", desc := "(III)I" } : MethodName)) ∈ lw_tbl := List.mem_append_right _ (List.mem_of_getElem? (i := 579) (by decide +kernel))
theorem wd_580 : (Cond.selects "HomeFreed" ({ cls := "HomeFreed", name := "list", desc := "(III)I" } : MethodName) ({ cls := "HomeFreed", name := "list", desc := "(III)I" } : MethodName)) ∈ lw_tbl := List.mem_append_right _ (List.mem_of_getElem? (i := 580) (by decide +kernel))
theorem wd_581 : (Cond.code ({ cls := "HomeFreed", name := "list", desc := "(III)I" } : MethodName) prog_1_method_11_code (4 : Nat) (Option.some ClassFile.FieldType.int)) ∈ lw_tbl := List.mem_append_right _ (List.mem_of_getElem? (i := 581) (by decide +kernel))
theorem wd_582 : (Cond.methodLink "HomeFreed" (146 : Nat) ({ cls := "HomeFreed$Heap", name := "isPage", desc := "(I)Z" } : MethodName)) ∈ lw_tbl := List.mem_append_right _ (List.mem_of_getElem? (i := 582) (by decide +kernel))
theorem wd_583 : (Cond.instanceMethod ({ cls := "HomeFreed$Heap", name := "isPage", desc := "(I)Z" } : MethodName)) ∈ lw_tbl := List.mem_append_right _ (List.mem_of_getElem? (i := 583) (by decide +kernel))
theorem wd_584 : (Cond.selects "HomeFreed$Heap" ({ cls := "HomeFreed$Heap", name := "isPage", desc := "(I)Z" } : MethodName) ({ cls := "HomeFreed$Heap", name := "isPage", desc := "(I)Z" } : MethodName)) ∈ lw_tbl := List.mem_append_right _ (List.mem_of_getElem? (i := 584) (by decide +kernel))
theorem wd_585 : (Cond.code ({ cls := "HomeFreed$Heap", name := "isPage", desc := "(I)Z" } : MethodName) prog_3_method_4_code (2 : Nat) (Option.some ClassFile.FieldType.boolean)) ∈ lw_tbl := List.mem_append_right _ (List.mem_of_getElem? (i := 585) (by decide +kernel))
theorem wd_586 : (Cond.methodLink "HomeFreed" (176 : Nat) ({ cls := "HomeFreed$Heap", name := "listOf", desc := "(II)I" } : MethodName)) ∈ lw_tbl := List.mem_append_right _ (List.mem_of_getElem? (i := 586) (by decide +kernel))
theorem wd_587 : (Cond.instanceMethod ({ cls := "HomeFreed$Heap", name := "listOf", desc := "(II)I" } : MethodName)) ∈ lw_tbl := List.mem_append_right _ (List.mem_of_getElem? (i := 587) (by decide +kernel))
theorem wd_588 : (Cond.selects "HomeFreed$Heap" ({ cls := "HomeFreed$Heap", name := "listOf", desc := "(II)I" } : MethodName) ({ cls := "HomeFreed$Heap", name := "listOf", desc := "(II)I" } : MethodName)) ∈ lw_tbl := List.mem_append_right _ (List.mem_of_getElem? (i := 588) (by decide +kernel))
theorem wd_589 : (Cond.code ({ cls := "HomeFreed$Heap", name := "listOf", desc := "(II)I" } : MethodName) prog_3_method_11_code (3 : Nat) (Option.some ClassFile.FieldType.int)) ∈ lw_tbl := List.mem_append_right _ (List.mem_of_getElem? (i := 589) (by decide +kernel))
theorem wd_590 : (Cond.methodLink "HomeFreed" (179 : Nat) ({ cls := "HomeFreed$Chains", name := "thingAt", desc := "(II)I" } : MethodName)) ∈ lw_tbl := List.mem_append_right _ (List.mem_of_getElem? (i := 590) (by decide +kernel))
theorem wd_591 : (Cond.instanceMethod ({ cls := "HomeFreed$Chains", name := "thingAt", desc := "(II)I" } : MethodName)) ∈ lw_tbl := List.mem_append_right _ (List.mem_of_getElem? (i := 591) (by decide +kernel))
theorem wd_592 : (Cond.selects "HomeFreed$Chains" ({ cls := "HomeFreed$Chains", name := "thingAt", desc := "(II)I" } : MethodName) ({ cls := "HomeFreed$Chains", name := "thingAt", desc := "(II)I" } : MethodName)) ∈ lw_tbl := List.mem_append_right _ (List.mem_of_getElem? (i := 592) (by decide +kernel))
theorem wd_593 : (Cond.code ({ cls := "HomeFreed$Chains", name := "thingAt", desc := "(II)I" } : MethodName) prog_2_method_9_code (5 : Nat) (Option.some ClassFile.FieldType.int)) ∈ lw_tbl := List.mem_append_right _ (List.mem_of_getElem? (i := 593) (by decide +kernel))
theorem wd_594 : (Cond.methodLink "HomeFreed" (184 : Nat) ({ cls := "HomeFreed$Heap", name := "ownNumber", desc := "(I)I" } : MethodName)) ∈ lw_tbl := List.mem_append_right _ (List.mem_of_getElem? (i := 594) (by decide +kernel))
theorem wd_595 : (Cond.instanceMethod ({ cls := "HomeFreed$Heap", name := "ownNumber", desc := "(I)I" } : MethodName)) ∈ lw_tbl := List.mem_append_right _ (List.mem_of_getElem? (i := 595) (by decide +kernel))
theorem wd_596 : (Cond.selects "HomeFreed$Heap" ({ cls := "HomeFreed$Heap", name := "ownNumber", desc := "(I)I" } : MethodName) ({ cls := "HomeFreed$Heap", name := "ownNumber", desc := "(I)I" } : MethodName)) ∈ lw_tbl := List.mem_append_right _ (List.mem_of_getElem? (i := 596) (by decide +kernel))
theorem wd_597 : (Cond.code ({ cls := "HomeFreed$Heap", name := "ownNumber", desc := "(I)I" } : MethodName) prog_3_method_10_code (2 : Nat) (Option.some ClassFile.FieldType.int)) ∈ lw_tbl := List.mem_append_right _ (List.mem_of_getElem? (i := 597) (by decide +kernel))
theorem wd_599 : (Cond.instanceMethod ({ cls := "HomeFreed", name := "thread", desc := "(II)I" } : MethodName)) ∈ lw_tbl := List.mem_append_right _ (List.mem_of_getElem? (i := 599) (by decide +kernel))
theorem wd_600 : (Cond.selects "HomeFreed" ({ cls := "HomeFreed", name := "thread", desc := "(II)I" } : MethodName) ({ cls := "HomeFreed", name := "thread", desc := "(II)I" } : MethodName)) ∈ lw_tbl := List.mem_append_right _ (List.mem_of_getElem? (i := 600) (by decide +kernel))
theorem wd_601 : (Cond.code ({ cls := "HomeFreed", name := "thread", desc := "(II)I" } : MethodName) prog_1_method_12_code (3 : Nat) (Option.some ClassFile.FieldType.int)) ∈ lw_tbl := List.mem_append_right _ (List.mem_of_getElem? (i := 601) (by decide +kernel))
theorem wd_602 : (Cond.methodLink "HomeFreed" (187 : Nat) ({ cls := "HomeFreed$Heap", name := "isThread", desc := "(I)Z" } : MethodName)) ∈ lw_tbl := List.mem_append_right _ (List.mem_of_getElem? (i := 602) (by decide +kernel))
theorem wd_603 : (Cond.instanceMethod ({ cls := "HomeFreed$Heap", name := "isThread", desc := "(I)Z" } : MethodName)) ∈ lw_tbl := List.mem_append_right _ (List.mem_of_getElem? (i := 603) (by decide +kernel))
theorem wd_604 : (Cond.selects "HomeFreed$Heap" ({ cls := "HomeFreed$Heap", name := "isThread", desc := "(I)Z" } : MethodName) ({ cls := "HomeFreed$Heap", name := "isThread", desc := "(I)Z" } : MethodName)) ∈ lw_tbl := List.mem_append_right _ (List.mem_of_getElem? (i := 604) (by decide +kernel))
theorem wd_605 : (Cond.code ({ cls := "HomeFreed$Heap", name := "isThread", desc := "(I)Z" } : MethodName) prog_3_method_5_code (2 : Nat) (Option.some ClassFile.FieldType.boolean)) ∈ lw_tbl := List.mem_append_right _ (List.mem_of_getElem? (i := 605) (by decide +kernel))
theorem wd_606 : (Cond.methodLink "HomeFreed" (190 : Nat) ({ cls := "HomeFreed$Heap", name := "isLiving", desc := "(I)Z" } : MethodName)) ∈ lw_tbl := List.mem_append_right _ (List.mem_of_getElem? (i := 606) (by decide +kernel))
theorem wd_607 : (Cond.instanceMethod ({ cls := "HomeFreed$Heap", name := "isLiving", desc := "(I)Z" } : MethodName)) ∈ lw_tbl := List.mem_append_right _ (List.mem_of_getElem? (i := 607) (by decide +kernel))
theorem wd_608 : (Cond.selects "HomeFreed$Heap" ({ cls := "HomeFreed$Heap", name := "isLiving", desc := "(I)Z" } : MethodName) ({ cls := "HomeFreed$Heap", name := "isLiving", desc := "(I)Z" } : MethodName)) ∈ lw_tbl := List.mem_append_right _ (List.mem_of_getElem? (i := 608) (by decide +kernel))
theorem wd_609 : (Cond.code ({ cls := "HomeFreed$Heap", name := "isLiving", desc := "(I)Z" } : MethodName) prog_3_method_6_code (2 : Nat) (Option.some ClassFile.FieldType.boolean)) ∈ lw_tbl := List.mem_append_right _ (List.mem_of_getElem? (i := 609) (by decide +kernel))
theorem wd_610 : (Cond.methodLink "HomeFreed$Heap" (81 : Nat) ({ cls := "HomeFreed$Heap", name := "isThread", desc := "(I)Z" } : MethodName)) ∈ lw_tbl := List.mem_append_right _ (List.mem_of_getElem? (i := 610) (by decide +kernel))
theorem wd_611 : (Cond.methodLink "HomeFreed" (193 : Nat) ({ cls := "HomeFreed$Heap", name := "pagesOf", desc := "(I)I" } : MethodName)) ∈ lw_tbl := List.mem_append_right _ (List.mem_of_getElem? (i := 611) (by decide +kernel))
theorem wd_612 : (Cond.instanceMethod ({ cls := "HomeFreed$Heap", name := "pagesOf", desc := "(I)I" } : MethodName)) ∈ lw_tbl := List.mem_append_right _ (List.mem_of_getElem? (i := 612) (by decide +kernel))
theorem wd_613 : (Cond.selects "HomeFreed$Heap" ({ cls := "HomeFreed$Heap", name := "pagesOf", desc := "(I)I" } : MethodName) ({ cls := "HomeFreed$Heap", name := "pagesOf", desc := "(I)I" } : MethodName)) ∈ lw_tbl := List.mem_append_right _ (List.mem_of_getElem? (i := 613) (by decide +kernel))
theorem wd_614 : (Cond.code ({ cls := "HomeFreed$Heap", name := "pagesOf", desc := "(I)I" } : MethodName) prog_3_method_17_code (4 : Nat) (Option.some ClassFile.FieldType.int)) ∈ lw_tbl := List.mem_append_right _ (List.mem_of_getElem? (i := 614) (by decide +kernel))
theorem wd_615 : (Cond.methodLink "HomeFreed" (199 : Nat) ({ cls := "HomeFreed$Heap", name := "outOf", desc := "(I)I" } : MethodName)) ∈ lw_tbl := List.mem_append_right _ (List.mem_of_getElem? (i := 615) (by decide +kernel))
theorem wd_616 : (Cond.instanceMethod ({ cls := "HomeFreed$Heap", name := "outOf", desc := "(I)I" } : MethodName)) ∈ lw_tbl := List.mem_append_right _ (List.mem_of_getElem? (i := 616) (by decide +kernel))
theorem wd_617 : (Cond.selects "HomeFreed$Heap" ({ cls := "HomeFreed$Heap", name := "outOf", desc := "(I)I" } : MethodName) ({ cls := "HomeFreed$Heap", name := "outOf", desc := "(I)I" } : MethodName)) ∈ lw_tbl := List.mem_append_right _ (List.mem_of_getElem? (i := 617) (by decide +kernel))
theorem wd_618 : (Cond.code ({ cls := "HomeFreed$Heap", name := "outOf", desc := "(I)I" } : MethodName) prog_3_method_18_code (4 : Nat) (Option.some ClassFile.FieldType.int)) ∈ lw_tbl := List.mem_append_right _ (List.mem_of_getElem? (i := 618) (by decide +kernel))
theorem wd_619 : (Cond.methodLink "HomeFreed$Heap" (98 : Nat) ({ cls := "HomeFreed$Heap", name := "outboxOf", desc := "(II)I" } : MethodName)) ∈ lw_tbl := List.mem_append_right _ (List.mem_of_getElem? (i := 619) (by decide +kernel))
theorem wd_620 : (Cond.instanceMethod ({ cls := "HomeFreed$Heap", name := "outboxOf", desc := "(II)I" } : MethodName)) ∈ lw_tbl := List.mem_append_right _ (List.mem_of_getElem? (i := 620) (by decide +kernel))
theorem wd_621 : (Cond.selects "HomeFreed$Heap" ({ cls := "HomeFreed$Heap", name := "outboxOf", desc := "(II)I" } : MethodName) ({ cls := "HomeFreed$Heap", name := "outboxOf", desc := "(II)I" } : MethodName)) ∈ lw_tbl := List.mem_append_right _ (List.mem_of_getElem? (i := 621) (by decide +kernel))
theorem wd_622 : (Cond.code ({ cls := "HomeFreed$Heap", name := "outboxOf", desc := "(II)I" } : MethodName) prog_3_method_12_code (3 : Nat) (Option.some ClassFile.FieldType.int)) ∈ lw_tbl := List.mem_append_right _ (List.mem_of_getElem? (i := 622) (by decide +kernel))
theorem wd_624 : (Cond.instanceMethod ({ cls := "HomeFreed", name := "queue", desc := "(III)I" } : MethodName)) ∈ lw_tbl := List.mem_append_right _ (List.mem_of_getElem? (i := 624) (by decide +kernel))
theorem wd_625 : (Cond.selects "HomeFreed" ({ cls := "HomeFreed", name := "queue", desc := "(III)I" } : MethodName) ({ cls := "HomeFreed", name := "queue", desc := "(III)I" } : MethodName)) ∈ lw_tbl := List.mem_append_right _ (List.mem_of_getElem? (i := 625) (by decide +kernel))
theorem wd_626 : (Cond.code ({ cls := "HomeFreed", name := "queue", desc := "(III)I" } : MethodName) prog_1_method_13_code (4 : Nat) (Option.some ClassFile.FieldType.int)) ∈ lw_tbl := List.mem_append_right _ (List.mem_of_getElem? (i := 626) (by decide +kernel))
theorem wd_627 : (Cond.methodLink "HomeFreed" (205 : Nat) ({ cls := "HomeFreed$Heap", name := "queueOf", desc := "(II)I" } : MethodName)) ∈ lw_tbl := List.mem_append_right _ (List.mem_of_getElem? (i := 627) (by decide +kernel))
theorem wd_628 : (Cond.instanceMethod ({ cls := "HomeFreed$Heap", name := "queueOf", desc := "(II)I" } : MethodName)) ∈ lw_tbl := List.mem_append_right _ (List.mem_of_getElem? (i := 628) (by decide +kernel))
theorem wd_629 : (Cond.selects "HomeFreed$Heap" ({ cls := "HomeFreed$Heap", name := "queueOf", desc := "(II)I" } : MethodName) ({ cls := "HomeFreed$Heap", name := "queueOf", desc := "(II)I" } : MethodName)) ∈ lw_tbl := List.mem_append_right _ (List.mem_of_getElem? (i := 629) (by decide +kernel))
theorem wd_630 : (Cond.code ({ cls := "HomeFreed$Heap", name := "queueOf", desc := "(II)I" } : MethodName) prog_3_method_13_code (3 : Nat) (Option.some ClassFile.FieldType.int)) ∈ lw_tbl := List.mem_append_right _ (List.mem_of_getElem? (i := 630) (by decide +kernel))
theorem wd_632 : (Cond.instanceMethod ({ cls := "HomeFreed", name := "outbox", desc := "(III)I" } : MethodName)) ∈ lw_tbl := List.mem_append_right _ (List.mem_of_getElem? (i := 632) (by decide +kernel))
theorem wd_633 : (Cond.selects "HomeFreed" ({ cls := "HomeFreed", name := "outbox", desc := "(III)I" } : MethodName) ({ cls := "HomeFreed", name := "outbox", desc := "(III)I" } : MethodName)) ∈ lw_tbl := List.mem_append_right _ (List.mem_of_getElem? (i := 633) (by decide +kernel))
theorem wd_634 : (Cond.code ({ cls := "HomeFreed", name := "outbox", desc := "(III)I" } : MethodName) prog_1_method_14_code (4 : Nat) (Option.some ClassFile.FieldType.int)) ∈ lw_tbl := List.mem_append_right _ (List.mem_of_getElem? (i := 634) (by decide +kernel))
theorem wd_635 : (Cond.methodLink "HomeFreed" (208 : Nat) ({ cls := "HomeFreed$Heap", name := "outboxOf", desc := "(II)I" } : MethodName)) ∈ lw_tbl := List.mem_append_right _ (List.mem_of_getElem? (i := 635) (by decide +kernel))
theorem wd_637 : (Cond.instanceMethod ({ cls := "HomeFreed", name := "held", desc := "(I)I" } : MethodName)) ∈ lw_tbl := List.mem_append_right _ (List.mem_of_getElem? (i := 637) (by decide +kernel))
theorem wd_638 : (Cond.selects "HomeFreed" ({ cls := "HomeFreed", name := "held", desc := "(I)I" } : MethodName) ({ cls := "HomeFreed", name := "held", desc := "(I)I" } : MethodName)) ∈ lw_tbl := List.mem_append_right _ (List.mem_of_getElem? (i := 638) (by decide +kernel))
theorem wd_639 : (Cond.code ({ cls := "HomeFreed", name := "held", desc := "(I)I" } : MethodName) prog_1_method_15_code (2 : Nat) (Option.some ClassFile.FieldType.int)) ∈ lw_tbl := List.mem_append_right _ (List.mem_of_getElem? (i := 639) (by decide +kernel))
theorem wd_640 : (Cond.methodLink "HomeFreed" (211 : Nat) ({ cls := "HomeFreed$Heap", name := "isBlock", desc := "(I)Z" } : MethodName)) ∈ lw_tbl := List.mem_append_right _ (List.mem_of_getElem? (i := 640) (by decide +kernel))
theorem wd_641 : (Cond.instanceMethod ({ cls := "HomeFreed$Heap", name := "isBlock", desc := "(I)Z" } : MethodName)) ∈ lw_tbl := List.mem_append_right _ (List.mem_of_getElem? (i := 641) (by decide +kernel))
theorem wd_642 : (Cond.selects "HomeFreed$Heap" ({ cls := "HomeFreed$Heap", name := "isBlock", desc := "(I)Z" } : MethodName) ({ cls := "HomeFreed$Heap", name := "isBlock", desc := "(I)Z" } : MethodName)) ∈ lw_tbl := List.mem_append_right _ (List.mem_of_getElem? (i := 642) (by decide +kernel))
theorem wd_643 : (Cond.code ({ cls := "HomeFreed$Heap", name := "isBlock", desc := "(I)Z" } : MethodName) prog_3_method_7_code (3 : Nat) (Option.some ClassFile.FieldType.boolean)) ∈ lw_tbl := List.mem_append_right _ (List.mem_of_getElem? (i := 643) (by decide +kernel))
theorem wd_644 : (Cond.methodLink "HomeFreed" (214 : Nat) ({ cls := "HomeFreed$Heap", name := "isHeld", desc := "(I)Z" } : MethodName)) ∈ lw_tbl := List.mem_append_right _ (List.mem_of_getElem? (i := 644) (by decide +kernel))
theorem wd_645 : (Cond.instanceMethod ({ cls := "HomeFreed$Heap", name := "isHeld", desc := "(I)Z" } : MethodName)) ∈ lw_tbl := List.mem_append_right _ (List.mem_of_getElem? (i := 645) (by decide +kernel))
theorem wd_646 : (Cond.selects "HomeFreed$Heap" ({ cls := "HomeFreed$Heap", name := "isHeld", desc := "(I)Z" } : MethodName) ({ cls := "HomeFreed$Heap", name := "isHeld", desc := "(I)Z" } : MethodName)) ∈ lw_tbl := List.mem_append_right _ (List.mem_of_getElem? (i := 646) (by decide +kernel))
theorem wd_647 : (Cond.code ({ cls := "HomeFreed$Heap", name := "isHeld", desc := "(I)Z" } : MethodName) prog_3_method_8_code (2 : Nat) (Option.some ClassFile.FieldType.boolean)) ∈ lw_tbl := List.mem_append_right _ (List.mem_of_getElem? (i := 647) (by decide +kernel))
theorem wd_648 : (Cond.methodLink "HomeFreed$Heap" (85 : Nat) ({ cls := "HomeFreed$Heap", name := "isBlock", desc := "(I)Z" } : MethodName)) ∈ lw_tbl := List.mem_append_right _ (List.mem_of_getElem? (i := 648) (by decide +kernel))
theorem wd_649 : (Cond.methodLink "HomeFreed$Heap" (91 : Nat) ({ cls := "HomeFreed$Heap", name := "thingOf", desc := "(I)I" } : MethodName)) ∈ lw_tbl := List.mem_append_right _ (List.mem_of_getElem? (i := 649) (by decide +kernel))
theorem wd_650 : (Cond.instanceMethod ({ cls := "HomeFreed$Heap", name := "thingOf", desc := "(I)I" } : MethodName)) ∈ lw_tbl := List.mem_append_right _ (List.mem_of_getElem? (i := 650) (by decide +kernel))
theorem wd_651 : (Cond.selects "HomeFreed$Heap" ({ cls := "HomeFreed$Heap", name := "thingOf", desc := "(I)I" } : MethodName) ({ cls := "HomeFreed$Heap", name := "thingOf", desc := "(I)I" } : MethodName)) ∈ lw_tbl := List.mem_append_right _ (List.mem_of_getElem? (i := 651) (by decide +kernel))
theorem wd_652 : (Cond.code ({ cls := "HomeFreed$Heap", name := "thingOf", desc := "(I)I" } : MethodName) prog_3_method_9_code (2 : Nat) (Option.some ClassFile.FieldType.int)) ∈ lw_tbl := List.mem_append_right _ (List.mem_of_getElem? (i := 652) (by decide +kernel))
theorem wd_654 : (Cond.instanceMethod ({ cls := "HomeFreed", name := "get", desc := "(II)I" } : MethodName)) ∈ lw_tbl := List.mem_append_right _ (List.mem_of_getElem? (i := 654) (by decide +kernel))
theorem wd_655 : (Cond.selects "HomeFreed" ({ cls := "HomeFreed", name := "get", desc := "(II)I" } : MethodName) ({ cls := "HomeFreed", name := "get", desc := "(II)I" } : MethodName)) ∈ lw_tbl := List.mem_append_right _ (List.mem_of_getElem? (i := 655) (by decide +kernel))
theorem wd_656 : (Cond.code ({ cls := "HomeFreed", name := "get", desc := "(II)I" } : MethodName) prog_1_method_16_code (4 : Nat) (Option.some ClassFile.FieldType.int)) ∈ lw_tbl := List.mem_append_right _ (List.mem_of_getElem? (i := 656) (by decide +kernel))
theorem wd_657 : (Cond.methodLink "HomeFreed" (217 : Nat) ({ cls := "HomeFreed", name := "refuse", desc := "(I)I" } : MethodName)) ∈ lw_tbl := List.mem_append_right _ (List.mem_of_getElem? (i := 657) (by decide +kernel))
theorem wd_659 : (Cond.instanceMethod ({ cls := "HomeFreed", name := "refuse", desc := "(I)I" } : MethodName)) ∈ lw_tbl := List.mem_append_right _ (List.mem_of_getElem? (i := 659) (by decide +kernel))
theorem wd_660 : (Cond.code ({ cls := "HomeFreed", name := "refuse", desc := "(I)I" } : MethodName) prog_1_method_28_code (2 : Nat) (Option.some ClassFile.FieldType.int)) ∈ lw_tbl := List.mem_append_right _ (List.mem_of_getElem? (i := 660) (by decide +kernel))
theorem wd_661 : (Cond.methodLink "HomeFreed" (220 : Nat) ({ cls := "HomeFreed$Rules", name := "kindFor", desc := "(I)I" } : MethodName)) ∈ lw_tbl := List.mem_append_right _ (List.mem_of_getElem? (i := 661) (by decide +kernel))
theorem wd_662 : (Cond.instanceMethod ({ cls := "HomeFreed$Rules", name := "kindFor", desc := "(I)I" } : MethodName)) ∈ lw_tbl := List.mem_append_right _ (List.mem_of_getElem? (i := 662) (by decide +kernel))
theorem wd_663 : (Cond.selects "HomeFreed$Rules" ({ cls := "HomeFreed$Rules", name := "kindFor", desc := "(I)I" } : MethodName) ({ cls := "HomeFreed$Rules", name := "kindFor", desc := "(I)I" } : MethodName)) ∈ lw_tbl := List.mem_append_right _ (List.mem_of_getElem? (i := 663) (by decide +kernel))
theorem wd_664 : (Cond.code ({ cls := "HomeFreed$Rules", name := "kindFor", desc := "(I)I" } : MethodName) prog_9_method_8_code (3 : Nat) (Option.some ClassFile.FieldType.int)) ∈ lw_tbl := List.mem_append_right _ (List.mem_of_getElem? (i := 664) (by decide +kernel))
theorem wd_665 : (Cond.methodLink "HomeFreed" (223 : Nat) ({ cls := "HomeFreed$Heap", name := "pageFor", desc := "(II)I" } : MethodName)) ∈ lw_tbl := List.mem_append_right _ (List.mem_of_getElem? (i := 665) (by decide +kernel))
theorem wd_666 : (Cond.instanceMethod ({ cls := "HomeFreed$Heap", name := "pageFor", desc := "(II)I" } : MethodName)) ∈ lw_tbl := List.mem_append_right _ (List.mem_of_getElem? (i := 666) (by decide +kernel))
theorem wd_667 : (Cond.selects "HomeFreed$Heap" ({ cls := "HomeFreed$Heap", name := "pageFor", desc := "(II)I" } : MethodName) ({ cls := "HomeFreed$Heap", name := "pageFor", desc := "(II)I" } : MethodName)) ∈ lw_tbl := List.mem_append_right _ (List.mem_of_getElem? (i := 667) (by decide +kernel))
theorem wd_668 : (Cond.code ({ cls := "HomeFreed$Heap", name := "pageFor", desc := "(II)I" } : MethodName) prog_3_method_31_code (6 : Nat) (Option.some ClassFile.FieldType.int)) ∈ lw_tbl := List.mem_append_right _ (List.mem_of_getElem? (i := 668) (by decide +kernel))
theorem wd_669 : (Cond.methodLink "HomeFreed$Heap" (138 : Nat) ({ cls := "HomeFreed$Heap", name := "queueOf", desc := "(II)I" } : MethodName)) ∈ lw_tbl := List.mem_append_right _ (List.mem_of_getElem? (i := 669) (by decide +kernel))
theorem wd_670 : (Cond.methodLink "HomeFreed$Heap" (102 : Nat) ({ cls := "HomeFreed$Heap", name := "usedOf", desc := "(I)I" } : MethodName)) ∈ lw_tbl := List.mem_append_right _ (List.mem_of_getElem? (i := 670) (by decide +kernel))
theorem wd_671 : (Cond.instanceMethod ({ cls := "HomeFreed$Heap", name := "usedOf", desc := "(I)I" } : MethodName)) ∈ lw_tbl := List.mem_append_right _ (List.mem_of_getElem? (i := 671) (by decide +kernel))
theorem wd_672 : (Cond.selects "HomeFreed$Heap" ({ cls := "HomeFreed$Heap", name := "usedOf", desc := "(I)I" } : MethodName) ({ cls := "HomeFreed$Heap", name := "usedOf", desc := "(I)I" } : MethodName)) ∈ lw_tbl := List.mem_append_right _ (List.mem_of_getElem? (i := 672) (by decide +kernel))
theorem wd_673 : (Cond.code ({ cls := "HomeFreed$Heap", name := "usedOf", desc := "(I)I" } : MethodName) prog_3_method_15_code (3 : Nat) (Option.some ClassFile.FieldType.int)) ∈ lw_tbl := List.mem_append_right _ (List.mem_of_getElem? (i := 673) (by decide +kernel))
theorem wd_674 : (Cond.methodLink "HomeFreed" (226 : Nat) ({ cls := "HomeFreed$Past", name := "keep", desc := "(LHomeFreed$Heap;)V" } : MethodName)) ∈ lw_tbl := List.mem_append_right _ (List.mem_of_getElem? (i := 674) (by decide +kernel))
theorem wd_675 : (Cond.instanceMethod ({ cls := "HomeFreed$Past", name := "keep", desc := "(LHomeFreed$Heap;)V" } : MethodName)) ∈ lw_tbl := List.mem_append_right _ (List.mem_of_getElem? (i := 675) (by decide +kernel))
theorem wd_676 : (Cond.selects "HomeFreed$Past" ({ cls := "HomeFreed$Past", name := "keep", desc := "(LHomeFreed$Heap;)V" } : MethodName) ({ cls := "HomeFreed$Past", name := "keep", desc := "(LHomeFreed$Heap;)V" } : MethodName)) ∈ lw_tbl := List.mem_append_right _ (List.mem_of_getElem? (i := 676) (by decide +kernel))
theorem wd_677 : (Cond.code ({ cls := "HomeFreed$Past", name := "keep", desc := "(LHomeFreed$Heap;)V" } : MethodName) prog_6_method_3_code (2 : Nat) (Option.none : Option ClassFile.FieldType)) ∈ lw_tbl := List.mem_append_right _ (List.mem_of_getElem? (i := 677) (by decide +kernel))
theorem wd_678 : (Cond.methodLink "HomeFreed$Past" (27 : Nat) ({ cls := "HomeFreed$Heap", name := "copyFrom", desc := "(LHomeFreed$Heap;)V" } : MethodName)) ∈ lw_tbl := List.mem_append_right _ (List.mem_of_getElem? (i := 678) (by decide +kernel))
theorem wd_679 : (Cond.instanceMethod ({ cls := "HomeFreed$Heap", name := "copyFrom", desc := "(LHomeFreed$Heap;)V" } : MethodName)) ∈ lw_tbl := List.mem_append_right _ (List.mem_of_getElem? (i := 679) (by decide +kernel))
theorem wd_680 : (Cond.selects "HomeFreed$Heap" ({ cls := "HomeFreed$Heap", name := "copyFrom", desc := "(LHomeFreed$Heap;)V" } : MethodName) ({ cls := "HomeFreed$Heap", name := "copyFrom", desc := "(LHomeFreed$Heap;)V" } : MethodName)) ∈ lw_tbl := List.mem_append_right _ (List.mem_of_getElem? (i := 680) (by decide +kernel))
theorem wd_681 : (Cond.code ({ cls := "HomeFreed$Heap", name := "copyFrom", desc := "(LHomeFreed$Heap;)V" } : MethodName) prog_3_method_3_code (2 : Nat) (Option.none : Option ClassFile.FieldType)) ∈ lw_tbl := List.mem_append_right _ (List.mem_of_getElem? (i := 681) (by decide +kernel))
theorem wd_682 : (Cond.methodLink "HomeFreed$Heap" (63 : Nat) ({ cls := "java/lang/System", name := "arraycopy", desc := "(Ljava/lang/Object;ILjava/lang/Object;II)V" } : MethodName)) ∈ lw_tbl := List.mem_append_right _ (List.mem_of_getElem? (i := 682) (by decide +kernel))
theorem wd_683 : (Cond.methodLink "HomeFreed$Heap" (69 : Nat) ({ cls := "HomeFreed$Chains", name := "copyFrom", desc := "(LHomeFreed$Chains;)V" } : MethodName)) ∈ lw_tbl := List.mem_append_right _ (List.mem_of_getElem? (i := 683) (by decide +kernel))
theorem wd_684 : (Cond.instanceMethod ({ cls := "HomeFreed$Chains", name := "copyFrom", desc := "(LHomeFreed$Chains;)V" } : MethodName)) ∈ lw_tbl := List.mem_append_right _ (List.mem_of_getElem? (i := 684) (by decide +kernel))
theorem wd_685 : (Cond.selects "HomeFreed$Chains" ({ cls := "HomeFreed$Chains", name := "copyFrom", desc := "(LHomeFreed$Chains;)V" } : MethodName) ({ cls := "HomeFreed$Chains", name := "copyFrom", desc := "(LHomeFreed$Chains;)V" } : MethodName)) ∈ lw_tbl := List.mem_append_right _ (List.mem_of_getElem? (i := 685) (by decide +kernel))
theorem wd_686 : (Cond.code ({ cls := "HomeFreed$Chains", name := "copyFrom", desc := "(LHomeFreed$Chains;)V" } : MethodName) prog_2_method_3_code (2 : Nat) (Option.none : Option ClassFile.FieldType)) ∈ lw_tbl := List.mem_append_right _ (List.mem_of_getElem? (i := 686) (by decide +kernel))
theorem wd_687 : (Cond.methodLink "HomeFreed$Chains" (30 : Nat) ({ cls := "java/lang/System", name := "arraycopy", desc := "(Ljava/lang/Object;ILjava/lang/Object;II)V" } : MethodName)) ∈ lw_tbl := List.mem_append_right _ (List.mem_of_getElem? (i := 687) (by decide +kernel))
theorem wd_688 : (Cond.methodLink "HomeFreed$Heap" (73 : Nat) ({ cls := "HomeFreed$Log", name := "copyFrom", desc := "(LHomeFreed$Log;)V" } : MethodName)) ∈ lw_tbl := List.mem_append_right _ (List.mem_of_getElem? (i := 688) (by decide +kernel))
theorem wd_689 : (Cond.instanceMethod ({ cls := "HomeFreed$Log", name := "copyFrom", desc := "(LHomeFreed$Log;)V" } : MethodName)) ∈ lw_tbl := List.mem_append_right _ (List.mem_of_getElem? (i := 689) (by decide +kernel))
theorem wd_690 : (Cond.selects "HomeFreed$Log" ({ cls := "HomeFreed$Log", name := "copyFrom", desc := "(LHomeFreed$Log;)V" } : MethodName) ({ cls := "HomeFreed$Log", name := "copyFrom", desc := "(LHomeFreed$Log;)V" } : MethodName)) ∈ lw_tbl := List.mem_append_right _ (List.mem_of_getElem? (i := 690) (by decide +kernel))
theorem wd_691 : (Cond.code ({ cls := "HomeFreed$Log", name := "copyFrom", desc := "(LHomeFreed$Log;)V" } : MethodName) prog_4_method_2_code (2 : Nat) (Option.none : Option ClassFile.FieldType)) ∈ lw_tbl := List.mem_append_right _ (List.mem_of_getElem? (i := 691) (by decide +kernel))
theorem wd_692 : (Cond.methodLink "HomeFreed$Log" (19 : Nat) ({ cls := "java/lang/System", name := "arraycopy", desc := "(Ljava/lang/Object;ILjava/lang/Object;II)V" } : MethodName)) ∈ lw_tbl := List.mem_append_right _ (List.mem_of_getElem? (i := 692) (by decide +kernel))
theorem wd_693 : (Cond.methodLink "HomeFreed" (230 : Nat) ({ cls := "HomeFreed$Heap", name := "takeBlock", desc := "(II)I" } : MethodName)) ∈ lw_tbl := List.mem_append_right _ (List.mem_of_getElem? (i := 693) (by decide +kernel))
theorem wd_694 : (Cond.instanceMethod ({ cls := "HomeFreed$Heap", name := "takeBlock", desc := "(II)I" } : MethodName)) ∈ lw_tbl := List.mem_append_right _ (List.mem_of_getElem? (i := 694) (by decide +kernel))
theorem wd_695 : (Cond.selects "HomeFreed$Heap" ({ cls := "HomeFreed$Heap", name := "takeBlock", desc := "(II)I" } : MethodName) ({ cls := "HomeFreed$Heap", name := "takeBlock", desc := "(II)I" } : MethodName)) ∈ lw_tbl := List.mem_append_right _ (List.mem_of_getElem? (i := 695) (by decide +kernel))
theorem wd_696 : (Cond.code ({ cls := "HomeFreed$Heap", name := "takeBlock", desc := "(II)I" } : MethodName) prog_3_method_33_code (8 : Nat) (Option.some ClassFile.FieldType.int)) ∈ lw_tbl := List.mem_append_right _ (List.mem_of_getElem? (i := 696) (by decide +kernel))
theorem wd_697 : (Cond.methodLink "HomeFreed$Heap" (144 : Nat) ({ cls := "HomeFreed$Rules", name := "kindFor", desc := "(I)I" } : MethodName)) ∈ lw_tbl := List.mem_append_right _ (List.mem_of_getElem? (i := 697) (by decide +kernel))
theorem wd_698 : (Cond.methodLink "HomeFreed$Heap" (147 : Nat) ({ cls := "HomeFreed$Heap", name := "isLiving", desc := "(I)Z" } : MethodName)) ∈ lw_tbl := List.mem_append_right _ (List.mem_of_getElem? (i := 698) (by decide +kernel))
theorem wd_699 : (Cond.methodLink "HomeFreed$Heap" (150 : Nat) ({ cls := "HomeFreed$Heap", name := "pageFor", desc := "(II)I" } : MethodName)) ∈ lw_tbl := List.mem_append_right _ (List.mem_of_getElem? (i := 699) (by decide +kernel))
theorem wd_700 : (Cond.methodLink "HomeFreed$Heap" (153 : Nat) ({ cls := "HomeFreed$Heap", name := "howFrom", desc := "(II)I" } : MethodName)) ∈ lw_tbl := List.mem_append_right _ (List.mem_of_getElem? (i := 700) (by decide +kernel))
theorem wd_701 : (Cond.instanceMethod ({ cls := "HomeFreed$Heap", name := "howFrom", desc := "(II)I" } : MethodName)) ∈ lw_tbl := List.mem_append_right _ (List.mem_of_getElem? (i := 701) (by decide +kernel))
theorem wd_702 : (Cond.selects "HomeFreed$Heap" ({ cls := "HomeFreed$Heap", name := "howFrom", desc := "(II)I" } : MethodName) ({ cls := "HomeFreed$Heap", name := "howFrom", desc := "(II)I" } : MethodName)) ∈ lw_tbl := List.mem_append_right _ (List.mem_of_getElem? (i := 702) (by decide +kernel))
theorem wd_703 : (Cond.code ({ cls := "HomeFreed$Heap", name := "howFrom", desc := "(II)I" } : MethodName) prog_3_method_32_code (3 : Nat) (Option.some ClassFile.FieldType.int)) ∈ lw_tbl := List.mem_append_right _ (List.mem_of_getElem? (i := 703) (by decide +kernel))
theorem wd_704 : (Cond.methodLink "HomeFreed$Heap" (141 : Nat) ({ cls := "HomeFreed$Heap", name := "isPage", desc := "(I)Z" } : MethodName)) ∈ lw_tbl := List.mem_append_right _ (List.mem_of_getElem? (i := 704) (by decide +kernel))
theorem wd_705 : (Cond.methodLink "HomeFreed$Heap" (120 : Nat) ({ cls := "HomeFreed$Heap", name := "lengthOf", desc := "(II)I" } : MethodName)) ∈ lw_tbl := List.mem_append_right _ (List.mem_of_getElem? (i := 705) (by decide +kernel))
theorem wd_706 : (Cond.instanceMethod ({ cls := "HomeFreed$Heap", name := "lengthOf", desc := "(II)I" } : MethodName)) ∈ lw_tbl := List.mem_append_right _ (List.mem_of_getElem? (i := 706) (by decide +kernel))
theorem wd_707 : (Cond.selects "HomeFreed$Heap" ({ cls := "HomeFreed$Heap", name := "lengthOf", desc := "(II)I" } : MethodName) ({ cls := "HomeFreed$Heap", name := "lengthOf", desc := "(II)I" } : MethodName)) ∈ lw_tbl := List.mem_append_right _ (List.mem_of_getElem? (i := 707) (by decide +kernel))
theorem wd_708 : (Cond.code ({ cls := "HomeFreed$Heap", name := "lengthOf", desc := "(II)I" } : MethodName) prog_3_method_14_code (3 : Nat) (Option.some ClassFile.FieldType.int)) ∈ lw_tbl := List.mem_append_right _ (List.mem_of_getElem? (i := 708) (by decide +kernel))
theorem wd_709 : (Cond.methodLink "HomeFreed$Heap" (156 : Nat) ({ cls := "HomeFreed$Heap", name := "bringToFront", desc := "(III)V" } : MethodName)) ∈ lw_tbl := List.mem_append_right _ (List.mem_of_getElem? (i := 709) (by decide +kernel))
theorem wd_711 : (Cond.instanceMethod ({ cls := "HomeFreed$Heap", name := "bringToFront", desc := "(III)V" } : MethodName)) ∈ lw_tbl := List.mem_append_right _ (List.mem_of_getElem? (i := 711) (by decide +kernel))
theorem wd_712 : (Cond.code ({ cls := "HomeFreed$Heap", name := "bringToFront", desc := "(III)V" } : MethodName) prog_3_method_34_code (6 : Nat) (Option.none : Option ClassFile.FieldType)) ∈ lw_tbl := List.mem_append_right _ (List.mem_of_getElem? (i := 712) (by decide +kernel))
theorem wd_713 : (Cond.methodLink "HomeFreed$Heap" (170 : Nat) ({ cls := "HomeFreed$Chains", name := "pop", desc := "(I)I" } : MethodName)) ∈ lw_tbl := List.mem_append_right _ (List.mem_of_getElem? (i := 713) (by decide +kernel))
theorem wd_714 : (Cond.instanceMethod ({ cls := "HomeFreed$Chains", name := "pop", desc := "(I)I" } : MethodName)) ∈ lw_tbl := List.mem_append_right _ (List.mem_of_getElem? (i := 714) (by decide +kernel))
theorem wd_715 : (Cond.selects "HomeFreed$Chains" ({ cls := "HomeFreed$Chains", name := "pop", desc := "(I)I" } : MethodName) ({ cls := "HomeFreed$Chains", name := "pop", desc := "(I)I" } : MethodName)) ∈ lw_tbl := List.mem_append_right _ (List.mem_of_getElem? (i := 715) (by decide +kernel))
theorem wd_716 : (Cond.code ({ cls := "HomeFreed$Chains", name := "pop", desc := "(I)I" } : MethodName) prog_2_method_6_code (3 : Nat) (Option.some ClassFile.FieldType.int)) ∈ lw_tbl := List.mem_append_right _ (List.mem_of_getElem? (i := 716) (by decide +kernel))
theorem wd_717 : (Cond.methodLink "HomeFreed$Heap" (173 : Nat) ({ cls := "HomeFreed$Heap", name := "fill", desc := "(II)V" } : MethodName)) ∈ lw_tbl := List.mem_append_right _ (List.mem_of_getElem? (i := 717) (by decide +kernel))
theorem wd_719 : (Cond.instanceMethod ({ cls := "HomeFreed$Heap", name := "fill", desc := "(II)V" } : MethodName)) ∈ lw_tbl := List.mem_append_right _ (List.mem_of_getElem? (i := 719) (by decide +kernel))
theorem wd_720 : (Cond.code ({ cls := "HomeFreed$Heap", name := "fill", desc := "(II)V" } : MethodName) prog_3_method_35_code (4 : Nat) (Option.none : Option ClassFile.FieldType)) ∈ lw_tbl := List.mem_append_right _ (List.mem_of_getElem? (i := 720) (by decide +kernel))
theorem wd_721 : (Cond.methodLink "HomeFreed$Heap" (178 : Nat) ({ cls := "HomeFreed$Rules", name := "blocksOf", desc := "(I)I" } : MethodName)) ∈ lw_tbl := List.mem_append_right _ (List.mem_of_getElem? (i := 721) (by decide +kernel))
theorem wd_722 : (Cond.instanceMethod ({ cls := "HomeFreed$Rules", name := "blocksOf", desc := "(I)I" } : MethodName)) ∈ lw_tbl := List.mem_append_right _ (List.mem_of_getElem? (i := 722) (by decide +kernel))
theorem wd_723 : (Cond.selects "HomeFreed$Rules" ({ cls := "HomeFreed$Rules", name := "blocksOf", desc := "(I)I" } : MethodName) ({ cls := "HomeFreed$Rules", name := "blocksOf", desc := "(I)I" } : MethodName)) ∈ lw_tbl := List.mem_append_right _ (List.mem_of_getElem? (i := 723) (by decide +kernel))
theorem wd_724 : (Cond.code ({ cls := "HomeFreed$Rules", name := "blocksOf", desc := "(I)I" } : MethodName) prog_9_method_10_code (2 : Nat) (Option.some ClassFile.FieldType.int)) ∈ lw_tbl := List.mem_append_right _ (List.mem_of_getElem? (i := 724) (by decide +kernel))
theorem wd_725 : (Cond.methodLink "HomeFreed$Heap" (126 : Nat) ({ cls := "HomeFreed$Heap", name := "listOf", desc := "(II)I" } : MethodName)) ∈ lw_tbl := List.mem_append_right _ (List.mem_of_getElem? (i := 725) (by decide +kernel))
theorem wd_726 : (Cond.methodLink "HomeFreed$Heap" (181 : Nat) ({ cls := "HomeFreed$Chains", name := "push", desc := "(II)V" } : MethodName)) ∈ lw_tbl := List.mem_append_right _ (List.mem_of_getElem? (i := 726) (by decide +kernel))
theorem wd_727 : (Cond.instanceMethod ({ cls := "HomeFreed$Chains", name := "push", desc := "(II)V" } : MethodName)) ∈ lw_tbl := List.mem_append_right _ (List.mem_of_getElem? (i := 727) (by decide +kernel))
theorem wd_728 : (Cond.selects "HomeFreed$Chains" ({ cls := "HomeFreed$Chains", name := "push", desc := "(II)V" } : MethodName) ({ cls := "HomeFreed$Chains", name := "push", desc := "(II)V" } : MethodName)) ∈ lw_tbl := List.mem_append_right _ (List.mem_of_getElem? (i := 728) (by decide +kernel))
theorem wd_729 : (Cond.code ({ cls := "HomeFreed$Chains", name := "push", desc := "(II)V" } : MethodName) prog_2_method_4_code (3 : Nat) (Option.none : Option ClassFile.FieldType)) ∈ lw_tbl := List.mem_append_right _ (List.mem_of_getElem? (i := 729) (by decide +kernel))
theorem wd_730 : (Cond.methodLink "HomeFreed$Heap" (175 : Nat) ({ cls := "HomeFreed$Chains", name := "append", desc := "(II)V" } : MethodName)) ∈ lw_tbl := List.mem_append_right _ (List.mem_of_getElem? (i := 730) (by decide +kernel))
theorem wd_731 : (Cond.instanceMethod ({ cls := "HomeFreed$Chains", name := "append", desc := "(II)V" } : MethodName)) ∈ lw_tbl := List.mem_append_right _ (List.mem_of_getElem? (i := 731) (by decide +kernel))
theorem wd_732 : (Cond.selects "HomeFreed$Chains" ({ cls := "HomeFreed$Chains", name := "append", desc := "(II)V" } : MethodName) ({ cls := "HomeFreed$Chains", name := "append", desc := "(II)V" } : MethodName)) ∈ lw_tbl := List.mem_append_right _ (List.mem_of_getElem? (i := 732) (by decide +kernel))
theorem wd_733 : (Cond.code ({ cls := "HomeFreed$Chains", name := "append", desc := "(II)V" } : MethodName) prog_2_method_5_code (6 : Nat) (Option.none : Option ClassFile.FieldType)) ∈ lw_tbl := List.mem_append_right _ (List.mem_of_getElem? (i := 733) (by decide +kernel))
theorem wd_734 : (Cond.methodLink "HomeFreed$Heap" (160 : Nat) ({ cls := "HomeFreed$Heap", name := "takeReady", desc := "(I)I" } : MethodName)) ∈ lw_tbl := List.mem_append_right _ (List.mem_of_getElem? (i := 734) (by decide +kernel))
theorem wd_736 : (Cond.instanceMethod ({ cls := "HomeFreed$Heap", name := "takeReady", desc := "(I)I" } : MethodName)) ∈ lw_tbl := List.mem_append_right _ (List.mem_of_getElem? (i := 736) (by decide +kernel))
theorem wd_737 : (Cond.code ({ cls := "HomeFreed$Heap", name := "takeReady", desc := "(I)I" } : MethodName) prog_3_method_36_code (3 : Nat) (Option.some ClassFile.FieldType.int)) ∈ lw_tbl := List.mem_append_right _ (List.mem_of_getElem? (i := 737) (by decide +kernel))
theorem wd_738 : (Cond.methodLink "HomeFreed$Heap" (184 : Nat) ({ cls := "HomeFreed$Chains", name := "moveAhead", desc := "(II)V" } : MethodName)) ∈ lw_tbl := List.mem_append_right _ (List.mem_of_getElem? (i := 738) (by decide +kernel))
theorem wd_739 : (Cond.instanceMethod ({ cls := "HomeFreed$Chains", name := "moveAhead", desc := "(II)V" } : MethodName)) ∈ lw_tbl := List.mem_append_right _ (List.mem_of_getElem? (i := 739) (by decide +kernel))
theorem wd_740 : (Cond.selects "HomeFreed$Chains" ({ cls := "HomeFreed$Chains", name := "moveAhead", desc := "(II)V" } : MethodName) ({ cls := "HomeFreed$Chains", name := "moveAhead", desc := "(II)V" } : MethodName)) ∈ lw_tbl := List.mem_append_right _ (List.mem_of_getElem? (i := 740) (by decide +kernel))
theorem wd_741 : (Cond.code ({ cls := "HomeFreed$Chains", name := "moveAhead", desc := "(II)V" } : MethodName) prog_2_method_8_code (6 : Nat) (Option.none : Option ClassFile.FieldType)) ∈ lw_tbl := List.mem_append_right _ (List.mem_of_getElem? (i := 741) (by decide +kernel))
theorem wd_742 : (Cond.methodLink "HomeFreed$Heap" (187 : Nat) ({ cls := "HomeFreed$Heap", name := "ownNumber", desc := "(I)I" } : MethodName)) ∈ lw_tbl := List.mem_append_right _ (List.mem_of_getElem? (i := 742) (by decide +kernel))
theorem wd_743 : (Cond.methodLink "HomeFreed$Heap" (163 : Nat) ({ cls := "HomeFreed$Log", name := "note", desc := "(III)V" } : MethodName)) ∈ lw_tbl := List.mem_append_right _ (List.mem_of_getElem? (i := 743) (by decide +kernel))
theorem wd_744 : (Cond.instanceMethod ({ cls := "HomeFreed$Log", name := "note", desc := "(III)V" } : MethodName)) ∈ lw_tbl := List.mem_append_right _ (List.mem_of_getElem? (i := 744) (by decide +kernel))
theorem wd_745 : (Cond.selects "HomeFreed$Log" ({ cls := "HomeFreed$Log", name := "note", desc := "(III)V" } : MethodName) ({ cls := "HomeFreed$Log", name := "note", desc := "(III)V" } : MethodName)) ∈ lw_tbl := List.mem_append_right _ (List.mem_of_getElem? (i := 745) (by decide +kernel))
theorem wd_746 : (Cond.code ({ cls := "HomeFreed$Log", name := "note", desc := "(III)V" } : MethodName) prog_4_method_3_code (4 : Nat) (Option.none : Option ClassFile.FieldType)) ∈ lw_tbl := List.mem_append_right _ (List.mem_of_getElem? (i := 746) (by decide +kernel))
theorem wd_747 : (Cond.methodLink "HomeFreed$Log" (25 : Nat) ({ cls := "java/lang/Math", name := "floorMod", desc := "(II)I" } : MethodName)) ∈ lw_tbl := List.mem_append_right _ (List.mem_of_getElem? (i := 747) (by decide +kernel))
theorem wd_748 : (Cond.static ({ cls := "java/lang/Math", name := "floorMod", desc := "(II)I" } : MethodName)) ∈ lw_tbl := List.mem_append_right _ (List.mem_of_getElem? (i := 748) (by decide +kernel))
theorem wd_749 : (Cond.code ({ cls := "java/lang/Math", name := "floorMod", desc := "(II)I" } : MethodName) prog_19_method_50_code (3 : Nat) (Option.some ClassFile.FieldType.int)) ∈ lw_tbl := List.mem_append_right _ (List.mem_of_getElem? (i := 749) (by decide +kernel))
theorem wd_750 : (Cond.methodLink "HomeFreed$Heap" (166 : Nat) ({ cls := "HomeFreed$Heap", name := "beat", desc := "(I)V" } : MethodName)) ∈ lw_tbl := List.mem_append_right _ (List.mem_of_getElem? (i := 750) (by decide +kernel))
theorem wd_751 : (Cond.instanceMethod ({ cls := "HomeFreed$Heap", name := "beat", desc := "(I)V" } : MethodName)) ∈ lw_tbl := List.mem_append_right _ (List.mem_of_getElem? (i := 751) (by decide +kernel))
theorem wd_752 : (Cond.selects "HomeFreed$Heap" ({ cls := "HomeFreed$Heap", name := "beat", desc := "(I)V" } : MethodName) ({ cls := "HomeFreed$Heap", name := "beat", desc := "(I)V" } : MethodName)) ∈ lw_tbl := List.mem_append_right _ (List.mem_of_getElem? (i := 752) (by decide +kernel))
theorem wd_753 : (Cond.code ({ cls := "HomeFreed$Heap", name := "beat", desc := "(I)V" } : MethodName) prog_3_method_42_code (4 : Nat) (Option.none : Option ClassFile.FieldType)) ∈ lw_tbl := List.mem_append_right _ (List.mem_of_getElem? (i := 753) (by decide +kernel))
theorem wd_754 : (Cond.methodLink "HomeFreed$Heap" (193 : Nat) ({ cls := "HomeFreed$Heap", name := "goHome", desc := "(II)I" } : MethodName)) ∈ lw_tbl := List.mem_append_right _ (List.mem_of_getElem? (i := 754) (by decide +kernel))
theorem wd_756 : (Cond.instanceMethod ({ cls := "HomeFreed$Heap", name := "goHome", desc := "(II)I" } : MethodName)) ∈ lw_tbl := List.mem_append_right _ (List.mem_of_getElem? (i := 756) (by decide +kernel))
theorem wd_757 : (Cond.code ({ cls := "HomeFreed$Heap", name := "goHome", desc := "(II)I" } : MethodName) prog_3_method_38_code (5 : Nat) (Option.some ClassFile.FieldType.int)) ∈ lw_tbl := List.mem_append_right _ (List.mem_of_getElem? (i := 757) (by decide +kernel))
theorem wd_758 : (Cond.methodLink "HomeFreed$Heap" (199 : Nat) ({ cls := "HomeFreed$Heap", name := "vacate", desc := "(I)V" } : MethodName)) ∈ lw_tbl := List.mem_append_right _ (List.mem_of_getElem? (i := 758) (by decide +kernel))
theorem wd_760 : (Cond.instanceMethod ({ cls := "HomeFreed$Heap", name := "vacate", desc := "(I)V" } : MethodName)) ∈ lw_tbl := List.mem_append_right _ (List.mem_of_getElem? (i := 760) (by decide +kernel))
theorem wd_761 : (Cond.code ({ cls := "HomeFreed$Heap", name := "vacate", desc := "(I)V" } : MethodName) prog_3_method_40_code (3 : Nat) (Option.none : Option ClassFile.FieldType)) ∈ lw_tbl := List.mem_append_right _ (List.mem_of_getElem? (i := 761) (by decide +kernel))
theorem wd_762 : (Cond.methodLink "HomeFreed$Heap" (205 : Nat) ({ cls := "HomeFreed$Heap", name := "queueFullAgain", desc := "(I)V" } : MethodName)) ∈ lw_tbl := List.mem_append_right _ (List.mem_of_getElem? (i := 762) (by decide +kernel))
theorem wd_764 : (Cond.instanceMethod ({ cls := "HomeFreed$Heap", name := "queueFullAgain", desc := "(I)V" } : MethodName)) ∈ lw_tbl := List.mem_append_right _ (List.mem_of_getElem? (i := 764) (by decide +kernel))
theorem wd_765 : (Cond.code ({ cls := "HomeFreed$Heap", name := "queueFullAgain", desc := "(I)V" } : MethodName) prog_3_method_43_code (4 : Nat) (Option.none : Option ClassFile.FieldType)) ∈ lw_tbl := List.mem_append_right _ (List.mem_of_getElem? (i := 765) (by decide +kernel))
theorem wd_766 : (Cond.methodLink "HomeFreed$Heap" (196 : Nat) ({ cls := "HomeFreed$Heap", name := "makeEmpty", desc := "(I)V" } : MethodName)) ∈ lw_tbl := List.mem_append_right _ (List.mem_of_getElem? (i := 766) (by decide +kernel))
theorem wd_768 : (Cond.instanceMethod ({ cls := "HomeFreed$Heap", name := "makeEmpty", desc := "(I)V" } : MethodName)) ∈ lw_tbl := List.mem_append_right _ (List.mem_of_getElem? (i := 768) (by decide +kernel))
theorem wd_769 : (Cond.code ({ cls := "HomeFreed$Heap", name := "makeEmpty", desc := "(I)V" } : MethodName) prog_3_method_39_code (2 : Nat) (Option.none : Option ClassFile.FieldType)) ∈ lw_tbl := List.mem_append_right _ (List.mem_of_getElem? (i := 769) (by decide +kernel))
theorem wd_770 : (Cond.methodLink "HomeFreed$Heap" (202 : Nat) ({ cls := "HomeFreed$Chains", name := "drop", desc := "(I)V" } : MethodName)) ∈ lw_tbl := List.mem_append_right _ (List.mem_of_getElem? (i := 770) (by decide +kernel))
theorem wd_771 : (Cond.instanceMethod ({ cls := "HomeFreed$Chains", name := "drop", desc := "(I)V" } : MethodName)) ∈ lw_tbl := List.mem_append_right _ (List.mem_of_getElem? (i := 771) (by decide +kernel))
theorem wd_772 : (Cond.selects "HomeFreed$Chains" ({ cls := "HomeFreed$Chains", name := "drop", desc := "(I)V" } : MethodName) ({ cls := "HomeFreed$Chains", name := "drop", desc := "(I)V" } : MethodName)) ∈ lw_tbl := List.mem_append_right _ (List.mem_of_getElem? (i := 772) (by decide +kernel))
theorem wd_773 : (Cond.code ({ cls := "HomeFreed$Chains", name := "drop", desc := "(I)V" } : MethodName) prog_2_method_7_code (6 : Nat) (Option.none : Option ClassFile.FieldType)) ∈ lw_tbl := List.mem_append_right _ (List.mem_of_getElem? (i := 773) (by decide +kernel))
theorem wd_775 : (Cond.instanceMethod ({ cls := "HomeFreed", name := "free", desc := "(II)I" } : MethodName)) ∈ lw_tbl := List.mem_append_right _ (List.mem_of_getElem? (i := 775) (by decide +kernel))
theorem wd_776 : (Cond.selects "HomeFreed" ({ cls := "HomeFreed", name := "free", desc := "(II)I" } : MethodName) ({ cls := "HomeFreed", name := "free", desc := "(II)I" } : MethodName)) ∈ lw_tbl := List.mem_append_right _ (List.mem_of_getElem? (i := 776) (by decide +kernel))
theorem wd_777 : (Cond.code ({ cls := "HomeFreed", name := "free", desc := "(II)I" } : MethodName) prog_1_method_17_code (3 : Nat) (Option.some ClassFile.FieldType.int)) ∈ lw_tbl := List.mem_append_right _ (List.mem_of_getElem? (i := 777) (by decide +kernel))
theorem wd_778 : (Cond.methodLink "HomeFreed" (233 : Nat) ({ cls := "HomeFreed$Heap", name := "giveBlock", desc := "(II)I" } : MethodName)) ∈ lw_tbl := List.mem_append_right _ (List.mem_of_getElem? (i := 778) (by decide +kernel))
theorem wd_779 : (Cond.instanceMethod ({ cls := "HomeFreed$Heap", name := "giveBlock", desc := "(II)I" } : MethodName)) ∈ lw_tbl := List.mem_append_right _ (List.mem_of_getElem? (i := 779) (by decide +kernel))
theorem wd_780 : (Cond.selects "HomeFreed$Heap" ({ cls := "HomeFreed$Heap", name := "giveBlock", desc := "(II)I" } : MethodName) ({ cls := "HomeFreed$Heap", name := "giveBlock", desc := "(II)I" } : MethodName)) ∈ lw_tbl := List.mem_append_right _ (List.mem_of_getElem? (i := 780) (by decide +kernel))
theorem wd_781 : (Cond.code ({ cls := "HomeFreed$Heap", name := "giveBlock", desc := "(II)I" } : MethodName) prog_3_method_37_code (6 : Nat) (Option.some ClassFile.FieldType.int)) ∈ lw_tbl := List.mem_append_right _ (List.mem_of_getElem? (i := 781) (by decide +kernel))
theorem wd_782 : (Cond.methodLink "HomeFreed$Heap" (190 : Nat) ({ cls := "HomeFreed$Heap", name := "isHeld", desc := "(I)Z" } : MethodName)) ∈ lw_tbl := List.mem_append_right _ (List.mem_of_getElem? (i := 782) (by decide +kernel))
theorem wd_784 : (Cond.instanceMethod ({ cls := "HomeFreed", name := "tick", desc := "(I)I" } : MethodName)) ∈ lw_tbl := List.mem_append_right _ (List.mem_of_getElem? (i := 784) (by decide +kernel))
theorem wd_785 : (Cond.selects "HomeFreed" ({ cls := "HomeFreed", name := "tick", desc := "(I)I" } : MethodName) ({ cls := "HomeFreed", name := "tick", desc := "(I)I" } : MethodName)) ∈ lw_tbl := List.mem_append_right _ (List.mem_of_getElem? (i := 785) (by decide +kernel))
theorem wd_786 : (Cond.code ({ cls := "HomeFreed", name := "tick", desc := "(I)I" } : MethodName) prog_1_method_18_code (2 : Nat) (Option.some ClassFile.FieldType.int)) ∈ lw_tbl := List.mem_append_right _ (List.mem_of_getElem? (i := 786) (by decide +kernel))
theorem wd_787 : (Cond.methodLink "HomeFreed" (236 : Nat) ({ cls := "HomeFreed", name := "isIdle", desc := "(I)Z" } : MethodName)) ∈ lw_tbl := List.mem_append_right _ (List.mem_of_getElem? (i := 787) (by decide +kernel))
theorem wd_789 : (Cond.instanceMethod ({ cls := "HomeFreed", name := "isIdle", desc := "(I)Z" } : MethodName)) ∈ lw_tbl := List.mem_append_right _ (List.mem_of_getElem? (i := 789) (by decide +kernel))
theorem wd_790 : (Cond.code ({ cls := "HomeFreed", name := "isIdle", desc := "(I)Z" } : MethodName) prog_1_method_29_code (2 : Nat) (Option.some ClassFile.FieldType.boolean)) ∈ lw_tbl := List.mem_append_right _ (List.mem_of_getElem? (i := 790) (by decide +kernel))
theorem wd_791 : (Cond.methodLink "HomeFreed" (239 : Nat) ({ cls := "HomeFreed$Heap", name := "beat", desc := "(I)V" } : MethodName)) ∈ lw_tbl := List.mem_append_right _ (List.mem_of_getElem? (i := 791) (by decide +kernel))
theorem wd_793 : (Cond.instanceMethod ({ cls := "HomeFreed", name := "send", desc := "(I)I" } : MethodName)) ∈ lw_tbl := List.mem_append_right _ (List.mem_of_getElem? (i := 793) (by decide +kernel))
theorem wd_794 : (Cond.selects "HomeFreed" ({ cls := "HomeFreed", name := "send", desc := "(I)I" } : MethodName) ({ cls := "HomeFreed", name := "send", desc := "(I)I" } : MethodName)) ∈ lw_tbl := List.mem_append_right _ (List.mem_of_getElem? (i := 794) (by decide +kernel))
theorem wd_795 : (Cond.code ({ cls := "HomeFreed", name := "send", desc := "(I)I" } : MethodName) prog_1_method_19_code (2 : Nat) (Option.some ClassFile.FieldType.int)) ∈ lw_tbl := List.mem_append_right _ (List.mem_of_getElem? (i := 795) (by decide +kernel))
theorem wd_796 : (Cond.methodLink "HomeFreed" (242 : Nat) ({ cls := "HomeFreed$Heap", name := "sendAll", desc := "(I)I" } : MethodName)) ∈ lw_tbl := List.mem_append_right _ (List.mem_of_getElem? (i := 796) (by decide +kernel))
theorem wd_797 : (Cond.instanceMethod ({ cls := "HomeFreed$Heap", name := "sendAll", desc := "(I)I" } : MethodName)) ∈ lw_tbl := List.mem_append_right _ (List.mem_of_getElem? (i := 797) (by decide +kernel))
theorem wd_798 : (Cond.selects "HomeFreed$Heap" ({ cls := "HomeFreed$Heap", name := "sendAll", desc := "(I)I" } : MethodName) ({ cls := "HomeFreed$Heap", name := "sendAll", desc := "(I)I" } : MethodName)) ∈ lw_tbl := List.mem_append_right _ (List.mem_of_getElem? (i := 798) (by decide +kernel))
theorem wd_799 : (Cond.code ({ cls := "HomeFreed$Heap", name := "sendAll", desc := "(I)I" } : MethodName) prog_3_method_41_code (4 : Nat) (Option.some ClassFile.FieldType.int)) ∈ lw_tbl := List.mem_append_right _ (List.mem_of_getElem? (i := 799) (by decide +kernel))
theorem wd_801 : (Cond.instanceMethod ({ cls := "HomeFreed", name := "turn", desc := "(I)I" } : MethodName)) ∈ lw_tbl := List.mem_append_right _ (List.mem_of_getElem? (i := 801) (by decide +kernel))
theorem wd_802 : (Cond.selects "HomeFreed" ({ cls := "HomeFreed", name := "turn", desc := "(I)I" } : MethodName) ({ cls := "HomeFreed", name := "turn", desc := "(I)I" } : MethodName)) ∈ lw_tbl := List.mem_append_right _ (List.mem_of_getElem? (i := 802) (by decide +kernel))
theorem wd_803 : (Cond.code ({ cls := "HomeFreed", name := "turn", desc := "(I)I" } : MethodName) prog_1_method_20_code (2 : Nat) (Option.some ClassFile.FieldType.int)) ∈ lw_tbl := List.mem_append_right _ (List.mem_of_getElem? (i := 803) (by decide +kernel))
theorem wd_804 : (Cond.methodLink "HomeFreed" (245 : Nat) ({ cls := "HomeFreed$Heap", name := "turnOver", desc := "(I)V" } : MethodName)) ∈ lw_tbl := List.mem_append_right _ (List.mem_of_getElem? (i := 804) (by decide +kernel))
theorem wd_805 : (Cond.instanceMethod ({ cls := "HomeFreed$Heap", name := "turnOver", desc := "(I)V" } : MethodName)) ∈ lw_tbl := List.mem_append_right _ (List.mem_of_getElem? (i := 805) (by decide +kernel))
theorem wd_806 : (Cond.selects "HomeFreed$Heap" ({ cls := "HomeFreed$Heap", name := "turnOver", desc := "(I)V" } : MethodName) ({ cls := "HomeFreed$Heap", name := "turnOver", desc := "(I)V" } : MethodName)) ∈ lw_tbl := List.mem_append_right _ (List.mem_of_getElem? (i := 806) (by decide +kernel))
theorem wd_807 : (Cond.code ({ cls := "HomeFreed$Heap", name := "turnOver", desc := "(I)V" } : MethodName) prog_3_method_44_code (3 : Nat) (Option.none : Option ClassFile.FieldType)) ∈ lw_tbl := List.mem_append_right _ (List.mem_of_getElem? (i := 807) (by decide +kernel))
theorem wd_808 : (Cond.methodLink "HomeFreed$Heap" (208 : Nat) ({ cls := "HomeFreed$Heap", name := "sendAll", desc := "(I)I" } : MethodName)) ∈ lw_tbl := List.mem_append_right _ (List.mem_of_getElem? (i := 808) (by decide +kernel))
theorem wd_810 : (Cond.instanceMethod ({ cls := "HomeFreed", name := "perform", desc := "(I)I" } : MethodName)) ∈ lw_tbl := List.mem_append_right _ (List.mem_of_getElem? (i := 810) (by decide +kernel))
theorem wd_811 : (Cond.selects "HomeFreed" ({ cls := "HomeFreed", name := "perform", desc := "(I)I" } : MethodName) ({ cls := "HomeFreed", name := "perform", desc := "(I)I" } : MethodName)) ∈ lw_tbl := List.mem_append_right _ (List.mem_of_getElem? (i := 811) (by decide +kernel))
theorem wd_812 : (Cond.code ({ cls := "HomeFreed", name := "perform", desc := "(I)I" } : MethodName) prog_1_method_21_code (2 : Nat) (Option.some ClassFile.FieldType.int)) ∈ lw_tbl := List.mem_append_right _ (List.mem_of_getElem? (i := 812) (by decide +kernel))
theorem wd_813 : (Cond.methodLink "HomeFreed" (248 : Nat) ({ cls := "HomeFreed", name := "isScript", desc := "(I)Z" } : MethodName)) ∈ lw_tbl := List.mem_append_right _ (List.mem_of_getElem? (i := 813) (by decide +kernel))
theorem wd_815 : (Cond.instanceMethod ({ cls := "HomeFreed", name := "isScript", desc := "(I)Z" } : MethodName)) ∈ lw_tbl := List.mem_append_right _ (List.mem_of_getElem? (i := 815) (by decide +kernel))
theorem wd_816 : (Cond.code ({ cls := "HomeFreed", name := "isScript", desc := "(I)Z" } : MethodName) prog_1_method_32_code (2 : Nat) (Option.some ClassFile.FieldType.boolean)) ∈ lw_tbl := List.mem_append_right _ (List.mem_of_getElem? (i := 816) (by decide +kernel))
theorem wd_817 : (Cond.methodLink "HomeFreed" (251 : Nat) ({ cls := "HomeFreed$Progress", name := "runWhole", desc := "(LHomeFreed$Heap;LHomeFreed$Script;)I" } : MethodName)) ∈ lw_tbl := List.mem_append_right _ (List.mem_of_getElem? (i := 817) (by decide +kernel))
theorem wd_818 : (Cond.instanceMethod ({ cls := "HomeFreed$Progress", name := "runWhole", desc := "(LHomeFreed$Heap;LHomeFreed$Script;)I" } : MethodName)) ∈ lw_tbl := List.mem_append_right _ (List.mem_of_getElem? (i := 818) (by decide +kernel))
theorem wd_819 : (Cond.selects "HomeFreed$Progress" ({ cls := "HomeFreed$Progress", name := "runWhole", desc := "(LHomeFreed$Heap;LHomeFreed$Script;)I" } : MethodName) ({ cls := "HomeFreed$Progress", name := "runWhole", desc := "(LHomeFreed$Heap;LHomeFreed$Script;)I" } : MethodName)) ∈ lw_tbl := List.mem_append_right _ (List.mem_of_getElem? (i := 819) (by decide +kernel))
theorem wd_820 : (Cond.code ({ cls := "HomeFreed$Progress", name := "runWhole", desc := "(LHomeFreed$Heap;LHomeFreed$Script;)I" } : MethodName) prog_7_method_4_code (5 : Nat) (Option.some ClassFile.FieldType.int)) ∈ lw_tbl := List.mem_append_right _ (List.mem_of_getElem? (i := 820) (by decide +kernel))
theorem wd_821 : (Cond.methodLink "HomeFreed$Progress" (34 : Nat) ({ cls := "HomeFreed$Progress", name := "restart", desc := "()V" } : MethodName)) ∈ lw_tbl := List.mem_append_right _ (List.mem_of_getElem? (i := 821) (by decide +kernel))
theorem wd_822 : (Cond.instanceMethod ({ cls := "HomeFreed$Progress", name := "restart", desc := "()V" } : MethodName)) ∈ lw_tbl := List.mem_append_right _ (List.mem_of_getElem? (i := 822) (by decide +kernel))
theorem wd_823 : (Cond.selects "HomeFreed$Progress" ({ cls := "HomeFreed$Progress", name := "restart", desc := "()V" } : MethodName) ({ cls := "HomeFreed$Progress", name := "restart", desc := "()V" } : MethodName)) ∈ lw_tbl := List.mem_append_right _ (List.mem_of_getElem? (i := 823) (by decide +kernel))
theorem wd_824 : (Cond.code ({ cls := "HomeFreed$Progress", name := "restart", desc := "()V" } : MethodName) prog_7_method_2_code (1 : Nat) (Option.none : Option ClassFile.FieldType)) ∈ lw_tbl := List.mem_append_right _ (List.mem_of_getElem? (i := 824) (by decide +kernel))
theorem wd_825 : (Cond.methodLink "HomeFreed$Progress" (42 : Nat) ({ cls := "HomeFreed$Progress", name := "doStep", desc := "(LHomeFreed$Heap;LHomeFreed$Script;I)Z" } : MethodName)) ∈ lw_tbl := List.mem_append_right _ (List.mem_of_getElem? (i := 825) (by decide +kernel))
theorem wd_826 : (Cond.instanceMethod ({ cls := "HomeFreed$Progress", name := "doStep", desc := "(LHomeFreed$Heap;LHomeFreed$Script;I)Z" } : MethodName)) ∈ lw_tbl := List.mem_append_right _ (List.mem_of_getElem? (i := 826) (by decide +kernel))
theorem wd_827 : (Cond.selects "HomeFreed$Progress" ({ cls := "HomeFreed$Progress", name := "doStep", desc := "(LHomeFreed$Heap;LHomeFreed$Script;I)Z" } : MethodName) ({ cls := "HomeFreed$Progress", name := "doStep", desc := "(LHomeFreed$Heap;LHomeFreed$Script;I)Z" } : MethodName)) ∈ lw_tbl := List.mem_append_right _ (List.mem_of_getElem? (i := 827) (by decide +kernel))
theorem wd_828 : (Cond.code ({ cls := "HomeFreed$Progress", name := "doStep", desc := "(LHomeFreed$Heap;LHomeFreed$Script;I)Z" } : MethodName) prog_7_method_5_code (5 : Nat) (Option.some ClassFile.FieldType.boolean)) ∈ lw_tbl := List.mem_append_right _ (List.mem_of_getElem? (i := 828) (by decide +kernel))
theorem wd_829 : (Cond.methodLink "HomeFreed$Progress" (46 : Nat) ({ cls := "HomeFreed$Progress", name := "endScope", desc := "(LHomeFreed$Heap;)V" } : MethodName)) ∈ lw_tbl := List.mem_append_right _ (List.mem_of_getElem? (i := 829) (by decide +kernel))
theorem wd_831 : (Cond.instanceMethod ({ cls := "HomeFreed$Progress", name := "endScope", desc := "(LHomeFreed$Heap;)V" } : MethodName)) ∈ lw_tbl := List.mem_append_right _ (List.mem_of_getElem? (i := 831) (by decide +kernel))
theorem wd_832 : (Cond.code ({ cls := "HomeFreed$Progress", name := "endScope", desc := "(LHomeFreed$Heap;)V" } : MethodName) prog_7_method_9_code (4 : Nat) (Option.none : Option ClassFile.FieldType)) ∈ lw_tbl := List.mem_append_right _ (List.mem_of_getElem? (i := 832) (by decide +kernel))
theorem wd_833 : (Cond.methodLink "HomeFreed$Progress" (82 : Nat) ({ cls := "HomeFreed$Heap", name := "isLiving", desc := "(I)Z" } : MethodName)) ∈ lw_tbl := List.mem_append_right _ (List.mem_of_getElem? (i := 833) (by decide +kernel))
theorem wd_834 : (Cond.methodLink "HomeFreed$Progress" (95 : Nat) ({ cls := "HomeFreed$Heap", name := "lowestLiving", desc := "()I" } : MethodName)) ∈ lw_tbl := List.mem_append_right _ (List.mem_of_getElem? (i := 834) (by decide +kernel))
theorem wd_835 : (Cond.instanceMethod ({ cls := "HomeFreed$Heap", name := "lowestLiving", desc := "()I" } : MethodName)) ∈ lw_tbl := List.mem_append_right _ (List.mem_of_getElem? (i := 835) (by decide +kernel))
theorem wd_836 : (Cond.selects "HomeFreed$Heap" ({ cls := "HomeFreed$Heap", name := "lowestLiving", desc := "()I" } : MethodName) ({ cls := "HomeFreed$Heap", name := "lowestLiving", desc := "()I" } : MethodName)) ∈ lw_tbl := List.mem_append_right _ (List.mem_of_getElem? (i := 836) (by decide +kernel))
theorem wd_837 : (Cond.code ({ cls := "HomeFreed$Heap", name := "lowestLiving", desc := "()I" } : MethodName) prog_3_method_45_code (2 : Nat) (Option.some ClassFile.FieldType.int)) ∈ lw_tbl := List.mem_append_right _ (List.mem_of_getElem? (i := 837) (by decide +kernel))
theorem wd_838 : (Cond.methodLink "HomeFreed$Progress" (92 : Nat) ({ cls := "HomeFreed$Heap", name := "giveBlock", desc := "(II)I" } : MethodName)) ∈ lw_tbl := List.mem_append_right _ (List.mem_of_getElem? (i := 838) (by decide +kernel))
theorem wd_839 : (Cond.methodLink "HomeFreed$Progress" (54 : Nat) ({ cls := "HomeFreed$Heap", name := "isThread", desc := "(I)Z" } : MethodName)) ∈ lw_tbl := List.mem_append_right _ (List.mem_of_getElem? (i := 839) (by decide +kernel))
theorem wd_840 : (Cond.methodLink "HomeFreed$Progress" (60 : Nat) ({ cls := "HomeFreed$Heap", name := "turnOver", desc := "(I)V" } : MethodName)) ∈ lw_tbl := List.mem_append_right _ (List.mem_of_getElem? (i := 840) (by decide +kernel))
theorem wd_841 : (Cond.methodLink "HomeFreed$Progress" (67 : Nat) ({ cls := "HomeFreed$Heap", name := "takeBlock", desc := "(II)I" } : MethodName)) ∈ lw_tbl := List.mem_append_right _ (List.mem_of_getElem? (i := 841) (by decide +kernel))
theorem wd_842 : (Cond.methodLink "HomeFreed$Progress" (71 : Nat) ({ cls := "HomeFreed$Progress", name := "noteGot", desc := "(II)Z" } : MethodName)) ∈ lw_tbl := List.mem_append_right _ (List.mem_of_getElem? (i := 842) (by decide +kernel))
theorem wd_844 : (Cond.instanceMethod ({ cls := "HomeFreed$Progress", name := "noteGot", desc := "(II)Z" } : MethodName)) ∈ lw_tbl := List.mem_append_right _ (List.mem_of_getElem? (i := 844) (by decide +kernel))
theorem wd_845 : (Cond.code ({ cls := "HomeFreed$Progress", name := "noteGot", desc := "(II)Z" } : MethodName) prog_7_method_7_code (3 : Nat) (Option.some ClassFile.FieldType.boolean)) ∈ lw_tbl := List.mem_append_right _ (List.mem_of_getElem? (i := 845) (by decide +kernel))
theorem wd_846 : (Cond.methodLink "HomeFreed$Progress" (75 : Nat) ({ cls := "HomeFreed$Progress", name := "giveNumbered", desc := "(LHomeFreed$Heap;II)Z" } : MethodName)) ∈ lw_tbl := List.mem_append_right _ (List.mem_of_getElem? (i := 846) (by decide +kernel))
theorem wd_848 : (Cond.instanceMethod ({ cls := "HomeFreed$Progress", name := "giveNumbered", desc := "(LHomeFreed$Heap;II)Z" } : MethodName)) ∈ lw_tbl := List.mem_append_right _ (List.mem_of_getElem? (i := 848) (by decide +kernel))
theorem wd_849 : (Cond.code ({ cls := "HomeFreed$Progress", name := "giveNumbered", desc := "(LHomeFreed$Heap;II)Z" } : MethodName) prog_7_method_8_code (4 : Nat) (Option.some ClassFile.FieldType.boolean)) ∈ lw_tbl := List.mem_append_right _ (List.mem_of_getElem? (i := 849) (by decide +kernel))
theorem wd_850 : (Cond.methodLink "HomeFreed$Progress" (79 : Nat) ({ cls := "HomeFreed$Progress", name := "tickOrSend", desc := "(LHomeFreed$Heap;II)Z" } : MethodName)) ∈ lw_tbl := List.mem_append_right _ (List.mem_of_getElem? (i := 850) (by decide +kernel))
theorem wd_852 : (Cond.instanceMethod ({ cls := "HomeFreed$Progress", name := "tickOrSend", desc := "(LHomeFreed$Heap;II)Z" } : MethodName)) ∈ lw_tbl := List.mem_append_right _ (List.mem_of_getElem? (i := 852) (by decide +kernel))
theorem wd_853 : (Cond.code ({ cls := "HomeFreed$Progress", name := "tickOrSend", desc := "(LHomeFreed$Heap;II)Z" } : MethodName) prog_7_method_6_code (4 : Nat) (Option.some ClassFile.FieldType.boolean)) ∈ lw_tbl := List.mem_append_right _ (List.mem_of_getElem? (i := 853) (by decide +kernel))
theorem wd_854 : (Cond.methodLink "HomeFreed$Progress" (85 : Nat) ({ cls := "HomeFreed$Heap", name := "beat", desc := "(I)V" } : MethodName)) ∈ lw_tbl := List.mem_append_right _ (List.mem_of_getElem? (i := 854) (by decide +kernel))
theorem wd_855 : (Cond.methodLink "HomeFreed$Progress" (88 : Nat) ({ cls := "HomeFreed$Heap", name := "sendAll", desc := "(I)I" } : MethodName)) ∈ lw_tbl := List.mem_append_right _ (List.mem_of_getElem? (i := 855) (by decide +kernel))
theorem wd_857 : (Cond.instanceMethod ({ cls := "HomeFreed", name := "years", desc := "(IJ)I" } : MethodName)) ∈ lw_tbl := List.mem_append_right _ (List.mem_of_getElem? (i := 857) (by decide +kernel))
theorem wd_858 : (Cond.selects "HomeFreed" ({ cls := "HomeFreed", name := "years", desc := "(IJ)I" } : MethodName) ({ cls := "HomeFreed", name := "years", desc := "(IJ)I" } : MethodName)) ∈ lw_tbl := List.mem_append_right _ (List.mem_of_getElem? (i := 858) (by decide +kernel))
theorem wd_859 : (Cond.code ({ cls := "HomeFreed", name := "years", desc := "(IJ)I" } : MethodName) prog_1_method_22_code (7 : Nat) (Option.some ClassFile.FieldType.int)) ∈ lw_tbl := List.mem_append_right _ (List.mem_of_getElem? (i := 859) (by decide +kernel))
theorem wd_860 : (Cond.methodLink "HomeFreed" (255 : Nat) ({ cls := "HomeFreed", name := "liveYear", desc := "(J)J" } : MethodName)) ∈ lw_tbl := List.mem_append_right _ (List.mem_of_getElem? (i := 860) (by decide +kernel))
theorem wd_862 : (Cond.instanceMethod ({ cls := "HomeFreed", name := "liveYear", desc := "(J)J" } : MethodName)) ∈ lw_tbl := List.mem_append_right _ (List.mem_of_getElem? (i := 862) (by decide +kernel))
theorem wd_863 : (Cond.code ({ cls := "HomeFreed", name := "liveYear", desc := "(J)J" } : MethodName) prog_1_method_23_code (7 : Nat) (Option.some ClassFile.FieldType.long)) ∈ lw_tbl := List.mem_append_right _ (List.mem_of_getElem? (i := 863) (by decide +kernel))
theorem wd_864 : (Cond.methodLink "HomeFreed" (262 : Nat) ({ cls := "HomeFreed", name := "stir", desc := "(J)J" } : MethodName)) ∈ lw_tbl := List.mem_append_right _ (List.mem_of_getElem? (i := 864) (by decide +kernel))
theorem wd_865 : (Cond.static ({ cls := "HomeFreed", name := "stir", desc := "(J)J" } : MethodName)) ∈ lw_tbl := List.mem_append_right _ (List.mem_of_getElem? (i := 865) (by decide +kernel))
theorem wd_866 : (Cond.code ({ cls := "HomeFreed", name := "stir", desc := "(J)J" } : MethodName) prog_1_method_24_code (2 : Nat) (Option.some ClassFile.FieldType.long)) ∈ lw_tbl := List.mem_append_right _ (List.mem_of_getElem? (i := 866) (by decide +kernel))
theorem wd_867 : (Cond.constantLong "HomeFreed" (272 : Nat) (6364136223846793005 : Int64)) ∈ lw_tbl := List.mem_append_right _ (List.mem_of_getElem? (i := 867) (by decide +kernel))
theorem wd_868 : (Cond.constantLong "HomeFreed" (274 : Nat) (1442695040888963407 : Int64)) ∈ lw_tbl := List.mem_append_right _ (List.mem_of_getElem? (i := 868) (by decide +kernel))
theorem wd_869 : (Cond.methodLink "HomeFreed" (265 : Nat) ({ cls := "HomeFreed", name := "drawn", desc := "(JI)I" } : MethodName)) ∈ lw_tbl := List.mem_append_right _ (List.mem_of_getElem? (i := 869) (by decide +kernel))
theorem wd_870 : (Cond.static ({ cls := "HomeFreed", name := "drawn", desc := "(JI)I" } : MethodName)) ∈ lw_tbl := List.mem_append_right _ (List.mem_of_getElem? (i := 870) (by decide +kernel))
theorem wd_871 : (Cond.code ({ cls := "HomeFreed", name := "drawn", desc := "(JI)I" } : MethodName) prog_1_method_25_code (3 : Nat) (Option.some ClassFile.FieldType.int)) ∈ lw_tbl := List.mem_append_right _ (List.mem_of_getElem? (i := 871) (by decide +kernel))
theorem wd_872 : (Cond.methodLink "HomeFreed" (259 : Nat) ({ cls := "HomeFreed$Heap", name := "heldInAll", desc := "()I" } : MethodName)) ∈ lw_tbl := List.mem_append_right _ (List.mem_of_getElem? (i := 872) (by decide +kernel))
theorem wd_873 : (Cond.instanceMethod ({ cls := "HomeFreed$Heap", name := "heldInAll", desc := "()I" } : MethodName)) ∈ lw_tbl := List.mem_append_right _ (List.mem_of_getElem? (i := 873) (by decide +kernel))
theorem wd_874 : (Cond.selects "HomeFreed$Heap" ({ cls := "HomeFreed$Heap", name := "heldInAll", desc := "()I" } : MethodName) ({ cls := "HomeFreed$Heap", name := "heldInAll", desc := "()I" } : MethodName)) ∈ lw_tbl := List.mem_append_right _ (List.mem_of_getElem? (i := 874) (by decide +kernel))
theorem wd_875 : (Cond.code ({ cls := "HomeFreed$Heap", name := "heldInAll", desc := "()I" } : MethodName) prog_3_method_20_code (3 : Nat) (Option.some ClassFile.FieldType.int)) ∈ lw_tbl := List.mem_append_right _ (List.mem_of_getElem? (i := 875) (by decide +kernel))
theorem wd_876 : (Cond.methodLink "HomeFreed$Heap" (105 : Nat) ({ cls := "HomeFreed$Heap", name := "heldIn", desc := "(I)I" } : MethodName)) ∈ lw_tbl := List.mem_append_right _ (List.mem_of_getElem? (i := 876) (by decide +kernel))
theorem wd_877 : (Cond.instanceMethod ({ cls := "HomeFreed$Heap", name := "heldIn", desc := "(I)I" } : MethodName)) ∈ lw_tbl := List.mem_append_right _ (List.mem_of_getElem? (i := 877) (by decide +kernel))
theorem wd_878 : (Cond.selects "HomeFreed$Heap" ({ cls := "HomeFreed$Heap", name := "heldIn", desc := "(I)I" } : MethodName) ({ cls := "HomeFreed$Heap", name := "heldIn", desc := "(I)I" } : MethodName)) ∈ lw_tbl := List.mem_append_right _ (List.mem_of_getElem? (i := 878) (by decide +kernel))
theorem wd_879 : (Cond.code ({ cls := "HomeFreed$Heap", name := "heldIn", desc := "(I)I" } : MethodName) prog_3_method_19_code (4 : Nat) (Option.some ClassFile.FieldType.int)) ∈ lw_tbl := List.mem_append_right _ (List.mem_of_getElem? (i := 879) (by decide +kernel))
theorem wd_880 : (Cond.methodLink "HomeFreed" (269 : Nat) ({ cls := "HomeFreed$Heap", name := "heldAt", desc := "(I)I" } : MethodName)) ∈ lw_tbl := List.mem_append_right _ (List.mem_of_getElem? (i := 880) (by decide +kernel))
theorem wd_881 : (Cond.instanceMethod ({ cls := "HomeFreed$Heap", name := "heldAt", desc := "(I)I" } : MethodName)) ∈ lw_tbl := List.mem_append_right _ (List.mem_of_getElem? (i := 881) (by decide +kernel))
theorem wd_882 : (Cond.selects "HomeFreed$Heap" ({ cls := "HomeFreed$Heap", name := "heldAt", desc := "(I)I" } : MethodName) ({ cls := "HomeFreed$Heap", name := "heldAt", desc := "(I)I" } : MethodName)) ∈ lw_tbl := List.mem_append_right _ (List.mem_of_getElem? (i := 882) (by decide +kernel))
theorem wd_883 : (Cond.code ({ cls := "HomeFreed$Heap", name := "heldAt", desc := "(I)I" } : MethodName) prog_3_method_21_code (5 : Nat) (Option.some ClassFile.FieldType.int)) ∈ lw_tbl := List.mem_append_right _ (List.mem_of_getElem? (i := 883) (by decide +kernel))
theorem wd_885 : (Cond.instanceMethod ({ cls := "HomeFreed", name := "status", desc := "(I)I" } : MethodName)) ∈ lw_tbl := List.mem_append_right _ (List.mem_of_getElem? (i := 885) (by decide +kernel))
theorem wd_886 : (Cond.selects "HomeFreed" ({ cls := "HomeFreed", name := "status", desc := "(I)I" } : MethodName) ({ cls := "HomeFreed", name := "status", desc := "(I)I" } : MethodName)) ∈ lw_tbl := List.mem_append_right _ (List.mem_of_getElem? (i := 886) (by decide +kernel))
theorem wd_887 : (Cond.code ({ cls := "HomeFreed", name := "status", desc := "(I)I" } : MethodName) prog_1_method_26_code (2 : Nat) (Option.some ClassFile.FieldType.int)) ∈ lw_tbl := List.mem_append_right _ (List.mem_of_getElem? (i := 887) (by decide +kernel))
theorem wd_889 : (Cond.instanceMethod ({ cls := "HomeFreed", name := "undo", desc := "()I" } : MethodName)) ∈ lw_tbl := List.mem_append_right _ (List.mem_of_getElem? (i := 889) (by decide +kernel))
theorem wd_890 : (Cond.selects "HomeFreed" ({ cls := "HomeFreed", name := "undo", desc := "()I" } : MethodName) ({ cls := "HomeFreed", name := "undo", desc := "()I" } : MethodName)) ∈ lw_tbl := List.mem_append_right _ (List.mem_of_getElem? (i := 890) (by decide +kernel))
theorem wd_891 : (Cond.code ({ cls := "HomeFreed", name := "undo", desc := "()I" } : MethodName) prog_1_method_27_code (1 : Nat) (Option.some ClassFile.FieldType.int)) ∈ lw_tbl := List.mem_append_right _ (List.mem_of_getElem? (i := 891) (by decide +kernel))
theorem wd_892 : (Cond.methodLink "HomeFreed" (276 : Nat) ({ cls := "HomeFreed$Past", name := "takeBack", desc := "(LHomeFreed$Heap;)I" } : MethodName)) ∈ lw_tbl := List.mem_append_right _ (List.mem_of_getElem? (i := 892) (by decide +kernel))
theorem wd_893 : (Cond.instanceMethod ({ cls := "HomeFreed$Past", name := "takeBack", desc := "(LHomeFreed$Heap;)I" } : MethodName)) ∈ lw_tbl := List.mem_append_right _ (List.mem_of_getElem? (i := 893) (by decide +kernel))
theorem wd_894 : (Cond.selects "HomeFreed$Past" ({ cls := "HomeFreed$Past", name := "takeBack", desc := "(LHomeFreed$Heap;)I" } : MethodName) ({ cls := "HomeFreed$Past", name := "takeBack", desc := "(LHomeFreed$Heap;)I" } : MethodName)) ∈ lw_tbl := List.mem_append_right _ (List.mem_of_getElem? (i := 894) (by decide +kernel))
theorem wd_895 : (Cond.code ({ cls := "HomeFreed$Past", name := "takeBack", desc := "(LHomeFreed$Heap;)I" } : MethodName) prog_6_method_4_code (2 : Nat) (Option.some ClassFile.FieldType.int)) ∈ lw_tbl := List.mem_append_right _ (List.mem_of_getElem? (i := 895) (by decide +kernel))
theorem wd_897 : (Cond.instanceMethod ({ cls := "HomeFreed", name := "log", desc := "(II)I" } : MethodName)) ∈ lw_tbl := List.mem_append_right _ (List.mem_of_getElem? (i := 897) (by decide +kernel))
theorem wd_898 : (Cond.selects "HomeFreed" ({ cls := "HomeFreed", name := "log", desc := "(II)I" } : MethodName) ({ cls := "HomeFreed", name := "log", desc := "(II)I" } : MethodName)) ∈ lw_tbl := List.mem_append_right _ (List.mem_of_getElem? (i := 898) (by decide +kernel))
theorem wd_899 : (Cond.code ({ cls := "HomeFreed", name := "log", desc := "(II)I" } : MethodName) prog_1_method_30_code (3 : Nat) (Option.some ClassFile.FieldType.int)) ∈ lw_tbl := List.mem_append_right _ (List.mem_of_getElem? (i := 899) (by decide +kernel))
theorem wd_900 : (Cond.methodLink "HomeFreed" (284 : Nat) ({ cls := "HomeFreed$Log", name := "length", desc := "()I" } : MethodName)) ∈ lw_tbl := List.mem_append_right _ (List.mem_of_getElem? (i := 900) (by decide +kernel))
theorem wd_901 : (Cond.instanceMethod ({ cls := "HomeFreed$Log", name := "length", desc := "()I" } : MethodName)) ∈ lw_tbl := List.mem_append_right _ (List.mem_of_getElem? (i := 901) (by decide +kernel))
theorem wd_902 : (Cond.selects "HomeFreed$Log" ({ cls := "HomeFreed$Log", name := "length", desc := "()I" } : MethodName) ({ cls := "HomeFreed$Log", name := "length", desc := "()I" } : MethodName)) ∈ lw_tbl := List.mem_append_right _ (List.mem_of_getElem? (i := 902) (by decide +kernel))
theorem wd_903 : (Cond.code ({ cls := "HomeFreed$Log", name := "length", desc := "()I" } : MethodName) prog_4_method_4_code (1 : Nat) (Option.some ClassFile.FieldType.int)) ∈ lw_tbl := List.mem_append_right _ (List.mem_of_getElem? (i := 903) (by decide +kernel))
theorem wd_904 : (Cond.methodLink "HomeFreed$Log" (31 : Nat) ({ cls := "java/lang/Math", name := "min", desc := "(II)I" } : MethodName)) ∈ lw_tbl := List.mem_append_right _ (List.mem_of_getElem? (i := 904) (by decide +kernel))
theorem wd_905 : (Cond.methodLink "HomeFreed" (288 : Nat) ({ cls := "HomeFreed$Log", name := "blockAt", desc := "(I)I" } : MethodName)) ∈ lw_tbl := List.mem_append_right _ (List.mem_of_getElem? (i := 905) (by decide +kernel))
theorem wd_906 : (Cond.instanceMethod ({ cls := "HomeFreed$Log", name := "blockAt", desc := "(I)I" } : MethodName)) ∈ lw_tbl := List.mem_append_right _ (List.mem_of_getElem? (i := 906) (by decide +kernel))
theorem wd_907 : (Cond.selects "HomeFreed$Log" ({ cls := "HomeFreed$Log", name := "blockAt", desc := "(I)I" } : MethodName) ({ cls := "HomeFreed$Log", name := "blockAt", desc := "(I)I" } : MethodName)) ∈ lw_tbl := List.mem_append_right _ (List.mem_of_getElem? (i := 907) (by decide +kernel))
theorem wd_908 : (Cond.code ({ cls := "HomeFreed$Log", name := "blockAt", desc := "(I)I" } : MethodName) prog_4_method_6_code (2 : Nat) (Option.some ClassFile.FieldType.int)) ∈ lw_tbl := List.mem_append_right _ (List.mem_of_getElem? (i := 908) (by decide +kernel))
theorem wd_909 : (Cond.methodLink "HomeFreed$Log" (34 : Nat) ({ cls := "HomeFreed$Log", name := "entryAt", desc := "(I)I" } : MethodName)) ∈ lw_tbl := List.mem_append_right _ (List.mem_of_getElem? (i := 909) (by decide +kernel))
theorem wd_911 : (Cond.instanceMethod ({ cls := "HomeFreed$Log", name := "entryAt", desc := "(I)I" } : MethodName)) ∈ lw_tbl := List.mem_append_right _ (List.mem_of_getElem? (i := 911) (by decide +kernel))
theorem wd_912 : (Cond.code ({ cls := "HomeFreed$Log", name := "entryAt", desc := "(I)I" } : MethodName) prog_4_method_5_code (2 : Nat) (Option.some ClassFile.FieldType.int)) ∈ lw_tbl := List.mem_append_right _ (List.mem_of_getElem? (i := 912) (by decide +kernel))
theorem wd_913 : (Cond.methodLink "HomeFreed" (291 : Nat) ({ cls := "HomeFreed$Log", name := "threadAt", desc := "(I)I" } : MethodName)) ∈ lw_tbl := List.mem_append_right _ (List.mem_of_getElem? (i := 913) (by decide +kernel))
theorem wd_914 : (Cond.instanceMethod ({ cls := "HomeFreed$Log", name := "threadAt", desc := "(I)I" } : MethodName)) ∈ lw_tbl := List.mem_append_right _ (List.mem_of_getElem? (i := 914) (by decide +kernel))
theorem wd_915 : (Cond.selects "HomeFreed$Log" ({ cls := "HomeFreed$Log", name := "threadAt", desc := "(I)I" } : MethodName) ({ cls := "HomeFreed$Log", name := "threadAt", desc := "(I)I" } : MethodName)) ∈ lw_tbl := List.mem_append_right _ (List.mem_of_getElem? (i := 915) (by decide +kernel))
theorem wd_916 : (Cond.code ({ cls := "HomeFreed$Log", name := "threadAt", desc := "(I)I" } : MethodName) prog_4_method_7_code (2 : Nat) (Option.some ClassFile.FieldType.int)) ∈ lw_tbl := List.mem_append_right _ (List.mem_of_getElem? (i := 916) (by decide +kernel))
theorem wd_917 : (Cond.methodLink "HomeFreed" (294 : Nat) ({ cls := "HomeFreed$Log", name := "howAt", desc := "(I)I" } : MethodName)) ∈ lw_tbl := List.mem_append_right _ (List.mem_of_getElem? (i := 917) (by decide +kernel))
theorem wd_918 : (Cond.instanceMethod ({ cls := "HomeFreed$Log", name := "howAt", desc := "(I)I" } : MethodName)) ∈ lw_tbl := List.mem_append_right _ (List.mem_of_getElem? (i := 918) (by decide +kernel))
theorem wd_919 : (Cond.selects "HomeFreed$Log" ({ cls := "HomeFreed$Log", name := "howAt", desc := "(I)I" } : MethodName) ({ cls := "HomeFreed$Log", name := "howAt", desc := "(I)I" } : MethodName)) ∈ lw_tbl := List.mem_append_right _ (List.mem_of_getElem? (i := 919) (by decide +kernel))
theorem wd_920 : (Cond.code ({ cls := "HomeFreed$Log", name := "howAt", desc := "(I)I" } : MethodName) prog_4_method_8_code (2 : Nat) (Option.some ClassFile.FieldType.int)) ∈ lw_tbl := List.mem_append_right _ (List.mem_of_getElem? (i := 920) (by decide +kernel))
theorem wd_922 : (Cond.instanceMethod ({ cls := "HomeFreed", name := "step", desc := "(III)I" } : MethodName)) ∈ lw_tbl := List.mem_append_right _ (List.mem_of_getElem? (i := 922) (by decide +kernel))
theorem wd_923 : (Cond.selects "HomeFreed" ({ cls := "HomeFreed", name := "step", desc := "(III)I" } : MethodName) ({ cls := "HomeFreed", name := "step", desc := "(III)I" } : MethodName)) ∈ lw_tbl := List.mem_append_right _ (List.mem_of_getElem? (i := 923) (by decide +kernel))
theorem wd_924 : (Cond.code ({ cls := "HomeFreed", name := "step", desc := "(III)I" } : MethodName) prog_1_method_31_code (4 : Nat) (Option.some ClassFile.FieldType.int)) ∈ lw_tbl := List.mem_append_right _ (List.mem_of_getElem? (i := 924) (by decide +kernel))
theorem wd_925 : (Cond.constant "HomeFreed" (300 : Nat) (-1000000 : Int32)) ∈ lw_tbl := List.mem_append_right _ (List.mem_of_getElem? (i := 925) (by decide +kernel))
theorem wd_927 : (Cond.instanceMethod ({ cls := "HomeFreed", name := "waste", desc := "(I)I" } : MethodName)) ∈ lw_tbl := List.mem_append_right _ (List.mem_of_getElem? (i := 927) (by decide +kernel))
theorem wd_928 : (Cond.selects "HomeFreed" ({ cls := "HomeFreed", name := "waste", desc := "(I)I" } : MethodName) ({ cls := "HomeFreed", name := "waste", desc := "(I)I" } : MethodName)) ∈ lw_tbl := List.mem_append_right _ (List.mem_of_getElem? (i := 928) (by decide +kernel))
theorem wd_929 : (Cond.code ({ cls := "HomeFreed", name := "waste", desc := "(I)I" } : MethodName) prog_1_method_33_code (3 : Nat) (Option.some ClassFile.FieldType.int)) ∈ lw_tbl := List.mem_append_right _ (List.mem_of_getElem? (i := 929) (by decide +kernel))
theorem wd_930 : (Cond.methodLink "HomeFreed" (310 : Nat) ({ cls := "HomeFreed$Rules", name := "worst", desc := "()I" } : MethodName)) ∈ lw_tbl := List.mem_append_right _ (List.mem_of_getElem? (i := 930) (by decide +kernel))
theorem wd_931 : (Cond.instanceMethod ({ cls := "HomeFreed$Rules", name := "worst", desc := "()I" } : MethodName)) ∈ lw_tbl := List.mem_append_right _ (List.mem_of_getElem? (i := 931) (by decide +kernel))
theorem wd_932 : (Cond.selects "HomeFreed$Rules" ({ cls := "HomeFreed$Rules", name := "worst", desc := "()I" } : MethodName) ({ cls := "HomeFreed$Rules", name := "worst", desc := "()I" } : MethodName)) ∈ lw_tbl := List.mem_append_right _ (List.mem_of_getElem? (i := 932) (by decide +kernel))
theorem wd_933 : (Cond.code ({ cls := "HomeFreed$Rules", name := "worst", desc := "()I" } : MethodName) prog_9_method_9_code (7 : Nat) (Option.some ClassFile.FieldType.int)) ∈ lw_tbl := List.mem_append_right _ (List.mem_of_getElem? (i := 933) (by decide +kernel))
theorem wd_934 : (Cond.methodLink "HomeFreed$Rules" (93 : Nat) ({ cls := "HomeFreed$Rules", name := "kindFor", desc := "(I)I" } : MethodName)) ∈ lw_tbl := List.mem_append_right _ (List.mem_of_getElem? (i := 934) (by decide +kernel))
theorem wd_936 : (Cond.instanceMethod ({ cls := "HomeFreed", name := "classes", desc := "(II)I" } : MethodName)) ∈ lw_tbl := List.mem_append_right _ (List.mem_of_getElem? (i := 936) (by decide +kernel))
theorem wd_937 : (Cond.selects "HomeFreed" ({ cls := "HomeFreed", name := "classes", desc := "(II)I" } : MethodName) ({ cls := "HomeFreed", name := "classes", desc := "(II)I" } : MethodName)) ∈ lw_tbl := List.mem_append_right _ (List.mem_of_getElem? (i := 937) (by decide +kernel))
theorem wd_938 : (Cond.code ({ cls := "HomeFreed", name := "classes", desc := "(II)I" } : MethodName) prog_1_method_34_code (7 : Nat) (Option.some ClassFile.FieldType.int)) ∈ lw_tbl := List.mem_append_right _ (List.mem_of_getElem? (i := 938) (by decide +kernel))
theorem wd_939 : (Cond.methodLink "HomeFreed" (313 : Nat) ({ cls := "HomeFreed", name := "nextSize", desc := "(III)I" } : MethodName)) ∈ lw_tbl := List.mem_append_right _ (List.mem_of_getElem? (i := 939) (by decide +kernel))
theorem wd_940 : (Cond.static ({ cls := "HomeFreed", name := "nextSize", desc := "(III)I" } : MethodName)) ∈ lw_tbl := List.mem_append_right _ (List.mem_of_getElem? (i := 940) (by decide +kernel))
theorem wd_941 : (Cond.code ({ cls := "HomeFreed", name := "nextSize", desc := "(III)I" } : MethodName) prog_1_method_35_code (5 : Nat) (Option.some ClassFile.FieldType.int)) ∈ lw_tbl := List.mem_append_right _ (List.mem_of_getElem? (i := 941) (by decide +kernel))
theorem wd_943 : (Cond.instanceMethod ({ cls := "HomeFreed", name := "would", desc := "(II)I" } : MethodName)) ∈ lw_tbl := List.mem_append_right _ (List.mem_of_getElem? (i := 943) (by decide +kernel))
theorem wd_944 : (Cond.selects "HomeFreed" ({ cls := "HomeFreed", name := "would", desc := "(II)I" } : MethodName) ({ cls := "HomeFreed", name := "would", desc := "(II)I" } : MethodName)) ∈ lw_tbl := List.mem_append_right _ (List.mem_of_getElem? (i := 944) (by decide +kernel))
theorem wd_945 : (Cond.code ({ cls := "HomeFreed", name := "would", desc := "(II)I" } : MethodName) prog_1_method_36_code (4 : Nat) (Option.some ClassFile.FieldType.int)) ∈ lw_tbl := List.mem_append_right _ (List.mem_of_getElem? (i := 945) (by decide +kernel))
theorem wd_946 : (Cond.methodLink "HomeFreed" (317 : Nat) ({ cls := "HomeFreed$Heap", name := "howFrom", desc := "(II)I" } : MethodName)) ∈ lw_tbl := List.mem_append_right _ (List.mem_of_getElem? (i := 946) (by decide +kernel))
theorem wd_948 : (Cond.instanceMethod ({ cls := "HomeFreed", name := "where", desc := "(II)I" } : MethodName)) ∈ lw_tbl := List.mem_append_right _ (List.mem_of_getElem? (i := 948) (by decide +kernel))
theorem wd_949 : (Cond.selects "HomeFreed" ({ cls := "HomeFreed", name := "where", desc := "(II)I" } : MethodName) ({ cls := "HomeFreed", name := "where", desc := "(II)I" } : MethodName)) ∈ lw_tbl := List.mem_append_right _ (List.mem_of_getElem? (i := 949) (by decide +kernel))
theorem wd_950 : (Cond.code ({ cls := "HomeFreed", name := "where", desc := "(II)I" } : MethodName) prog_1_method_37_code (5 : Nat) (Option.some ClassFile.FieldType.int)) ∈ lw_tbl := List.mem_append_right _ (List.mem_of_getElem? (i := 950) (by decide +kernel))
theorem wd_951 : (Cond.methodLink "HomeFreed" (320 : Nat) ({ cls := "HomeFreed$Heap", name := "thingOf", desc := "(I)I" } : MethodName)) ∈ lw_tbl := List.mem_append_right _ (List.mem_of_getElem? (i := 951) (by decide +kernel))
theorem wd_952 : (Cond.methodLink "HomeFreed" (326 : Nat) ({ cls := "HomeFreed", name := "whereIs", desc := "(I)I" } : MethodName)) ∈ lw_tbl := List.mem_append_right _ (List.mem_of_getElem? (i := 952) (by decide +kernel))
theorem wd_953 : (Cond.static ({ cls := "HomeFreed", name := "whereIs", desc := "(I)I" } : MethodName)) ∈ lw_tbl := List.mem_append_right _ (List.mem_of_getElem? (i := 953) (by decide +kernel))
theorem wd_954 : (Cond.code ({ cls := "HomeFreed", name := "whereIs", desc := "(I)I" } : MethodName) prog_1_method_38_code (1 : Nat) (Option.some ClassFile.FieldType.int)) ∈ lw_tbl := List.mem_append_right _ (List.mem_of_getElem? (i := 954) (by decide +kernel))
theorem wd_955 : (Cond.methodLink "HomeFreed" (329 : Nat) ({ cls := "HomeFreed$Chains", name := "placeOf", desc := "(I)I" } : MethodName)) ∈ lw_tbl := List.mem_append_right _ (List.mem_of_getElem? (i := 955) (by decide +kernel))
theorem wd_956 : (Cond.instanceMethod ({ cls := "HomeFreed$Chains", name := "placeOf", desc := "(I)I" } : MethodName)) ∈ lw_tbl := List.mem_append_right _ (List.mem_of_getElem? (i := 956) (by decide +kernel))
theorem wd_957 : (Cond.selects "HomeFreed$Chains" ({ cls := "HomeFreed$Chains", name := "placeOf", desc := "(I)I" } : MethodName) ({ cls := "HomeFreed$Chains", name := "placeOf", desc := "(I)I" } : MethodName)) ∈ lw_tbl := List.mem_append_right _ (List.mem_of_getElem? (i := 957) (by decide +kernel))
theorem wd_958 : (Cond.code ({ cls := "HomeFreed$Chains", name := "placeOf", desc := "(I)I" } : MethodName) prog_2_method_10_code (4 : Nat) (Option.some ClassFile.FieldType.int)) ∈ lw_tbl := List.mem_append_right _ (List.mem_of_getElem? (i := 958) (by decide +kernel))
theorem wd_960 : (Cond.instanceMethod ({ cls := "HomeFreed", name := "series", desc := "(III)I" } : MethodName)) ∈ lw_tbl := List.mem_append_right _ (List.mem_of_getElem? (i := 960) (by decide +kernel))
theorem wd_961 : (Cond.selects "HomeFreed" ({ cls := "HomeFreed", name := "series", desc := "(III)I" } : MethodName) ({ cls := "HomeFreed", name := "series", desc := "(III)I" } : MethodName)) ∈ lw_tbl := List.mem_append_right _ (List.mem_of_getElem? (i := 961) (by decide +kernel))
theorem wd_962 : (Cond.code ({ cls := "HomeFreed", name := "series", desc := "(III)I" } : MethodName) prog_1_method_39_code (7 : Nat) (Option.some ClassFile.FieldType.int)) ∈ lw_tbl := List.mem_append_right _ (List.mem_of_getElem? (i := 962) (by decide +kernel))
theorem wd_963 : (Cond.methodLink "HomeFreed" (335 : Nat) ({ cls := "HomeFreed$Heap", name := "copyFrom", desc := "(LHomeFreed$Heap;)V" } : MethodName)) ∈ lw_tbl := List.mem_append_right _ (List.mem_of_getElem? (i := 963) (by decide +kernel))
theorem wd_965 : (Cond.instanceMethod ({ cls := "HomeFreed", name := "cheapest", desc := "(I)I" } : MethodName)) ∈ lw_tbl := List.mem_append_right _ (List.mem_of_getElem? (i := 965) (by decide +kernel))
theorem wd_966 : (Cond.selects "HomeFreed" ({ cls := "HomeFreed", name := "cheapest", desc := "(I)I" } : MethodName) ({ cls := "HomeFreed", name := "cheapest", desc := "(I)I" } : MethodName)) ∈ lw_tbl := List.mem_append_right _ (List.mem_of_getElem? (i := 966) (by decide +kernel))
theorem wd_967 : (Cond.code ({ cls := "HomeFreed", name := "cheapest", desc := "(I)I" } : MethodName) prog_1_method_40_code (3 : Nat) (Option.some ClassFile.FieldType.int)) ∈ lw_tbl := List.mem_append_right _ (List.mem_of_getElem? (i := 967) (by decide +kernel))
theorem wd_968 : (Cond.methodLink "HomeFreed" (337 : Nat) ({ cls := "HomeFreed", name := "cheapestPage", desc := "()I" } : MethodName)) ∈ lw_tbl := List.mem_append_right _ (List.mem_of_getElem? (i := 968) (by decide +kernel))
theorem wd_970 : (Cond.instanceMethod ({ cls := "HomeFreed", name := "cheapestPage", desc := "()I" } : MethodName)) ∈ lw_tbl := List.mem_append_right _ (List.mem_of_getElem? (i := 970) (by decide +kernel))
theorem wd_971 : (Cond.code ({ cls := "HomeFreed", name := "cheapestPage", desc := "()I" } : MethodName) prog_1_method_41_code (5 : Nat) (Option.some ClassFile.FieldType.int)) ∈ lw_tbl := List.mem_append_right _ (List.mem_of_getElem? (i := 971) (by decide +kernel))
theorem wd_972 : (Cond.methodLink "HomeFreed" (165 : Nat) ({ cls := "HomeFreed$Heap", name := "usedOf", desc := "(I)I" } : MethodName)) ∈ lw_tbl := List.mem_append_right _ (List.mem_of_getElem? (i := 972) (by decide +kernel))
theorem wd_973 : (Cond.methodLink "HomeFreed" (340 : Nat) ({ cls := "HomeFreed$Heap", name := "heldIn", desc := "(I)I" } : MethodName)) ∈ lw_tbl := List.mem_append_right _ (List.mem_of_getElem? (i := 973) (by decide +kernel))
theorem wd_975 : (Cond.instanceMethod ({ cls := "HomeFreed", name := "run", desc := "(II)I" } : MethodName)) ∈ lw_tbl := List.mem_append_right _ (List.mem_of_getElem? (i := 975) (by decide +kernel))
theorem wd_976 : (Cond.selects "HomeFreed" ({ cls := "HomeFreed", name := "run", desc := "(II)I" } : MethodName) ({ cls := "HomeFreed", name := "run", desc := "(II)I" } : MethodName)) ∈ lw_tbl := List.mem_append_right _ (List.mem_of_getElem? (i := 976) (by decide +kernel))
theorem wd_977 : (Cond.code ({ cls := "HomeFreed", name := "run", desc := "(II)I" } : MethodName) prog_1_method_42_code (4 : Nat) (Option.some ClassFile.FieldType.int)) ∈ lw_tbl := List.mem_append_right _ (List.mem_of_getElem? (i := 977) (by decide +kernel))
theorem wd_978 : (Cond.methodLink "HomeFreed" (343 : Nat) ({ cls := "HomeFreed$Heap", name := "pagesInUse", desc := "()I" } : MethodName)) ∈ lw_tbl := List.mem_append_right _ (List.mem_of_getElem? (i := 978) (by decide +kernel))
theorem wd_979 : (Cond.instanceMethod ({ cls := "HomeFreed$Heap", name := "pagesInUse", desc := "()I" } : MethodName)) ∈ lw_tbl := List.mem_append_right _ (List.mem_of_getElem? (i := 979) (by decide +kernel))
theorem wd_980 : (Cond.selects "HomeFreed$Heap" ({ cls := "HomeFreed$Heap", name := "pagesInUse", desc := "()I" } : MethodName) ({ cls := "HomeFreed$Heap", name := "pagesInUse", desc := "()I" } : MethodName)) ∈ lw_tbl := List.mem_append_right _ (List.mem_of_getElem? (i := 980) (by decide +kernel))
theorem wd_981 : (Cond.code ({ cls := "HomeFreed$Heap", name := "pagesInUse", desc := "()I" } : MethodName) prog_3_method_22_code (3 : Nat) (Option.some ClassFile.FieldType.int)) ∈ lw_tbl := List.mem_append_right _ (List.mem_of_getElem? (i := 981) (by decide +kernel))
theorem wd_983 : (Cond.instanceMethod ({ cls := "HomeFreed", name := "ways", desc := "(III)I" } : MethodName)) ∈ lw_tbl := List.mem_append_right _ (List.mem_of_getElem? (i := 983) (by decide +kernel))
theorem wd_984 : (Cond.selects "HomeFreed" ({ cls := "HomeFreed", name := "ways", desc := "(III)I" } : MethodName) ({ cls := "HomeFreed", name := "ways", desc := "(III)I" } : MethodName)) ∈ lw_tbl := List.mem_append_right _ (List.mem_of_getElem? (i := 984) (by decide +kernel))
theorem wd_985 : (Cond.code ({ cls := "HomeFreed", name := "ways", desc := "(III)I" } : MethodName) prog_1_method_43_code (4 : Nat) (Option.some ClassFile.FieldType.int)) ∈ lw_tbl := List.mem_append_right _ (List.mem_of_getElem? (i := 985) (by decide +kernel))
theorem wd_986 : (Cond.methodLink "HomeFreed" (346 : Nat) ({ cls := "HomeFreed$Script", name := "isMixable", desc := "()Z" } : MethodName)) ∈ lw_tbl := List.mem_append_right _ (List.mem_of_getElem? (i := 986) (by decide +kernel))
theorem wd_987 : (Cond.instanceMethod ({ cls := "HomeFreed$Script", name := "isMixable", desc := "()Z" } : MethodName)) ∈ lw_tbl := List.mem_append_right _ (List.mem_of_getElem? (i := 987) (by decide +kernel))
theorem wd_988 : (Cond.selects "HomeFreed$Script" ({ cls := "HomeFreed$Script", name := "isMixable", desc := "()Z" } : MethodName) ({ cls := "HomeFreed$Script", name := "isMixable", desc := "()Z" } : MethodName)) ∈ lw_tbl := List.mem_append_right _ (List.mem_of_getElem? (i := 988) (by decide +kernel))
theorem wd_989 : (Cond.code ({ cls := "HomeFreed$Script", name := "isMixable", desc := "()Z" } : MethodName) prog_10_method_5_code (2 : Nat) (Option.some ClassFile.FieldType.boolean)) ∈ lw_tbl := List.mem_append_right _ (List.mem_of_getElem? (i := 989) (by decide +kernel))
theorem wd_990 : (Cond.methodLink "HomeFreed" (349 : Nat) ({ cls := "HomeFreed$Mixer", name := "begin", desc := "(LHomeFreed$Heap;LHomeFreed$Script;LHomeFreed$Script;)V" } : MethodName)) ∈ lw_tbl := List.mem_append_right _ (List.mem_of_getElem? (i := 990) (by decide +kernel))
theorem wd_991 : (Cond.instanceMethod ({ cls := "HomeFreed$Mixer", name := "begin", desc := "(LHomeFreed$Heap;LHomeFreed$Script;LHomeFreed$Script;)V" } : MethodName)) ∈ lw_tbl := List.mem_append_right _ (List.mem_of_getElem? (i := 991) (by decide +kernel))
theorem wd_992 : (Cond.selects "HomeFreed$Mixer" ({ cls := "HomeFreed$Mixer", name := "begin", desc := "(LHomeFreed$Heap;LHomeFreed$Script;LHomeFreed$Script;)V" } : MethodName) ({ cls := "HomeFreed$Mixer", name := "begin", desc := "(LHomeFreed$Heap;LHomeFreed$Script;LHomeFreed$Script;)V" } : MethodName)) ∈ lw_tbl := List.mem_append_right _ (List.mem_of_getElem? (i := 992) (by decide +kernel))
theorem wd_993 : (Cond.code ({ cls := "HomeFreed$Mixer", name := "begin", desc := "(LHomeFreed$Heap;LHomeFreed$Script;LHomeFreed$Script;)V" } : MethodName) prog_5_method_2_code (4 : Nat) (Option.none : Option ClassFile.FieldType)) ∈ lw_tbl := List.mem_append_right _ (List.mem_of_getElem? (i := 993) (by decide +kernel))
theorem wd_994 : (Cond.methodLink "HomeFreed$Mixer" (40 : Nat) ({ cls := "HomeFreed$Heap", name := "copyFrom", desc := "(LHomeFreed$Heap;)V" } : MethodName)) ∈ lw_tbl := List.mem_append_right _ (List.mem_of_getElem? (i := 994) (by decide +kernel))
theorem wd_995 : (Cond.methodLink "HomeFreed$Mixer" (44 : Nat) ({ cls := "HomeFreed$Progress", name := "restart", desc := "()V" } : MethodName)) ∈ lw_tbl := List.mem_append_right _ (List.mem_of_getElem? (i := 995) (by decide +kernel))
theorem wd_996 : (Cond.methodLinkNest "HomeFreed" (353 : Nat) ({ cls := "HomeFreed$Mixer", name := "mix", desc := "(III)V" } : MethodName) "HomeFreed") ∈ lw_tbl := List.mem_append_right _ (List.mem_of_getElem? (i := 996) (by decide +kernel))
theorem wd_998 : (Cond.instanceMethod ({ cls := "HomeFreed$Mixer", name := "mix", desc := "(III)V" } : MethodName)) ∈ lw_tbl := List.mem_append_right _ (List.mem_of_getElem? (i := 998) (by decide +kernel))
theorem wd_999 : (Cond.code ({ cls := "HomeFreed$Mixer", name := "mix", desc := "(III)V" } : MethodName) prog_5_method_3_code (7 : Nat) (Option.none : Option ClassFile.FieldType)) ∈ lw_tbl := List.mem_append_right _ (List.mem_of_getElem? (i := 999) (by decide +kernel))
theorem wd_1000 : (Cond.methodLink "HomeFreed$Mixer" (63 : Nat) ({ cls := "HomeFreed$Mixer", name := "tally", desc := "(LHomeFreed$Heap;I)V" } : MethodName)) ∈ lw_tbl := List.mem_append_right _ (List.mem_of_getElem? (i := 1000) (by decide +kernel))
theorem wd_1002 : (Cond.instanceMethod ({ cls := "HomeFreed$Mixer", name := "tally", desc := "(LHomeFreed$Heap;I)V" } : MethodName)) ∈ lw_tbl := List.mem_append_right _ (List.mem_of_getElem? (i := 1002) (by decide +kernel))
theorem wd_1003 : (Cond.code ({ cls := "HomeFreed$Mixer", name := "tally", desc := "(LHomeFreed$Heap;I)V" } : MethodName) prog_5_method_5_code (4 : Nat) (Option.none : Option ClassFile.FieldType)) ∈ lw_tbl := List.mem_append_right _ (List.mem_of_getElem? (i := 1003) (by decide +kernel))
theorem wd_1004 : (Cond.methodLink "HomeFreed$Mixer" (91 : Nat) ({ cls := "HomeFreed$Heap", name := "pagesInUse", desc := "()I" } : MethodName)) ∈ lw_tbl := List.mem_append_right _ (List.mem_of_getElem? (i := 1004) (by decide +kernel))
theorem wd_1005 : (Cond.methodLink "HomeFreed$Mixer" (95 : Nat) ({ cls := "java/lang/Math", name := "max", desc := "(II)I" } : MethodName)) ∈ lw_tbl := List.mem_append_right _ (List.mem_of_getElem? (i := 1005) (by decide +kernel))
theorem wd_1006 : (Cond.methodLink "HomeFreed$Mixer" (83 : Nat) ({ cls := "java/lang/Math", name := "min", desc := "(II)I" } : MethodName)) ∈ lw_tbl := List.mem_append_right _ (List.mem_of_getElem? (i := 1006) (by decide +kernel))
theorem wd_1007 : (Cond.methodLink "HomeFreed$Mixer" (67 : Nat) ({ cls := "HomeFreed$Mixer", name := "deepen", desc := "(I)I" } : MethodName)) ∈ lw_tbl := List.mem_append_right _ (List.mem_of_getElem? (i := 1007) (by decide +kernel))
theorem wd_1009 : (Cond.instanceMethod ({ cls := "HomeFreed$Mixer", name := "deepen", desc := "(I)I" } : MethodName)) ∈ lw_tbl := List.mem_append_right _ (List.mem_of_getElem? (i := 1009) (by decide +kernel))
theorem wd_1010 : (Cond.code ({ cls := "HomeFreed$Mixer", name := "deepen", desc := "(I)I" } : MethodName) prog_5_method_4_code (3 : Nat) (Option.some ClassFile.FieldType.int)) ∈ lw_tbl := List.mem_append_right _ (List.mem_of_getElem? (i := 1010) (by decide +kernel))
theorem wd_1011 : (Cond.methodLink "HomeFreed$Mixer" (88 : Nat) ({ cls := "HomeFreed$Progress", name := "copyFrom", desc := "(LHomeFreed$Progress;)V" } : MethodName)) ∈ lw_tbl := List.mem_append_right _ (List.mem_of_getElem? (i := 1011) (by decide +kernel))
theorem wd_1012 : (Cond.instanceMethod ({ cls := "HomeFreed$Progress", name := "copyFrom", desc := "(LHomeFreed$Progress;)V" } : MethodName)) ∈ lw_tbl := List.mem_append_right _ (List.mem_of_getElem? (i := 1012) (by decide +kernel))
theorem wd_1013 : (Cond.selects "HomeFreed$Progress" ({ cls := "HomeFreed$Progress", name := "copyFrom", desc := "(LHomeFreed$Progress;)V" } : MethodName) ({ cls := "HomeFreed$Progress", name := "copyFrom", desc := "(LHomeFreed$Progress;)V" } : MethodName)) ∈ lw_tbl := List.mem_append_right _ (List.mem_of_getElem? (i := 1013) (by decide +kernel))
theorem wd_1014 : (Cond.code ({ cls := "HomeFreed$Progress", name := "copyFrom", desc := "(LHomeFreed$Progress;)V" } : MethodName) prog_7_method_3_code (2 : Nat) (Option.none : Option ClassFile.FieldType)) ∈ lw_tbl := List.mem_append_right _ (List.mem_of_getElem? (i := 1014) (by decide +kernel))
theorem wd_1015 : (Cond.methodLink "HomeFreed$Progress" (28 : Nat) ({ cls := "java/lang/System", name := "arraycopy", desc := "(Ljava/lang/Object;ILjava/lang/Object;II)V" } : MethodName)) ∈ lw_tbl := List.mem_append_right _ (List.mem_of_getElem? (i := 1015) (by decide +kernel))
theorem wd_1016 : (Cond.methodLink "HomeFreed$Mixer" (71 : Nat) ({ cls := "HomeFreed$Progress", name := "doStep", desc := "(LHomeFreed$Heap;LHomeFreed$Script;I)Z" } : MethodName)) ∈ lw_tbl := List.mem_append_right _ (List.mem_of_getElem? (i := 1016) (by decide +kernel))
theorem wd_1017 : (Cond.methodLink "HomeFreed$Mixer" (75 : Nat) ({ cls := "HomeFreed$Mixer", name := "mix", desc := "(III)V" } : MethodName)) ∈ lw_tbl := List.mem_append_right _ (List.mem_of_getElem? (i := 1017) (by decide +kernel))
theorem wd_1018 : (Cond.methodLink "HomeFreed$Mixer" (79 : Nat) ({ cls := "HomeFreed$Mixer", name := "waysOf", desc := "(II)I" } : MethodName)) ∈ lw_tbl := List.mem_append_right _ (List.mem_of_getElem? (i := 1018) (by decide +kernel))
theorem wd_1019 : (Cond.static ({ cls := "HomeFreed$Mixer", name := "waysOf", desc := "(II)I" } : MethodName)) ∈ lw_tbl := List.mem_append_right _ (List.mem_of_getElem? (i := 1019) (by decide +kernel))
theorem wd_1020 : (Cond.code ({ cls := "HomeFreed$Mixer", name := "waysOf", desc := "(II)I" } : MethodName) prog_5_method_6_code (4 : Nat) (Option.some ClassFile.FieldType.int)) ∈ lw_tbl := List.mem_append_right _ (List.mem_of_getElem? (i := 1020) (by decide +kernel))
theorem wd_1022 : (Cond.instanceMethod ({ cls := "HomeFreed", name := "shares", desc := "(II)I" } : MethodName)) ∈ lw_tbl := List.mem_append_right _ (List.mem_of_getElem? (i := 1022) (by decide +kernel))
theorem wd_1023 : (Cond.selects "HomeFreed" ({ cls := "HomeFreed", name := "shares", desc := "(II)I" } : MethodName) ({ cls := "HomeFreed", name := "shares", desc := "(II)I" } : MethodName)) ∈ lw_tbl := List.mem_append_right _ (List.mem_of_getElem? (i := 1023) (by decide +kernel))
theorem wd_1024 : (Cond.code ({ cls := "HomeFreed", name := "shares", desc := "(II)I" } : MethodName) prog_1_method_44_code (6 : Nat) (Option.some ClassFile.FieldType.int)) ∈ lw_tbl := List.mem_append_right _ (List.mem_of_getElem? (i := 1024) (by decide +kernel))
theorem wd_1026 : (Cond.instanceMethod ({ cls := "HomeFreed", name := "most", desc := "(I)I" } : MethodName)) ∈ lw_tbl := List.mem_append_right _ (List.mem_of_getElem? (i := 1026) (by decide +kernel))
theorem wd_1027 : (Cond.selects "HomeFreed" ({ cls := "HomeFreed", name := "most", desc := "(I)I" } : MethodName) ({ cls := "HomeFreed", name := "most", desc := "(I)I" } : MethodName)) ∈ lw_tbl := List.mem_append_right _ (List.mem_of_getElem? (i := 1027) (by decide +kernel))
theorem wd_1028 : (Cond.code ({ cls := "HomeFreed", name := "most", desc := "(I)I" } : MethodName) prog_1_method_45_code (2 : Nat) (Option.some ClassFile.FieldType.int)) ∈ lw_tbl := List.mem_append_right _ (List.mem_of_getElem? (i := 1028) (by decide +kernel))
theorem wd_1029 : (Cond.methodLink "HomeFreed" (369 : Nat) ({ cls := "HomeFreed", name := "fullest", desc := "()I" } : MethodName)) ∈ lw_tbl := List.mem_append_right _ (List.mem_of_getElem? (i := 1029) (by decide +kernel))
theorem wd_1031 : (Cond.instanceMethod ({ cls := "HomeFreed", name := "fullest", desc := "()I" } : MethodName)) ∈ lw_tbl := List.mem_append_right _ (List.mem_of_getElem? (i := 1031) (by decide +kernel))
theorem wd_1032 : (Cond.code ({ cls := "HomeFreed", name := "fullest", desc := "()I" } : MethodName) prog_1_method_46_code (3 : Nat) (Option.some ClassFile.FieldType.int)) ∈ lw_tbl := List.mem_append_right _ (List.mem_of_getElem? (i := 1032) (by decide +kernel))
theorem wd_1033 : (Cond.methodLink "HomeFreed" (372 : Nat) ({ cls := "HomeFreed", name := "richest", desc := "()I" } : MethodName)) ∈ lw_tbl := List.mem_append_right _ (List.mem_of_getElem? (i := 1033) (by decide +kernel))
theorem wd_1035 : (Cond.instanceMethod ({ cls := "HomeFreed", name := "richest", desc := "()I" } : MethodName)) ∈ lw_tbl := List.mem_append_right _ (List.mem_of_getElem? (i := 1035) (by decide +kernel))
theorem wd_1036 : (Cond.code ({ cls := "HomeFreed", name := "richest", desc := "()I" } : MethodName) prog_1_method_47_code (3 : Nat) (Option.some ClassFile.FieldType.int)) ∈ lw_tbl := List.mem_append_right _ (List.mem_of_getElem? (i := 1036) (by decide +kernel))
theorem wd_1037 : (Cond.methodLink "HomeFreed" (375 : Nat) ({ cls := "HomeFreed$Heap", name := "livingBits", desc := "()I" } : MethodName)) ∈ lw_tbl := List.mem_append_right _ (List.mem_of_getElem? (i := 1037) (by decide +kernel))
theorem wd_1038 : (Cond.instanceMethod ({ cls := "HomeFreed$Heap", name := "livingBits", desc := "()I" } : MethodName)) ∈ lw_tbl := List.mem_append_right _ (List.mem_of_getElem? (i := 1038) (by decide +kernel))
theorem wd_1039 : (Cond.selects "HomeFreed$Heap" ({ cls := "HomeFreed$Heap", name := "livingBits", desc := "()I" } : MethodName) ({ cls := "HomeFreed$Heap", name := "livingBits", desc := "()I" } : MethodName)) ∈ lw_tbl := List.mem_append_right _ (List.mem_of_getElem? (i := 1039) (by decide +kernel))
theorem wd_1040 : (Cond.code ({ cls := "HomeFreed$Heap", name := "livingBits", desc := "()I" } : MethodName) prog_3_method_23_code (3 : Nat) (Option.some ClassFile.FieldType.int)) ∈ lw_tbl := List.mem_append_right _ (List.mem_of_getElem? (i := 1040) (by decide +kernel))
theorem wd_1041 : (Cond.methodLink "HomeFreed" (378 : Nat) ({ cls := "HomeFreed$Heap", name := "bitsOf", desc := "(I)I" } : MethodName)) ∈ lw_tbl := List.mem_append_right _ (List.mem_of_getElem? (i := 1041) (by decide +kernel))
theorem wd_1042 : (Cond.instanceMethod ({ cls := "HomeFreed$Heap", name := "bitsOf", desc := "(I)I" } : MethodName)) ∈ lw_tbl := List.mem_append_right _ (List.mem_of_getElem? (i := 1042) (by decide +kernel))
theorem wd_1043 : (Cond.selects "HomeFreed$Heap" ({ cls := "HomeFreed$Heap", name := "bitsOf", desc := "(I)I" } : MethodName) ({ cls := "HomeFreed$Heap", name := "bitsOf", desc := "(I)I" } : MethodName)) ∈ lw_tbl := List.mem_append_right _ (List.mem_of_getElem? (i := 1043) (by decide +kernel))
theorem wd_1044 : (Cond.code ({ cls := "HomeFreed$Heap", name := "bitsOf", desc := "(I)I" } : MethodName) prog_3_method_24_code (4 : Nat) (Option.some ClassFile.FieldType.int)) ∈ lw_tbl := List.mem_append_right _ (List.mem_of_getElem? (i := 1044) (by decide +kernel))
theorem wd_1045 : (Cond.methodLink "HomeFreed$Heap" (108 : Nat) ({ cls := "HomeFreed$Heap", name := "stateOf", desc := "(I)I" } : MethodName)) ∈ lw_tbl := List.mem_append_right _ (List.mem_of_getElem? (i := 1045) (by decide +kernel))
theorem wd_1046 : (Cond.instanceMethod ({ cls := "HomeFreed$Heap", name := "stateOf", desc := "(I)I" } : MethodName)) ∈ lw_tbl := List.mem_append_right _ (List.mem_of_getElem? (i := 1046) (by decide +kernel))
theorem wd_1047 : (Cond.selects "HomeFreed$Heap" ({ cls := "HomeFreed$Heap", name := "stateOf", desc := "(I)I" } : MethodName) ({ cls := "HomeFreed$Heap", name := "stateOf", desc := "(I)I" } : MethodName)) ∈ lw_tbl := List.mem_append_right _ (List.mem_of_getElem? (i := 1047) (by decide +kernel))
theorem wd_1048 : (Cond.code ({ cls := "HomeFreed$Heap", name := "stateOf", desc := "(I)I" } : MethodName) prog_3_method_16_code (2 : Nat) (Option.some ClassFile.FieldType.int)) ∈ lw_tbl := List.mem_append_right _ (List.mem_of_getElem? (i := 1048) (by decide +kernel))
theorem wd_1049 : (Cond.methodLink "HomeFreed" (381 : Nat) ({ cls := "HomeFreed$Heap", name := "outInAll", desc := "()I" } : MethodName)) ∈ lw_tbl := List.mem_append_right _ (List.mem_of_getElem? (i := 1049) (by decide +kernel))
theorem wd_1050 : (Cond.instanceMethod ({ cls := "HomeFreed$Heap", name := "outInAll", desc := "()I" } : MethodName)) ∈ lw_tbl := List.mem_append_right _ (List.mem_of_getElem? (i := 1050) (by decide +kernel))
theorem wd_1051 : (Cond.selects "HomeFreed$Heap" ({ cls := "HomeFreed$Heap", name := "outInAll", desc := "()I" } : MethodName) ({ cls := "HomeFreed$Heap", name := "outInAll", desc := "()I" } : MethodName)) ∈ lw_tbl := List.mem_append_right _ (List.mem_of_getElem? (i := 1051) (by decide +kernel))
theorem wd_1052 : (Cond.code ({ cls := "HomeFreed$Heap", name := "outInAll", desc := "()I" } : MethodName) prog_3_method_25_code (3 : Nat) (Option.some ClassFile.FieldType.int)) ∈ lw_tbl := List.mem_append_right _ (List.mem_of_getElem? (i := 1052) (by decide +kernel))
theorem wd_1053 : (Cond.methodLink "HomeFreed$Heap" (111 : Nat) ({ cls := "HomeFreed$Heap", name := "outOf", desc := "(I)I" } : MethodName)) ∈ lw_tbl := List.mem_append_right _ (List.mem_of_getElem? (i := 1053) (by decide +kernel))
theorem wd_1054 : (Cond.methodLink "HomeFreed" (384 : Nat) ({ cls := "HomeFreed$Heap", name := "idleUnits", desc := "()I" } : MethodName)) ∈ lw_tbl := List.mem_append_right _ (List.mem_of_getElem? (i := 1054) (by decide +kernel))
theorem wd_1055 : (Cond.instanceMethod ({ cls := "HomeFreed$Heap", name := "idleUnits", desc := "()I" } : MethodName)) ∈ lw_tbl := List.mem_append_right _ (List.mem_of_getElem? (i := 1055) (by decide +kernel))
theorem wd_1056 : (Cond.selects "HomeFreed$Heap" ({ cls := "HomeFreed$Heap", name := "idleUnits", desc := "()I" } : MethodName) ({ cls := "HomeFreed$Heap", name := "idleUnits", desc := "()I" } : MethodName)) ∈ lw_tbl := List.mem_append_right _ (List.mem_of_getElem? (i := 1056) (by decide +kernel))
theorem wd_1057 : (Cond.code ({ cls := "HomeFreed$Heap", name := "idleUnits", desc := "()I" } : MethodName) prog_3_method_26_code (3 : Nat) (Option.some ClassFile.FieldType.int)) ∈ lw_tbl := List.mem_append_right _ (List.mem_of_getElem? (i := 1057) (by decide +kernel))
theorem wd_1058 : (Cond.methodLink "HomeFreed$Heap" (114 : Nat) ({ cls := "HomeFreed$Rules", name := "isKind", desc := "(I)Z" } : MethodName)) ∈ lw_tbl := List.mem_append_right _ (List.mem_of_getElem? (i := 1058) (by decide +kernel))
theorem wd_1059 : (Cond.methodLink "HomeFreed" (387 : Nat) ({ cls := "HomeFreed$Heap", name := "foreignInAll", desc := "()I" } : MethodName)) ∈ lw_tbl := List.mem_append_right _ (List.mem_of_getElem? (i := 1059) (by decide +kernel))
theorem wd_1060 : (Cond.instanceMethod ({ cls := "HomeFreed$Heap", name := "foreignInAll", desc := "()I" } : MethodName)) ∈ lw_tbl := List.mem_append_right _ (List.mem_of_getElem? (i := 1060) (by decide +kernel))
theorem wd_1061 : (Cond.selects "HomeFreed$Heap" ({ cls := "HomeFreed$Heap", name := "foreignInAll", desc := "()I" } : MethodName) ({ cls := "HomeFreed$Heap", name := "foreignInAll", desc := "()I" } : MethodName)) ∈ lw_tbl := List.mem_append_right _ (List.mem_of_getElem? (i := 1061) (by decide +kernel))
theorem wd_1062 : (Cond.code ({ cls := "HomeFreed$Heap", name := "foreignInAll", desc := "()I" } : MethodName) prog_3_method_27_code (3 : Nat) (Option.some ClassFile.FieldType.int)) ∈ lw_tbl := List.mem_append_right _ (List.mem_of_getElem? (i := 1062) (by decide +kernel))
theorem wd_1063 : (Cond.methodLink "HomeFreed" (390 : Nat) ({ cls := "HomeFreed$Heap", name := "lostBlocks", desc := "()I" } : MethodName)) ∈ lw_tbl := List.mem_append_right _ (List.mem_of_getElem? (i := 1063) (by decide +kernel))
theorem wd_1064 : (Cond.instanceMethod ({ cls := "HomeFreed$Heap", name := "lostBlocks", desc := "()I" } : MethodName)) ∈ lw_tbl := List.mem_append_right _ (List.mem_of_getElem? (i := 1064) (by decide +kernel))
theorem wd_1065 : (Cond.selects "HomeFreed$Heap" ({ cls := "HomeFreed$Heap", name := "lostBlocks", desc := "()I" } : MethodName) ({ cls := "HomeFreed$Heap", name := "lostBlocks", desc := "()I" } : MethodName)) ∈ lw_tbl := List.mem_append_right _ (List.mem_of_getElem? (i := 1065) (by decide +kernel))
theorem wd_1066 : (Cond.code ({ cls := "HomeFreed$Heap", name := "lostBlocks", desc := "()I" } : MethodName) prog_3_method_28_code (4 : Nat) (Option.some ClassFile.FieldType.int)) ∈ lw_tbl := List.mem_append_right _ (List.mem_of_getElem? (i := 1066) (by decide +kernel))
theorem wd_1067 : (Cond.methodLink "HomeFreed$Heap" (123 : Nat) ({ cls := "HomeFreed$Heap", name := "placesOf", desc := "(II)I" } : MethodName)) ∈ lw_tbl := List.mem_append_right _ (List.mem_of_getElem? (i := 1067) (by decide +kernel))
theorem wd_1069 : (Cond.instanceMethod ({ cls := "HomeFreed$Heap", name := "placesOf", desc := "(II)I" } : MethodName)) ∈ lw_tbl := List.mem_append_right _ (List.mem_of_getElem? (i := 1069) (by decide +kernel))
theorem wd_1070 : (Cond.code ({ cls := "HomeFreed$Heap", name := "placesOf", desc := "(II)I" } : MethodName) prog_3_method_29_code (5 : Nat) (Option.some ClassFile.FieldType.int)) ∈ lw_tbl := List.mem_append_right _ (List.mem_of_getElem? (i := 1070) (by decide +kernel))
theorem wd_1071 : (Cond.methodLink "HomeFreed$Heap" (129 : Nat) ({ cls := "HomeFreed$Heap", name := "timesIn", desc := "(II)I" } : MethodName)) ∈ lw_tbl := List.mem_append_right _ (List.mem_of_getElem? (i := 1071) (by decide +kernel))
theorem wd_1073 : (Cond.instanceMethod ({ cls := "HomeFreed$Heap", name := "timesIn", desc := "(II)I" } : MethodName)) ∈ lw_tbl := List.mem_append_right _ (List.mem_of_getElem? (i := 1073) (by decide +kernel))
theorem wd_1074 : (Cond.code ({ cls := "HomeFreed$Heap", name := "timesIn", desc := "(II)I" } : MethodName) prog_3_method_30_code (6 : Nat) (Option.some ClassFile.FieldType.int)) ∈ lw_tbl := List.mem_append_right _ (List.mem_of_getElem? (i := 1074) (by decide +kernel))
theorem wd_1076 : (Cond.instanceMethod ({ cls := "HomeFreed", name := "image", desc := "()I" } : MethodName)) ∈ lw_tbl := List.mem_append_right _ (List.mem_of_getElem? (i := 1076) (by decide +kernel))
theorem wd_1077 : (Cond.selects "HomeFreed" ({ cls := "HomeFreed", name := "image", desc := "()I" } : MethodName) ({ cls := "HomeFreed", name := "image", desc := "()I" } : MethodName)) ∈ lw_tbl := List.mem_append_right _ (List.mem_of_getElem? (i := 1077) (by decide +kernel))
theorem wd_1078 : (Cond.code ({ cls := "HomeFreed", name := "image", desc := "()I" } : MethodName) prog_1_method_48_code (1 : Nat) (Option.some ClassFile.FieldType.int)) ∈ lw_tbl := List.mem_append_right _ (List.mem_of_getElem? (i := 1078) (by decide +kernel))
theorem wd_1080 : (Cond.instanceMethod ({ cls := "HomeFreed", name := "back", desc := "()I" } : MethodName)) ∈ lw_tbl := List.mem_append_right _ (List.mem_of_getElem? (i := 1080) (by decide +kernel))
theorem wd_1081 : (Cond.selects "HomeFreed" ({ cls := "HomeFreed", name := "back", desc := "()I" } : MethodName) ({ cls := "HomeFreed", name := "back", desc := "()I" } : MethodName)) ∈ lw_tbl := List.mem_append_right _ (List.mem_of_getElem? (i := 1081) (by decide +kernel))
theorem wd_1082 : (Cond.code ({ cls := "HomeFreed", name := "back", desc := "()I" } : MethodName) prog_1_method_49_code (1 : Nat) (Option.some ClassFile.FieldType.int)) ∈ lw_tbl := List.mem_append_right _ (List.mem_of_getElem? (i := 1082) (by decide +kernel))
theorem wd_1084 : (Cond.instanceMethod ({ cls := "HomeFreed", name := "count", desc := "(I)I" } : MethodName)) ∈ lw_tbl := List.mem_append_right _ (List.mem_of_getElem? (i := 1084) (by decide +kernel))
theorem wd_1085 : (Cond.selects "HomeFreed" ({ cls := "HomeFreed", name := "count", desc := "(I)I" } : MethodName) ({ cls := "HomeFreed", name := "count", desc := "(I)I" } : MethodName)) ∈ lw_tbl := List.mem_append_right _ (List.mem_of_getElem? (i := 1085) (by decide +kernel))
theorem wd_1086 : (Cond.code ({ cls := "HomeFreed", name := "count", desc := "(I)I" } : MethodName) prog_1_method_50_code (2 : Nat) (Option.some ClassFile.FieldType.int)) ∈ lw_tbl := List.mem_append_right _ (List.mem_of_getElem? (i := 1086) (by decide +kernel))
theorem wd_1168 : (Cond.constant "HomeFreedModel" (53 : Nat) (155720 : Int32)) ∈ lw_tbl := List.mem_append_right _ (List.mem_of_getElem? (i := 1168) (by decide +kernel))
theorem wd_1170 : (Cond.fieldLink "HomeFreedModel" (64 : Nat) "HomeFreedModel" "thrown" "I") ∈ lw_tbl := List.mem_append_right _ (List.mem_of_getElem? (i := 1170) (by decide +kernel))
theorem wd_1171 : (Cond.fieldLink "HomeFreedModel" (9 : Nat) "HomeFreedModel" "tape" "[I") ∈ lw_tbl := List.mem_append_right _ (List.mem_of_getElem? (i := 1171) (by decide +kernel))
theorem wd_1172 : (Cond.fieldLink "HomeFreedModel" (72 : Nat) "HomeFreedModel" "taped" "I") ∈ lw_tbl := List.mem_append_right _ (List.mem_of_getElem? (i := 1172) (by decide +kernel))
theorem wd_1173 : (Cond.fieldLink "HomeFreedModel" (79 : Nat) "HomeFreedModel" "at" "I") ∈ lw_tbl := List.mem_append_right _ (List.mem_of_getElem? (i := 1173) (by decide +kernel))
theorem wd_1174 : (Cond.fieldLink "HomeFreedModel" (86 : Nat) "HomeFreedModel" "wrong" "I") ∈ lw_tbl := List.mem_append_right _ (List.mem_of_getElem? (i := 1174) (by decide +kernel))
theorem wd_1175 : (Cond.fieldLink "HomeFreedModel" (13 : Nat) "HomeFreedModel" "readRule" "[I") ∈ lw_tbl := List.mem_append_right _ (List.mem_of_getElem? (i := 1175) (by decide +kernel))
theorem wd_1176 : (Cond.fieldLink "HomeFreedModel" (16 : Nat) "HomeFreedModel" "readSize" "[I") ∈ lw_tbl := List.mem_append_right _ (List.mem_of_getElem? (i := 1176) (by decide +kernel))
theorem wd_1177 : (Cond.fieldLink "HomeFreedModel" (116 : Nat) "HomeFreedModel" "readClasses" "I") ∈ lw_tbl := List.mem_append_right _ (List.mem_of_getElem? (i := 1177) (by decide +kernel))
theorem wd_1178 : (Cond.fieldLink "HomeFreedModel" (19 : Nat) "HomeFreedModel" "rule" "[I") ∈ lw_tbl := List.mem_append_right _ (List.mem_of_getElem? (i := 1178) (by decide +kernel))
theorem wd_1179 : (Cond.fieldLink "HomeFreedModel" (22 : Nat) "HomeFreedModel" "sizes" "[I") ∈ lw_tbl := List.mem_append_right _ (List.mem_of_getElem? (i := 1179) (by decide +kernel))
theorem wd_1180 : (Cond.fieldLink "HomeFreedModel" (144 : Nat) "HomeFreedModel" "classes" "I") ∈ lw_tbl := List.mem_append_right _ (List.mem_of_getElem? (i := 1180) (by decide +kernel))
theorem wd_1181 : (Cond.fieldLink "HomeFreedModel" (25 : Nat) "HomeFreedModel" "script" "[I") ∈ lw_tbl := List.mem_append_right _ (List.mem_of_getElem? (i := 1181) (by decide +kernel))
theorem wd_1182 : (Cond.fieldLink "HomeFreedModel" (28 : Nat) "HomeFreedModel" "scriptLong" "[I") ∈ lw_tbl := List.mem_append_right _ (List.mem_of_getElem? (i := 1182) (by decide +kernel))
theorem wd_1183 : (Cond.fieldLink "HomeFreedModel" (157 : Nat) "HomeFreedModel" "scripts" "I") ∈ lw_tbl := List.mem_append_right _ (List.mem_of_getElem? (i := 1183) (by decide +kernel))
theorem wd_1184 : (Cond.fieldLink "HomeFreedModel" (131 : Nat) "HomeFreedModel" "scopesOpen" "I") ∈ lw_tbl := List.mem_append_right _ (List.mem_of_getElem? (i := 1184) (by decide +kernel))
theorem wd_1185 : (Cond.fieldLink "HomeFreedModel" (31 : Nat) "HomeFreedModel" "now" "[I") ∈ lw_tbl := List.mem_append_right _ (List.mem_of_getElem? (i := 1185) (by decide +kernel))
theorem wd_1186 : (Cond.fieldLink "HomeFreedModel" (34 : Nat) "HomeFreedModel" "refused" "[I") ∈ lw_tbl := List.mem_append_right _ (List.mem_of_getElem? (i := 1186) (by decide +kernel))
theorem wd_1187 : (Cond.fieldLink "HomeFreedModel" (217 : Nat) "HomeFreedModel" "gotHow" "I") ∈ lw_tbl := List.mem_append_right _ (List.mem_of_getElem? (i := 1187) (by decide +kernel))
theorem wd_1188 : (Cond.fieldLink "HomeFreedModel" (37 : Nat) "HomeFreedModel" "gotBlock" "[I") ∈ lw_tbl := List.mem_append_right _ (List.mem_of_getElem? (i := 1188) (by decide +kernel))
theorem wd_1189 : (Cond.fieldLink "HomeFreedModel" (40 : Nat) "HomeFreedModel" "gotBy" "[I") ∈ lw_tbl := List.mem_append_right _ (List.mem_of_getElem? (i := 1189) (by decide +kernel))
theorem wd_1190 : (Cond.fieldLink "HomeFreedModel" (43 : Nat) "HomeFreedModel" "gotScope" "[I") ∈ lw_tbl := List.mem_append_right _ (List.mem_of_getElem? (i := 1190) (by decide +kernel))
theorem wd_1191 : (Cond.fieldLink "HomeFreedModel" (46 : Nat) "HomeFreedModel" "isHeldSince" "[Z") ∈ lw_tbl := List.mem_append_right _ (List.mem_of_getElem? (i := 1191) (by decide +kernel))
theorem wd_1192 : (Cond.fieldLink "HomeFreedModel" (50 : Nat) "HomeFreedModel" "gotMany" "[I") ∈ lw_tbl := List.mem_append_right _ (List.mem_of_getElem? (i := 1192) (by decide +kernel))
theorem wd_1193 : (Cond.fieldLink "HomeFreedModel" (266 : Nat) "HomeFreedModel" "deepScope" "I") ∈ lw_tbl := List.mem_append_right _ (List.mem_of_getElem? (i := 1193) (by decide +kernel))
theorem wd_1194 : (Cond.fieldLink "HomeFreedModel" (54 : Nat) "HomeFreedModel" "kept" "[I") ∈ lw_tbl := List.mem_append_right _ (List.mem_of_getElem? (i := 1194) (by decide +kernel))
theorem wd_1195 : (Cond.fieldLink "HomeFreedModel" (147 : Nat) "HomeFreedModel" "acts" "I") ∈ lw_tbl := List.mem_append_right _ (List.mem_of_getElem? (i := 1195) (by decide +kernel))
theorem wd_1196 : (Cond.fieldLink "HomeFreedModel" (327 : Nat) "HomeFreedModel" "draws" "J") ∈ lw_tbl := List.mem_append_right _ (List.mem_of_getElem? (i := 1196) (by decide +kernel))
theorem wd_1197 : (Cond.fieldLink "HomeFreedModel" (58 : Nat) "HomeFreedModel" "aside" "[I") ∈ lw_tbl := List.mem_append_right _ (List.mem_of_getElem? (i := 1197) (by decide +kernel))
theorem wd_1198 : (Cond.fieldLink "HomeFreedModel" (390 : Nat) "HomeFreedModel" "wayMany" "I") ∈ lw_tbl := List.mem_append_right _ (List.mem_of_getElem? (i := 1198) (by decide +kernel))
theorem wd_1199 : (Cond.fieldLink "HomeFreedModel" (377 : Nat) "HomeFreedModel" "wayWhole" "I") ∈ lw_tbl := List.mem_append_right _ (List.mem_of_getElem? (i := 1199) (by decide +kernel))
theorem wd_1200 : (Cond.fieldLink "HomeFreedModel" (363 : Nat) "HomeFreedModel" "wayMost" "I") ∈ lw_tbl := List.mem_append_right _ (List.mem_of_getElem? (i := 1200) (by decide +kernel))
theorem wd_1201 : (Cond.fieldLink "HomeFreedModel" (371 : Nat) "HomeFreedModel" "wayFewest" "I") ∈ lw_tbl := List.mem_append_right _ (List.mem_of_getElem? (i := 1201) (by decide +kernel))
theorem wd_1202 : (Cond.fieldLink "HomeFreedModel" (61 : Nat) "HomeFreedModel" "image" "[I") ∈ lw_tbl := List.mem_append_right _ (List.mem_of_getElem? (i := 1202) (by decide +kernel))
theorem wd_1203 : (Cond.fieldLink "HomeFreedModel" (150 : Nat) "HomeFreedModel" "hasImage" "Z") ∈ lw_tbl := List.mem_append_right _ (List.mem_of_getElem? (i := 1203) (by decide +kernel))
theorem wd_1275 : (Cond.instanceMethod ({ cls := "HomeFreedModel", name := "thrown", desc := "()I" } : MethodName)) ∈ lw_tbl := List.mem_append_right _ (List.mem_of_getElem? (i := 1275) (by decide +kernel))
theorem wd_1276 : (Cond.selects "HomeFreedModel" ({ cls := "HomeFreedModel", name := "thrown", desc := "()I" } : MethodName) ({ cls := "HomeFreedModel", name := "thrown", desc := "()I" } : MethodName)) ∈ lw_tbl := List.mem_append_right _ (List.mem_of_getElem? (i := 1276) (by decide +kernel))
theorem wd_1277 : (Cond.code ({ cls := "HomeFreedModel", name := "thrown", desc := "()I" } : MethodName) prog_13_method_4_code (1 : Nat) (Option.some ClassFile.FieldType.int)) ∈ lw_tbl := List.mem_append_right _ (List.mem_of_getElem? (i := 1277) (by decide +kernel))
theorem wd_1279 : (Cond.instanceMethod ({ cls := "HomeFreedModel", name := "feed", desc := "(IIIII)I" } : MethodName)) ∈ lw_tbl := List.mem_append_right _ (List.mem_of_getElem? (i := 1279) (by decide +kernel))
theorem wd_1280 : (Cond.selects "HomeFreedModel" ({ cls := "HomeFreedModel", name := "feed", desc := "(IIIII)I" } : MethodName) ({ cls := "HomeFreedModel", name := "feed", desc := "(IIIII)I" } : MethodName)) ∈ lw_tbl := List.mem_append_right _ (List.mem_of_getElem? (i := 1280) (by decide +kernel))
theorem wd_1281 : (Cond.code ({ cls := "HomeFreedModel", name := "feed", desc := "(IIIII)I" } : MethodName) prog_13_method_6_code (9 : Nat) (Option.some ClassFile.FieldType.int)) ∈ lw_tbl := List.mem_append_right _ (List.mem_of_getElem? (i := 1281) (by decide +kernel))
theorem wd_1282 : (Cond.methodLink "HomeFreedModel" (68 : Nat) ({ cls := "HomeFreedModel", name := "byteOf", desc := "(IIIIII)I" } : MethodName)) ∈ lw_tbl := List.mem_append_right _ (List.mem_of_getElem? (i := 1282) (by decide +kernel))
theorem wd_1283 : (Cond.static ({ cls := "HomeFreedModel", name := "byteOf", desc := "(IIIIII)I" } : MethodName)) ∈ lw_tbl := List.mem_append_right _ (List.mem_of_getElem? (i := 1283) (by decide +kernel))
theorem wd_1284 : (Cond.code ({ cls := "HomeFreedModel", name := "byteOf", desc := "(IIIIII)I" } : MethodName) prog_13_method_5_code (7 : Nat) (Option.some ClassFile.FieldType.int)) ∈ lw_tbl := List.mem_append_right _ (List.mem_of_getElem? (i := 1284) (by decide +kernel))
theorem wd_1286 : (Cond.instanceMethod ({ cls := "HomeFreedModel", name := "end", desc := "(I)Z" } : MethodName)) ∈ lw_tbl := List.mem_append_right _ (List.mem_of_getElem? (i := 1286) (by decide +kernel))
theorem wd_1287 : (Cond.selects "HomeFreedModel" ({ cls := "HomeFreedModel", name := "end", desc := "(I)Z" } : MethodName) ({ cls := "HomeFreedModel", name := "end", desc := "(I)Z" } : MethodName)) ∈ lw_tbl := List.mem_append_right _ (List.mem_of_getElem? (i := 1287) (by decide +kernel))
theorem wd_1288 : (Cond.code ({ cls := "HomeFreedModel", name := "end", desc := "(I)Z" } : MethodName) prog_13_method_7_code (2 : Nat) (Option.some ClassFile.FieldType.boolean)) ∈ lw_tbl := List.mem_append_right _ (List.mem_of_getElem? (i := 1288) (by decide +kernel))
theorem wd_1289 : (Cond.methodLink "HomeFreedModel" (75 : Nat) ({ cls := "HomeFreedModel", name := "in", desc := "(III)Z" } : MethodName)) ∈ lw_tbl := List.mem_append_right _ (List.mem_of_getElem? (i := 1289) (by decide +kernel))
theorem wd_1290 : (Cond.static ({ cls := "HomeFreedModel", name := "in", desc := "(III)Z" } : MethodName)) ∈ lw_tbl := List.mem_append_right _ (List.mem_of_getElem? (i := 1290) (by decide +kernel))
theorem wd_1291 : (Cond.code ({ cls := "HomeFreedModel", name := "in", desc := "(III)Z" } : MethodName) prog_13_method_1_code (3 : Nat) (Option.some ClassFile.FieldType.boolean)) ∈ lw_tbl := List.mem_append_right _ (List.mem_of_getElem? (i := 1291) (by decide +kernel))
theorem wd_1293 : (Cond.instanceMethod ({ cls := "HomeFreedModel", name := "fault", desc := "(I)I" } : MethodName)) ∈ lw_tbl := List.mem_append_right _ (List.mem_of_getElem? (i := 1293) (by decide +kernel))
theorem wd_1294 : (Cond.selects "HomeFreedModel" ({ cls := "HomeFreedModel", name := "fault", desc := "(I)I" } : MethodName) ({ cls := "HomeFreedModel", name := "fault", desc := "(I)I" } : MethodName)) ∈ lw_tbl := List.mem_append_right _ (List.mem_of_getElem? (i := 1294) (by decide +kernel))
theorem wd_1295 : (Cond.code ({ cls := "HomeFreedModel", name := "fault", desc := "(I)I" } : MethodName) prog_13_method_22_code (2 : Nat) (Option.some ClassFile.FieldType.int)) ∈ lw_tbl := List.mem_append_right _ (List.mem_of_getElem? (i := 1295) (by decide +kernel))
theorem wd_1296 : (Cond.methodLink "HomeFreedModel" (138 : Nat) ({ cls := "HomeFreedModel", name := "readArena", desc := "()I" } : MethodName)) ∈ lw_tbl := List.mem_append_right _ (List.mem_of_getElem? (i := 1296) (by decide +kernel))
theorem wd_1298 : (Cond.instanceMethod ({ cls := "HomeFreedModel", name := "readArena", desc := "()I" } : MethodName)) ∈ lw_tbl := List.mem_append_right _ (List.mem_of_getElem? (i := 1298) (by decide +kernel))
theorem wd_1299 : (Cond.code ({ cls := "HomeFreedModel", name := "readArena", desc := "()I" } : MethodName) prog_13_method_18_code (4 : Nat) (Option.some ClassFile.FieldType.int)) ∈ lw_tbl := List.mem_append_right _ (List.mem_of_getElem? (i := 1299) (by decide +kernel))
theorem wd_1300 : (Cond.methodLink "HomeFreedModel" (99 : Nat) ({ cls := "HomeFreedModel", name := "usual", desc := "(II)I" } : MethodName)) ∈ lw_tbl := List.mem_append_right _ (List.mem_of_getElem? (i := 1300) (by decide +kernel))
theorem wd_1301 : (Cond.static ({ cls := "HomeFreedModel", name := "usual", desc := "(II)I" } : MethodName)) ∈ lw_tbl := List.mem_append_right _ (List.mem_of_getElem? (i := 1301) (by decide +kernel))
theorem wd_1302 : (Cond.code ({ cls := "HomeFreedModel", name := "usual", desc := "(II)I" } : MethodName) prog_13_method_15_code (2 : Nat) (Option.some ClassFile.FieldType.int)) ∈ lw_tbl := List.mem_append_right _ (List.mem_of_getElem? (i := 1302) (by decide +kernel))
theorem wd_1303 : (Cond.methodLink "HomeFreedModel" (89 : Nat) ({ cls := "HomeFreedModel", name := "ahead", desc := "()I" } : MethodName)) ∈ lw_tbl := List.mem_append_right _ (List.mem_of_getElem? (i := 1303) (by decide +kernel))
theorem wd_1305 : (Cond.instanceMethod ({ cls := "HomeFreedModel", name := "ahead", desc := "()I" } : MethodName)) ∈ lw_tbl := List.mem_append_right _ (List.mem_of_getElem? (i := 1305) (by decide +kernel))
theorem wd_1306 : (Cond.code ({ cls := "HomeFreedModel", name := "ahead", desc := "()I" } : MethodName) prog_13_method_9_code (1 : Nat) (Option.some ClassFile.FieldType.int)) ∈ lw_tbl := List.mem_append_right _ (List.mem_of_getElem? (i := 1306) (by decide +kernel))
theorem wd_1307 : (Cond.methodLink "HomeFreedModel" (82 : Nat) ({ cls := "HomeFreedModel", name := "here", desc := "()I" } : MethodName)) ∈ lw_tbl := List.mem_append_right _ (List.mem_of_getElem? (i := 1307) (by decide +kernel))
theorem wd_1309 : (Cond.instanceMethod ({ cls := "HomeFreedModel", name := "here", desc := "()I" } : MethodName)) ∈ lw_tbl := List.mem_append_right _ (List.mem_of_getElem? (i := 1309) (by decide +kernel))
theorem wd_1310 : (Cond.code ({ cls := "HomeFreedModel", name := "here", desc := "()I" } : MethodName) prog_13_method_8_code (1 : Nat) (Option.some ClassFile.FieldType.int)) ∈ lw_tbl := List.mem_append_right _ (List.mem_of_getElem? (i := 1310) (by decide +kernel))
theorem wd_1311 : (Cond.methodLink "HomeFreedModel" (119 : Nat) ({ cls := "HomeFreedModel", name := "items", desc := "(I[III)V" } : MethodName)) ∈ lw_tbl := List.mem_append_right _ (List.mem_of_getElem? (i := 1311) (by decide +kernel))
theorem wd_1313 : (Cond.instanceMethod ({ cls := "HomeFreedModel", name := "items", desc := "(I[III)V" } : MethodName)) ∈ lw_tbl := List.mem_append_right _ (List.mem_of_getElem? (i := 1313) (by decide +kernel))
theorem wd_1314 : (Cond.code ({ cls := "HomeFreedModel", name := "items", desc := "(I[III)V" } : MethodName) prog_13_method_16_code (7 : Nat) (Option.none : Option ClassFile.FieldType)) ∈ lw_tbl := List.mem_append_right _ (List.mem_of_getElem? (i := 1314) (by decide +kernel))
theorem wd_1315 : (Cond.methodLink "HomeFreedModel" (103 : Nat) ({ cls := "HomeFreedModel", name := "itemOf", desc := "(II)I" } : MethodName)) ∈ lw_tbl := List.mem_append_right _ (List.mem_of_getElem? (i := 1315) (by decide +kernel))
theorem wd_1316 : (Cond.static ({ cls := "HomeFreedModel", name := "itemOf", desc := "(II)I" } : MethodName)) ∈ lw_tbl := List.mem_append_right _ (List.mem_of_getElem? (i := 1316) (by decide +kernel))
theorem wd_1317 : (Cond.code ({ cls := "HomeFreedModel", name := "itemOf", desc := "(II)I" } : MethodName) prog_13_method_13_code (2 : Nat) (Option.some ClassFile.FieldType.int)) ∈ lw_tbl := List.mem_append_right _ (List.mem_of_getElem? (i := 1317) (by decide +kernel))
theorem wd_1318 : (Cond.methodLink "HomeFreedModel" (106 : Nat) ({ cls := "HomeFreedModel", name := "has", desc := "(II)Z" } : MethodName)) ∈ lw_tbl := List.mem_append_right _ (List.mem_of_getElem? (i := 1318) (by decide +kernel))
theorem wd_1319 : (Cond.static ({ cls := "HomeFreedModel", name := "has", desc := "(II)Z" } : MethodName)) ∈ lw_tbl := List.mem_append_right _ (List.mem_of_getElem? (i := 1319) (by decide +kernel))
theorem wd_1320 : (Cond.code ({ cls := "HomeFreedModel", name := "has", desc := "(II)Z" } : MethodName) prog_13_method_2_code (2 : Nat) (Option.some ClassFile.FieldType.boolean)) ∈ lw_tbl := List.mem_append_right _ (List.mem_of_getElem? (i := 1320) (by decide +kernel))
theorem wd_1321 : (Cond.methodLink "HomeFreedModel" (110 : Nat) ({ cls := "HomeFreedModel", name := "highest", desc := "(II)I" } : MethodName)) ∈ lw_tbl := List.mem_append_right _ (List.mem_of_getElem? (i := 1321) (by decide +kernel))
theorem wd_1322 : (Cond.static ({ cls := "HomeFreedModel", name := "highest", desc := "(II)I" } : MethodName)) ∈ lw_tbl := List.mem_append_right _ (List.mem_of_getElem? (i := 1322) (by decide +kernel))
theorem wd_1323 : (Cond.code ({ cls := "HomeFreedModel", name := "highest", desc := "(II)I" } : MethodName) prog_13_method_14_code (2 : Nat) (Option.some ClassFile.FieldType.int)) ∈ lw_tbl := List.mem_append_right _ (List.mem_of_getElem? (i := 1323) (by decide +kernel))
theorem wd_1324 : (Cond.methodLink "HomeFreedModel" (113 : Nat) ({ cls := "HomeFreedModel", name := "number", desc := "(II)I" } : MethodName)) ∈ lw_tbl := List.mem_append_right _ (List.mem_of_getElem? (i := 1324) (by decide +kernel))
theorem wd_1326 : (Cond.instanceMethod ({ cls := "HomeFreedModel", name := "number", desc := "(II)I" } : MethodName)) ∈ lw_tbl := List.mem_append_right _ (List.mem_of_getElem? (i := 1326) (by decide +kernel))
theorem wd_1327 : (Cond.code ({ cls := "HomeFreedModel", name := "number", desc := "(II)I" } : MethodName) prog_13_method_12_code (4 : Nat) (Option.some ClassFile.FieldType.int)) ∈ lw_tbl := List.mem_append_right _ (List.mem_of_getElem? (i := 1327) (by decide +kernel))
theorem wd_1328 : (Cond.methodLink "HomeFreedModel" (92 : Nat) ({ cls := "HomeFreedModel", name := "isDigit", desc := "(I)Z" } : MethodName)) ∈ lw_tbl := List.mem_append_right _ (List.mem_of_getElem? (i := 1328) (by decide +kernel))
theorem wd_1329 : (Cond.static ({ cls := "HomeFreedModel", name := "isDigit", desc := "(I)Z" } : MethodName)) ∈ lw_tbl := List.mem_append_right _ (List.mem_of_getElem? (i := 1329) (by decide +kernel))
theorem wd_1330 : (Cond.code ({ cls := "HomeFreedModel", name := "isDigit", desc := "(I)Z" } : MethodName) prog_13_method_11_code (1 : Nat) (Option.some ClassFile.FieldType.boolean)) ∈ lw_tbl := List.mem_append_right _ (List.mem_of_getElem? (i := 1330) (by decide +kernel))
theorem wd_1331 : (Cond.methodLink "HomeFreedModel" (96 : Nat) ({ cls := "HomeFreedModel", name := "bad", desc := "()V" } : MethodName)) ∈ lw_tbl := List.mem_append_right _ (List.mem_of_getElem? (i := 1331) (by decide +kernel))
theorem wd_1333 : (Cond.instanceMethod ({ cls := "HomeFreedModel", name := "bad", desc := "()V" } : MethodName)) ∈ lw_tbl := List.mem_append_right _ (List.mem_of_getElem? (i := 1333) (by decide +kernel))
theorem wd_1334 : (Cond.code ({ cls := "HomeFreedModel", name := "bad", desc := "()V" } : MethodName) prog_13_method_10_code (1 : Nat) (Option.none : Option ClassFile.FieldType)) ∈ lw_tbl := List.mem_append_right _ (List.mem_of_getElem? (i := 1334) (by decide +kernel))
theorem wd_1335 : (Cond.methodLink "HomeFreedModel" (123 : Nat) ({ cls := "HomeFreedModel", name := "isWhole", desc := "()Z" } : MethodName)) ∈ lw_tbl := List.mem_append_right _ (List.mem_of_getElem? (i := 1335) (by decide +kernel))
theorem wd_1337 : (Cond.instanceMethod ({ cls := "HomeFreedModel", name := "isWhole", desc := "()Z" } : MethodName)) ∈ lw_tbl := List.mem_append_right _ (List.mem_of_getElem? (i := 1337) (by decide +kernel))
theorem wd_1338 : (Cond.code ({ cls := "HomeFreedModel", name := "isWhole", desc := "()Z" } : MethodName) prog_13_method_17_code (3 : Nat) (Option.some ClassFile.FieldType.boolean)) ∈ lw_tbl := List.mem_append_right _ (List.mem_of_getElem? (i := 1338) (by decide +kernel))
theorem wd_1339 : (Cond.methodLink "HomeFreedModel" (141 : Nat) ({ cls := "HomeFreedModel", name := "readScript", desc := "(I)I" } : MethodName)) ∈ lw_tbl := List.mem_append_right _ (List.mem_of_getElem? (i := 1339) (by decide +kernel))
theorem wd_1341 : (Cond.instanceMethod ({ cls := "HomeFreedModel", name := "readScript", desc := "(I)I" } : MethodName)) ∈ lw_tbl := List.mem_append_right _ (List.mem_of_getElem? (i := 1341) (by decide +kernel))
theorem wd_1342 : (Cond.code ({ cls := "HomeFreedModel", name := "readScript", desc := "(I)I" } : MethodName) prog_13_method_21_code (3 : Nat) (Option.some ClassFile.FieldType.int)) ∈ lw_tbl := List.mem_append_right _ (List.mem_of_getElem? (i := 1342) (by decide +kernel))
theorem wd_1343 : (Cond.methodLink "HomeFreedModel" (134 : Nat) ({ cls := "HomeFreedModel", name := "readStep", desc := "(I)V" } : MethodName)) ∈ lw_tbl := List.mem_append_right _ (List.mem_of_getElem? (i := 1343) (by decide +kernel))
theorem wd_1345 : (Cond.instanceMethod ({ cls := "HomeFreedModel", name := "readStep", desc := "(I)V" } : MethodName)) ∈ lw_tbl := List.mem_append_right _ (List.mem_of_getElem? (i := 1345) (by decide +kernel))
theorem wd_1346 : (Cond.code ({ cls := "HomeFreedModel", name := "readStep", desc := "(I)V" } : MethodName) prog_13_method_20_code (3 : Nat) (Option.none : Option ClassFile.FieldType)) ∈ lw_tbl := List.mem_append_right _ (List.mem_of_getElem? (i := 1346) (by decide +kernel))
theorem wd_1347 : (Cond.methodLink "HomeFreedModel" (127 : Nat) ({ cls := "HomeFreedModel", name := "sortOf", desc := "(I)I" } : MethodName)) ∈ lw_tbl := List.mem_append_right _ (List.mem_of_getElem? (i := 1347) (by decide +kernel))
theorem wd_1348 : (Cond.static ({ cls := "HomeFreedModel", name := "sortOf", desc := "(I)I" } : MethodName)) ∈ lw_tbl := List.mem_append_right _ (List.mem_of_getElem? (i := 1348) (by decide +kernel))
theorem wd_1349 : (Cond.code ({ cls := "HomeFreedModel", name := "sortOf", desc := "(I)I" } : MethodName) prog_13_method_19_code (1 : Nat) (Option.some ClassFile.FieldType.int)) ∈ lw_tbl := List.mem_append_right _ (List.mem_of_getElem? (i := 1349) (by decide +kernel))
theorem wd_1351 : (Cond.instanceMethod ({ cls := "HomeFreedModel", name := "text", desc := "(I)I" } : MethodName)) ∈ lw_tbl := List.mem_append_right _ (List.mem_of_getElem? (i := 1351) (by decide +kernel))
theorem wd_1352 : (Cond.selects "HomeFreedModel" ({ cls := "HomeFreedModel", name := "text", desc := "(I)I" } : MethodName) ({ cls := "HomeFreedModel", name := "text", desc := "(I)I" } : MethodName)) ∈ lw_tbl := List.mem_append_right _ (List.mem_of_getElem? (i := 1352) (by decide +kernel))
theorem wd_1353 : (Cond.code ({ cls := "HomeFreedModel", name := "text", desc := "(I)I" } : MethodName) prog_13_method_24_code (2 : Nat) (Option.some ClassFile.FieldType.int)) ∈ lw_tbl := List.mem_append_right _ (List.mem_of_getElem? (i := 1353) (by decide +kernel))
theorem wd_1354 : (Cond.methodLink "HomeFreedModel" (154 : Nat) ({ cls := "HomeFreedModel", name := "takeArena", desc := "()I" } : MethodName)) ∈ lw_tbl := List.mem_append_right _ (List.mem_of_getElem? (i := 1354) (by decide +kernel))
theorem wd_1356 : (Cond.instanceMethod ({ cls := "HomeFreedModel", name := "takeArena", desc := "()I" } : MethodName)) ∈ lw_tbl := List.mem_append_right _ (List.mem_of_getElem? (i := 1356) (by decide +kernel))
theorem wd_1357 : (Cond.code ({ cls := "HomeFreedModel", name := "takeArena", desc := "()I" } : MethodName) prog_13_method_23_code (2 : Nat) (Option.some ClassFile.FieldType.int)) ∈ lw_tbl := List.mem_append_right _ (List.mem_of_getElem? (i := 1357) (by decide +kernel))
theorem wd_1359 : (Cond.instanceMethod ({ cls := "HomeFreedModel", name := "rule", desc := "(I)I" } : MethodName)) ∈ lw_tbl := List.mem_append_right _ (List.mem_of_getElem? (i := 1359) (by decide +kernel))
theorem wd_1360 : (Cond.selects "HomeFreedModel" ({ cls := "HomeFreedModel", name := "rule", desc := "(I)I" } : MethodName) ({ cls := "HomeFreedModel", name := "rule", desc := "(I)I" } : MethodName)) ∈ lw_tbl := List.mem_append_right _ (List.mem_of_getElem? (i := 1360) (by decide +kernel))
theorem wd_1361 : (Cond.code ({ cls := "HomeFreedModel", name := "rule", desc := "(I)I" } : MethodName) prog_13_method_70_code (2 : Nat) (Option.some ClassFile.FieldType.int)) ∈ lw_tbl := List.mem_append_right _ (List.mem_of_getElem? (i := 1361) (by decide +kernel))
theorem wd_1362 : (Cond.methodLink "HomeFreedModel" (160 : Nat) ({ cls := "HomeFreedModel", name := "isArena", desc := "()Z" } : MethodName)) ∈ lw_tbl := List.mem_append_right _ (List.mem_of_getElem? (i := 1362) (by decide +kernel))
theorem wd_1364 : (Cond.instanceMethod ({ cls := "HomeFreedModel", name := "isArena", desc := "()Z" } : MethodName)) ∈ lw_tbl := List.mem_append_right _ (List.mem_of_getElem? (i := 1364) (by decide +kernel))
theorem wd_1365 : (Cond.code ({ cls := "HomeFreedModel", name := "isArena", desc := "()Z" } : MethodName) prog_13_method_25_code (1 : Nat) (Option.some ClassFile.FieldType.boolean)) ∈ lw_tbl := List.mem_append_right _ (List.mem_of_getElem? (i := 1365) (by decide +kernel))
theorem wd_1367 : (Cond.instanceMethod ({ cls := "HomeFreedModel", name := "size", desc := "(I)I" } : MethodName)) ∈ lw_tbl := List.mem_append_right _ (List.mem_of_getElem? (i := 1367) (by decide +kernel))
theorem wd_1368 : (Cond.selects "HomeFreedModel" ({ cls := "HomeFreedModel", name := "size", desc := "(I)I" } : MethodName) ({ cls := "HomeFreedModel", name := "size", desc := "(I)I" } : MethodName)) ∈ lw_tbl := List.mem_append_right _ (List.mem_of_getElem? (i := 1368) (by decide +kernel))
theorem wd_1369 : (Cond.code ({ cls := "HomeFreedModel", name := "size", desc := "(I)I" } : MethodName) prog_13_method_71_code (2 : Nat) (Option.some ClassFile.FieldType.int)) ∈ lw_tbl := List.mem_append_right _ (List.mem_of_getElem? (i := 1369) (by decide +kernel))
theorem wd_1371 : (Cond.instanceMethod ({ cls := "HomeFreedModel", name := "page", desc := "(II)I" } : MethodName)) ∈ lw_tbl := List.mem_append_right _ (List.mem_of_getElem? (i := 1371) (by decide +kernel))
theorem wd_1372 : (Cond.selects "HomeFreedModel" ({ cls := "HomeFreedModel", name := "page", desc := "(II)I" } : MethodName) ({ cls := "HomeFreedModel", name := "page", desc := "(II)I" } : MethodName)) ∈ lw_tbl := List.mem_append_right _ (List.mem_of_getElem? (i := 1372) (by decide +kernel))
theorem wd_1373 : (Cond.code ({ cls := "HomeFreedModel", name := "page", desc := "(II)I" } : MethodName) prog_13_method_72_code (4 : Nat) (Option.some ClassFile.FieldType.int)) ∈ lw_tbl := List.mem_append_right _ (List.mem_of_getElem? (i := 1373) (by decide +kernel))
theorem wd_1374 : (Cond.methodLink "HomeFreedModel" (297 : Nat) ({ cls := "HomeFreedModel", name := "isPage", desc := "(I)Z" } : MethodName)) ∈ lw_tbl := List.mem_append_right _ (List.mem_of_getElem? (i := 1374) (by decide +kernel))
theorem wd_1376 : (Cond.instanceMethod ({ cls := "HomeFreedModel", name := "isPage", desc := "(I)Z" } : MethodName)) ∈ lw_tbl := List.mem_append_right _ (List.mem_of_getElem? (i := 1376) (by decide +kernel))
theorem wd_1377 : (Cond.code ({ cls := "HomeFreedModel", name := "isPage", desc := "(I)Z" } : MethodName) prog_13_method_28_code (2 : Nat) (Option.some ClassFile.FieldType.boolean)) ∈ lw_tbl := List.mem_append_right _ (List.mem_of_getElem? (i := 1377) (by decide +kernel))
theorem wd_1378 : (Cond.methodLink "HomeFreedModel" (170 : Nat) ({ cls := "HomeFreedModel", name := "of", desc := "(II)I" } : MethodName)) ∈ lw_tbl := List.mem_append_right _ (List.mem_of_getElem? (i := 1378) (by decide +kernel))
theorem wd_1380 : (Cond.instanceMethod ({ cls := "HomeFreedModel", name := "of", desc := "(II)I" } : MethodName)) ∈ lw_tbl := List.mem_append_right _ (List.mem_of_getElem? (i := 1380) (by decide +kernel))
theorem wd_1381 : (Cond.code ({ cls := "HomeFreedModel", name := "of", desc := "(II)I" } : MethodName) prog_13_method_29_code (3 : Nat) (Option.some ClassFile.FieldType.int)) ∈ lw_tbl := List.mem_append_right _ (List.mem_of_getElem? (i := 1381) (by decide +kernel))
theorem wd_1382 : (Cond.methodLink "HomeFreedModel" (241 : Nat) ({ cls := "HomeFreedModel", name := "isOwned", desc := "(I)Z" } : MethodName)) ∈ lw_tbl := List.mem_append_right _ (List.mem_of_getElem? (i := 1382) (by decide +kernel))
theorem wd_1384 : (Cond.instanceMethod ({ cls := "HomeFreedModel", name := "isOwned", desc := "(I)Z" } : MethodName)) ∈ lw_tbl := List.mem_append_right _ (List.mem_of_getElem? (i := 1384) (by decide +kernel))
theorem wd_1385 : (Cond.code ({ cls := "HomeFreedModel", name := "isOwned", desc := "(I)Z" } : MethodName) prog_13_method_43_code (2 : Nat) (Option.some ClassFile.FieldType.boolean)) ∈ lw_tbl := List.mem_append_right _ (List.mem_of_getElem? (i := 1385) (by decide +kernel))
theorem wd_1386 : (Cond.methodLink "HomeFreedModel" (201 : Nat) ({ cls := "HomeFreedModel", name := "usedOf", desc := "(I)I" } : MethodName)) ∈ lw_tbl := List.mem_append_right _ (List.mem_of_getElem? (i := 1386) (by decide +kernel))
theorem wd_1388 : (Cond.instanceMethod ({ cls := "HomeFreedModel", name := "usedOf", desc := "(I)I" } : MethodName)) ∈ lw_tbl := List.mem_append_right _ (List.mem_of_getElem? (i := 1388) (by decide +kernel))
theorem wd_1389 : (Cond.code ({ cls := "HomeFreedModel", name := "usedOf", desc := "(I)I" } : MethodName) prog_13_method_42_code (2 : Nat) (Option.some ClassFile.FieldType.int)) ∈ lw_tbl := List.mem_append_right _ (List.mem_of_getElem? (i := 1389) (by decide +kernel))
theorem wd_1390 : (Cond.methodLink "HomeFreedModel" (176 : Nat) ({ cls := "HomeFreedModel", name := "blocksOf", desc := "(I)I" } : MethodName)) ∈ lw_tbl := List.mem_append_right _ (List.mem_of_getElem? (i := 1390) (by decide +kernel))
theorem wd_1392 : (Cond.instanceMethod ({ cls := "HomeFreedModel", name := "blocksOf", desc := "(I)I" } : MethodName)) ∈ lw_tbl := List.mem_append_right _ (List.mem_of_getElem? (i := 1392) (by decide +kernel))
theorem wd_1393 : (Cond.code ({ cls := "HomeFreedModel", name := "blocksOf", desc := "(I)I" } : MethodName) prog_13_method_40_code (2 : Nat) (Option.some ClassFile.FieldType.int)) ∈ lw_tbl := List.mem_append_right _ (List.mem_of_getElem? (i := 1393) (by decide +kernel))
theorem wd_1394 : (Cond.methodLink "HomeFreedModel" (179 : Nat) ({ cls := "HomeFreedModel", name := "listedOf", desc := "(I)I" } : MethodName)) ∈ lw_tbl := List.mem_append_right _ (List.mem_of_getElem? (i := 1394) (by decide +kernel))
theorem wd_1396 : (Cond.instanceMethod ({ cls := "HomeFreedModel", name := "listedOf", desc := "(I)I" } : MethodName)) ∈ lw_tbl := List.mem_append_right _ (List.mem_of_getElem? (i := 1396) (by decide +kernel))
theorem wd_1397 : (Cond.code ({ cls := "HomeFreedModel", name := "listedOf", desc := "(I)I" } : MethodName) prog_13_method_41_code (2 : Nat) (Option.some ClassFile.FieldType.int)) ∈ lw_tbl := List.mem_append_right _ (List.mem_of_getElem? (i := 1397) (by decide +kernel))
theorem wd_1398 : (Cond.methodLink "HomeFreedModel" (173 : Nat) ({ cls := "HomeFreedModel", name := "listAt", desc := "(II)I" } : MethodName)) ∈ lw_tbl := List.mem_append_right _ (List.mem_of_getElem? (i := 1398) (by decide +kernel))
theorem wd_1399 : (Cond.static ({ cls := "HomeFreedModel", name := "listAt", desc := "(II)I" } : MethodName)) ∈ lw_tbl := List.mem_append_right _ (List.mem_of_getElem? (i := 1399) (by decide +kernel))
theorem wd_1400 : (Cond.code ({ cls := "HomeFreedModel", name := "listAt", desc := "(II)I" } : MethodName) prog_13_method_31_code (2 : Nat) (Option.some ClassFile.FieldType.int)) ∈ lw_tbl := List.mem_append_right _ (List.mem_of_getElem? (i := 1400) (by decide +kernel))
theorem wd_1402 : (Cond.instanceMethod ({ cls := "HomeFreedModel", name := "list", desc := "(III)I" } : MethodName)) ∈ lw_tbl := List.mem_append_right _ (List.mem_of_getElem? (i := 1402) (by decide +kernel))
theorem wd_1403 : (Cond.selects "HomeFreedModel" ({ cls := "HomeFreedModel", name := "list", desc := "(III)I" } : MethodName) ({ cls := "HomeFreedModel", name := "list", desc := "(III)I" } : MethodName)) ∈ lw_tbl := List.mem_append_right _ (List.mem_of_getElem? (i := 1403) (by decide +kernel))
theorem wd_1404 : (Cond.code ({ cls := "HomeFreedModel", name := "list", desc := "(III)I" } : MethodName) prog_13_method_73_code (4 : Nat) (Option.some ClassFile.FieldType.int)) ∈ lw_tbl := List.mem_append_right _ (List.mem_of_getElem? (i := 1404) (by decide +kernel))
theorem wd_1406 : (Cond.instanceMethod ({ cls := "HomeFreedModel", name := "thread", desc := "(II)I" } : MethodName)) ∈ lw_tbl := List.mem_append_right _ (List.mem_of_getElem? (i := 1406) (by decide +kernel))
theorem wd_1407 : (Cond.selects "HomeFreedModel" ({ cls := "HomeFreedModel", name := "thread", desc := "(II)I" } : MethodName) ({ cls := "HomeFreedModel", name := "thread", desc := "(II)I" } : MethodName)) ∈ lw_tbl := List.mem_append_right _ (List.mem_of_getElem? (i := 1407) (by decide +kernel))
theorem wd_1408 : (Cond.code ({ cls := "HomeFreedModel", name := "thread", desc := "(II)I" } : MethodName) prog_13_method_76_code (3 : Nat) (Option.some ClassFile.FieldType.int)) ∈ lw_tbl := List.mem_append_right _ (List.mem_of_getElem? (i := 1408) (by decide +kernel))
theorem wd_1409 : (Cond.methodLink "HomeFreedModel" (163 : Nat) ({ cls := "HomeFreedModel", name := "isThread", desc := "(I)Z" } : MethodName)) ∈ lw_tbl := List.mem_append_right _ (List.mem_of_getElem? (i := 1409) (by decide +kernel))
theorem wd_1411 : (Cond.instanceMethod ({ cls := "HomeFreedModel", name := "isThread", desc := "(I)Z" } : MethodName)) ∈ lw_tbl := List.mem_append_right _ (List.mem_of_getElem? (i := 1411) (by decide +kernel))
theorem wd_1412 : (Cond.code ({ cls := "HomeFreedModel", name := "isThread", desc := "(I)Z" } : MethodName) prog_13_method_26_code (2 : Nat) (Option.some ClassFile.FieldType.boolean)) ∈ lw_tbl := List.mem_append_right _ (List.mem_of_getElem? (i := 1412) (by decide +kernel))
theorem wd_1413 : (Cond.methodLink "HomeFreedModel" (300 : Nat) ({ cls := "HomeFreedModel", name := "ownedBy", desc := "(I)I" } : MethodName)) ∈ lw_tbl := List.mem_append_right _ (List.mem_of_getElem? (i := 1413) (by decide +kernel))
theorem wd_1415 : (Cond.instanceMethod ({ cls := "HomeFreedModel", name := "ownedBy", desc := "(I)I" } : MethodName)) ∈ lw_tbl := List.mem_append_right _ (List.mem_of_getElem? (i := 1415) (by decide +kernel))
theorem wd_1416 : (Cond.code ({ cls := "HomeFreedModel", name := "ownedBy", desc := "(I)I" } : MethodName) prog_13_method_74_code (4 : Nat) (Option.some ClassFile.FieldType.int)) ∈ lw_tbl := List.mem_append_right _ (List.mem_of_getElem? (i := 1416) (by decide +kernel))
theorem wd_1417 : (Cond.methodLink "HomeFreedModel" (253 : Nat) ({ cls := "HomeFreedModel", name := "isOf", desc := "(II)Z" } : MethodName)) ∈ lw_tbl := List.mem_append_right _ (List.mem_of_getElem? (i := 1417) (by decide +kernel))
theorem wd_1419 : (Cond.instanceMethod ({ cls := "HomeFreedModel", name := "isOf", desc := "(II)Z" } : MethodName)) ∈ lw_tbl := List.mem_append_right _ (List.mem_of_getElem? (i := 1419) (by decide +kernel))
theorem wd_1420 : (Cond.code ({ cls := "HomeFreedModel", name := "isOf", desc := "(II)Z" } : MethodName) prog_13_method_60_code (3 : Nat) (Option.some ClassFile.FieldType.boolean)) ∈ lw_tbl := List.mem_append_right _ (List.mem_of_getElem? (i := 1420) (by decide +kernel))
theorem wd_1421 : (Cond.methodLink "HomeFreedModel" (303 : Nat) ({ cls := "HomeFreedModel", name := "boxedBy", desc := "(I)I" } : MethodName)) ∈ lw_tbl := List.mem_append_right _ (List.mem_of_getElem? (i := 1421) (by decide +kernel))
theorem wd_1423 : (Cond.instanceMethod ({ cls := "HomeFreedModel", name := "boxedBy", desc := "(I)I" } : MethodName)) ∈ lw_tbl := List.mem_append_right _ (List.mem_of_getElem? (i := 1423) (by decide +kernel))
theorem wd_1424 : (Cond.code ({ cls := "HomeFreedModel", name := "boxedBy", desc := "(I)I" } : MethodName) prog_13_method_75_code (4 : Nat) (Option.some ClassFile.FieldType.int)) ∈ lw_tbl := List.mem_append_right _ (List.mem_of_getElem? (i := 1424) (by decide +kernel))
theorem wd_1425 : (Cond.methodLink "HomeFreedModel" (238 : Nat) ({ cls := "HomeFreedModel", name := "boxAt", desc := "(II)I" } : MethodName)) ∈ lw_tbl := List.mem_append_right _ (List.mem_of_getElem? (i := 1425) (by decide +kernel))
theorem wd_1426 : (Cond.static ({ cls := "HomeFreedModel", name := "boxAt", desc := "(II)I" } : MethodName)) ∈ lw_tbl := List.mem_append_right _ (List.mem_of_getElem? (i := 1426) (by decide +kernel))
theorem wd_1427 : (Cond.code ({ cls := "HomeFreedModel", name := "boxAt", desc := "(II)I" } : MethodName) prog_13_method_33_code (2 : Nat) (Option.some ClassFile.FieldType.int)) ∈ lw_tbl := List.mem_append_right _ (List.mem_of_getElem? (i := 1427) (by decide +kernel))
theorem wd_1429 : (Cond.instanceMethod ({ cls := "HomeFreedModel", name := "queue", desc := "(III)I" } : MethodName)) ∈ lw_tbl := List.mem_append_right _ (List.mem_of_getElem? (i := 1429) (by decide +kernel))
theorem wd_1430 : (Cond.selects "HomeFreedModel" ({ cls := "HomeFreedModel", name := "queue", desc := "(III)I" } : MethodName) ({ cls := "HomeFreedModel", name := "queue", desc := "(III)I" } : MethodName)) ∈ lw_tbl := List.mem_append_right _ (List.mem_of_getElem? (i := 1430) (by decide +kernel))
theorem wd_1431 : (Cond.code ({ cls := "HomeFreedModel", name := "queue", desc := "(III)I" } : MethodName) prog_13_method_77_code (4 : Nat) (Option.some ClassFile.FieldType.int)) ∈ lw_tbl := List.mem_append_right _ (List.mem_of_getElem? (i := 1431) (by decide +kernel))
theorem wd_1432 : (Cond.methodLink "HomeFreedModel" (182 : Nat) ({ cls := "HomeFreedModel", name := "queueAt", desc := "(II)I" } : MethodName)) ∈ lw_tbl := List.mem_append_right _ (List.mem_of_getElem? (i := 1432) (by decide +kernel))
theorem wd_1433 : (Cond.static ({ cls := "HomeFreedModel", name := "queueAt", desc := "(II)I" } : MethodName)) ∈ lw_tbl := List.mem_append_right _ (List.mem_of_getElem? (i := 1433) (by decide +kernel))
theorem wd_1434 : (Cond.code ({ cls := "HomeFreedModel", name := "queueAt", desc := "(II)I" } : MethodName) prog_13_method_32_code (2 : Nat) (Option.some ClassFile.FieldType.int)) ∈ lw_tbl := List.mem_append_right _ (List.mem_of_getElem? (i := 1434) (by decide +kernel))
theorem wd_1436 : (Cond.instanceMethod ({ cls := "HomeFreedModel", name := "outbox", desc := "(III)I" } : MethodName)) ∈ lw_tbl := List.mem_append_right _ (List.mem_of_getElem? (i := 1436) (by decide +kernel))
theorem wd_1437 : (Cond.selects "HomeFreedModel" ({ cls := "HomeFreedModel", name := "outbox", desc := "(III)I" } : MethodName) ({ cls := "HomeFreedModel", name := "outbox", desc := "(III)I" } : MethodName)) ∈ lw_tbl := List.mem_append_right _ (List.mem_of_getElem? (i := 1437) (by decide +kernel))
theorem wd_1438 : (Cond.code ({ cls := "HomeFreedModel", name := "outbox", desc := "(III)I" } : MethodName) prog_13_method_78_code (4 : Nat) (Option.some ClassFile.FieldType.int)) ∈ lw_tbl := List.mem_append_right _ (List.mem_of_getElem? (i := 1438) (by decide +kernel))
theorem wd_1440 : (Cond.instanceMethod ({ cls := "HomeFreedModel", name := "held", desc := "(I)I" } : MethodName)) ∈ lw_tbl := List.mem_append_right _ (List.mem_of_getElem? (i := 1440) (by decide +kernel))
theorem wd_1441 : (Cond.selects "HomeFreedModel" ({ cls := "HomeFreedModel", name := "held", desc := "(I)I" } : MethodName) ({ cls := "HomeFreedModel", name := "held", desc := "(I)I" } : MethodName)) ∈ lw_tbl := List.mem_append_right _ (List.mem_of_getElem? (i := 1441) (by decide +kernel))
theorem wd_1442 : (Cond.code ({ cls := "HomeFreedModel", name := "held", desc := "(I)I" } : MethodName) prog_13_method_81_code (2 : Nat) (Option.some ClassFile.FieldType.int)) ∈ lw_tbl := List.mem_append_right _ (List.mem_of_getElem? (i := 1442) (by decide +kernel))
theorem wd_1443 : (Cond.methodLink "HomeFreedModel" (306 : Nat) ({ cls := "HomeFreedModel", name := "isBlock", desc := "(I)Z" } : MethodName)) ∈ lw_tbl := List.mem_append_right _ (List.mem_of_getElem? (i := 1443) (by decide +kernel))
theorem wd_1445 : (Cond.instanceMethod ({ cls := "HomeFreedModel", name := "isBlock", desc := "(I)Z" } : MethodName)) ∈ lw_tbl := List.mem_append_right _ (List.mem_of_getElem? (i := 1445) (by decide +kernel))
theorem wd_1446 : (Cond.code ({ cls := "HomeFreedModel", name := "isBlock", desc := "(I)Z" } : MethodName) prog_13_method_79_code (2 : Nat) (Option.some ClassFile.FieldType.boolean)) ∈ lw_tbl := List.mem_append_right _ (List.mem_of_getElem? (i := 1446) (by decide +kernel))
theorem wd_1447 : (Cond.methodLink "HomeFreedModel" (309 : Nat) ({ cls := "HomeFreedModel", name := "isHeld", desc := "(I)Z" } : MethodName)) ∈ lw_tbl := List.mem_append_right _ (List.mem_of_getElem? (i := 1447) (by decide +kernel))
theorem wd_1449 : (Cond.instanceMethod ({ cls := "HomeFreedModel", name := "isHeld", desc := "(I)Z" } : MethodName)) ∈ lw_tbl := List.mem_append_right _ (List.mem_of_getElem? (i := 1449) (by decide +kernel))
theorem wd_1450 : (Cond.code ({ cls := "HomeFreedModel", name := "isHeld", desc := "(I)Z" } : MethodName) prog_13_method_80_code (2 : Nat) (Option.some ClassFile.FieldType.boolean)) ∈ lw_tbl := List.mem_append_right _ (List.mem_of_getElem? (i := 1450) (by decide +kernel))
theorem wd_1452 : (Cond.instanceMethod ({ cls := "HomeFreedModel", name := "get", desc := "(II)I" } : MethodName)) ∈ lw_tbl := List.mem_append_right _ (List.mem_of_getElem? (i := 1452) (by decide +kernel))
theorem wd_1453 : (Cond.selects "HomeFreedModel" ({ cls := "HomeFreedModel", name := "get", desc := "(II)I" } : MethodName) ({ cls := "HomeFreedModel", name := "get", desc := "(II)I" } : MethodName)) ∈ lw_tbl := List.mem_append_right _ (List.mem_of_getElem? (i := 1453) (by decide +kernel))
theorem wd_1454 : (Cond.code ({ cls := "HomeFreedModel", name := "get", desc := "(II)I" } : MethodName) prog_13_method_85_code (4 : Nat) (Option.some ClassFile.FieldType.int)) ∈ lw_tbl := List.mem_append_right _ (List.mem_of_getElem? (i := 1454) (by decide +kernel))
theorem wd_1455 : (Cond.methodLink "HomeFreedModel" (312 : Nat) ({ cls := "HomeFreedModel", name := "isAsked", desc := "(I)Z" } : MethodName)) ∈ lw_tbl := List.mem_append_right _ (List.mem_of_getElem? (i := 1455) (by decide +kernel))
theorem wd_1457 : (Cond.instanceMethod ({ cls := "HomeFreedModel", name := "isAsked", desc := "(I)Z" } : MethodName)) ∈ lw_tbl := List.mem_append_right _ (List.mem_of_getElem? (i := 1457) (by decide +kernel))
theorem wd_1458 : (Cond.code ({ cls := "HomeFreedModel", name := "isAsked", desc := "(I)Z" } : MethodName) prog_13_method_84_code (2 : Nat) (Option.some ClassFile.FieldType.boolean)) ∈ lw_tbl := List.mem_append_right _ (List.mem_of_getElem? (i := 1458) (by decide +kernel))
theorem wd_1459 : (Cond.methodLink "HomeFreedModel" (263 : Nat) ({ cls := "HomeFreedModel", name := "classFor", desc := "(I)I" } : MethodName)) ∈ lw_tbl := List.mem_append_right _ (List.mem_of_getElem? (i := 1459) (by decide +kernel))
theorem wd_1461 : (Cond.instanceMethod ({ cls := "HomeFreedModel", name := "classFor", desc := "(I)I" } : MethodName)) ∈ lw_tbl := List.mem_append_right _ (List.mem_of_getElem? (i := 1461) (by decide +kernel))
theorem wd_1462 : (Cond.code ({ cls := "HomeFreedModel", name := "classFor", desc := "(I)I" } : MethodName) prog_13_method_49_code (3 : Nat) (Option.some ClassFile.FieldType.int)) ∈ lw_tbl := List.mem_append_right _ (List.mem_of_getElem? (i := 1462) (by decide +kernel))
theorem wd_1463 : (Cond.methodLink "HomeFreedModel" (260 : Nat) ({ cls := "HomeFreedModel", name := "doesLive", desc := "(I)Z" } : MethodName)) ∈ lw_tbl := List.mem_append_right _ (List.mem_of_getElem? (i := 1463) (by decide +kernel))
theorem wd_1465 : (Cond.instanceMethod ({ cls := "HomeFreedModel", name := "doesLive", desc := "(I)Z" } : MethodName)) ∈ lw_tbl := List.mem_append_right _ (List.mem_of_getElem? (i := 1465) (by decide +kernel))
theorem wd_1466 : (Cond.code ({ cls := "HomeFreedModel", name := "doesLive", desc := "(I)Z" } : MethodName) prog_13_method_27_code (2 : Nat) (Option.some ClassFile.FieldType.boolean)) ∈ lw_tbl := List.mem_append_right _ (List.mem_of_getElem? (i := 1466) (by decide +kernel))
theorem wd_1467 : (Cond.methodLink "HomeFreedModel" (229 : Nat) ({ cls := "HomeFreedModel", name := "canGet", desc := "(II)Z" } : MethodName)) ∈ lw_tbl := List.mem_append_right _ (List.mem_of_getElem? (i := 1467) (by decide +kernel))
theorem wd_1469 : (Cond.instanceMethod ({ cls := "HomeFreedModel", name := "canGet", desc := "(II)Z" } : MethodName)) ∈ lw_tbl := List.mem_append_right _ (List.mem_of_getElem? (i := 1469) (by decide +kernel))
theorem wd_1470 : (Cond.code ({ cls := "HomeFreedModel", name := "canGet", desc := "(II)Z" } : MethodName) prog_13_method_51_code (5 : Nat) (Option.some ClassFile.FieldType.boolean)) ∈ lw_tbl := List.mem_append_right _ (List.mem_of_getElem? (i := 1470) (by decide +kernel))
theorem wd_1471 : (Cond.methodLink "HomeFreedModel" (207 : Nat) ({ cls := "HomeFreedModel", name := "otherPage", desc := "(IZ)I" } : MethodName)) ∈ lw_tbl := List.mem_append_right _ (List.mem_of_getElem? (i := 1471) (by decide +kernel))
theorem wd_1473 : (Cond.instanceMethod ({ cls := "HomeFreedModel", name := "otherPage", desc := "(IZ)I" } : MethodName)) ∈ lw_tbl := List.mem_append_right _ (List.mem_of_getElem? (i := 1473) (by decide +kernel))
theorem wd_1474 : (Cond.code ({ cls := "HomeFreedModel", name := "otherPage", desc := "(IZ)I" } : MethodName) prog_13_method_50_code (5 : Nat) (Option.some ClassFile.FieldType.int)) ∈ lw_tbl := List.mem_append_right _ (List.mem_of_getElem? (i := 1474) (by decide +kernel))
theorem wd_1475 : (Cond.methodLink "HomeFreedModel" (315 : Nat) ({ cls := "HomeFreedModel", name := "isRefused", desc := "(I)Z" } : MethodName)) ∈ lw_tbl := List.mem_append_right _ (List.mem_of_getElem? (i := 1475) (by decide +kernel))
theorem wd_1477 : (Cond.instanceMethod ({ cls := "HomeFreedModel", name := "isRefused", desc := "(I)Z" } : MethodName)) ∈ lw_tbl := List.mem_append_right _ (List.mem_of_getElem? (i := 1477) (by decide +kernel))
theorem wd_1478 : (Cond.code ({ cls := "HomeFreedModel", name := "isRefused", desc := "(I)Z" } : MethodName) prog_13_method_83_code (2 : Nat) (Option.some ClassFile.FieldType.boolean)) ∈ lw_tbl := List.mem_append_right _ (List.mem_of_getElem? (i := 1478) (by decide +kernel))
theorem wd_1479 : (Cond.methodLink "HomeFreedModel" (318 : Nat) ({ cls := "HomeFreedModel", name := "keep", desc := "()V" } : MethodName)) ∈ lw_tbl := List.mem_append_right _ (List.mem_of_getElem? (i := 1479) (by decide +kernel))
theorem wd_1481 : (Cond.instanceMethod ({ cls := "HomeFreedModel", name := "keep", desc := "()V" } : MethodName)) ∈ lw_tbl := List.mem_append_right _ (List.mem_of_getElem? (i := 1481) (by decide +kernel))
theorem wd_1482 : (Cond.code ({ cls := "HomeFreedModel", name := "keep", desc := "()V" } : MethodName) prog_13_method_82_code (2 : Nat) (Option.none : Option ClassFile.FieldType)) ∈ lw_tbl := List.mem_append_right _ (List.mem_of_getElem? (i := 1482) (by decide +kernel))
theorem wd_1483 : (Cond.methodLink "HomeFreedModel" (275 : Nat) ({ cls := "HomeFreedModel", name := "getNow", desc := "(II)I" } : MethodName)) ∈ lw_tbl := List.mem_append_right _ (List.mem_of_getElem? (i := 1483) (by decide +kernel))
theorem wd_1485 : (Cond.instanceMethod ({ cls := "HomeFreedModel", name := "getNow", desc := "(II)I" } : MethodName)) ∈ lw_tbl := List.mem_append_right _ (List.mem_of_getElem? (i := 1485) (by decide +kernel))
theorem wd_1486 : (Cond.code ({ cls := "HomeFreedModel", name := "getNow", desc := "(II)I" } : MethodName) prog_13_method_55_code (5 : Nat) (Option.some ClassFile.FieldType.int)) ∈ lw_tbl := List.mem_append_right _ (List.mem_of_getElem? (i := 1486) (by decide +kernel))
theorem wd_1487 : (Cond.methodLink "HomeFreedModel" (232 : Nat) ({ cls := "HomeFreedModel", name := "getOnce", desc := "(II)I" } : MethodName)) ∈ lw_tbl := List.mem_append_right _ (List.mem_of_getElem? (i := 1487) (by decide +kernel))
theorem wd_1489 : (Cond.instanceMethod ({ cls := "HomeFreedModel", name := "getOnce", desc := "(II)I" } : MethodName)) ∈ lw_tbl := List.mem_append_right _ (List.mem_of_getElem? (i := 1489) (by decide +kernel))
theorem wd_1490 : (Cond.code ({ cls := "HomeFreedModel", name := "getOnce", desc := "(II)I" } : MethodName) prog_13_method_54_code (8 : Nat) (Option.some ClassFile.FieldType.int)) ∈ lw_tbl := List.mem_append_right _ (List.mem_of_getElem? (i := 1490) (by decide +kernel))
theorem wd_1491 : (Cond.methodLink "HomeFreedModel" (220 : Nat) ({ cls := "HomeFreedModel", name := "collect", desc := "(I)I" } : MethodName)) ∈ lw_tbl := List.mem_append_right _ (List.mem_of_getElem? (i := 1491) (by decide +kernel))
theorem wd_1493 : (Cond.instanceMethod ({ cls := "HomeFreedModel", name := "collect", desc := "(I)I" } : MethodName)) ∈ lw_tbl := List.mem_append_right _ (List.mem_of_getElem? (i := 1493) (by decide +kernel))
theorem wd_1494 : (Cond.code ({ cls := "HomeFreedModel", name := "collect", desc := "(I)I" } : MethodName) prog_13_method_52_code (4 : Nat) (Option.some ClassFile.FieldType.int)) ∈ lw_tbl := List.mem_append_right _ (List.mem_of_getElem? (i := 1494) (by decide +kernel))
theorem wd_1495 : (Cond.methodLink "HomeFreedModel" (211 : Nat) ({ cls := "HomeFreedModel", name := "moveAhead", desc := "(II)V" } : MethodName)) ∈ lw_tbl := List.mem_append_right _ (List.mem_of_getElem? (i := 1495) (by decide +kernel))
theorem wd_1497 : (Cond.instanceMethod ({ cls := "HomeFreedModel", name := "moveAhead", desc := "(II)V" } : MethodName)) ∈ lw_tbl := List.mem_append_right _ (List.mem_of_getElem? (i := 1497) (by decide +kernel))
theorem wd_1498 : (Cond.code ({ cls := "HomeFreedModel", name := "moveAhead", desc := "(II)V" } : MethodName) prog_13_method_38_code (4 : Nat) (Option.none : Option ClassFile.FieldType)) ∈ lw_tbl := List.mem_append_right _ (List.mem_of_getElem? (i := 1498) (by decide +kernel))
theorem wd_1499 : (Cond.methodLink "HomeFreedModel" (166 : Nat) ({ cls := "HomeFreedModel", name := "addFirst", desc := "(II)V" } : MethodName)) ∈ lw_tbl := List.mem_append_right _ (List.mem_of_getElem? (i := 1499) (by decide +kernel))
theorem wd_1501 : (Cond.instanceMethod ({ cls := "HomeFreedModel", name := "addFirst", desc := "(II)V" } : MethodName)) ∈ lw_tbl := List.mem_append_right _ (List.mem_of_getElem? (i := 1501) (by decide +kernel))
theorem wd_1502 : (Cond.code ({ cls := "HomeFreedModel", name := "addFirst", desc := "(II)V" } : MethodName) prog_13_method_35_code (4 : Nat) (Option.none : Option ClassFile.FieldType)) ∈ lw_tbl := List.mem_append_right _ (List.mem_of_getElem? (i := 1502) (by decide +kernel))
theorem wd_1503 : (Cond.methodLink "HomeFreedModel" (223 : Nat) ({ cls := "HomeFreedModel", name := "takeBlock", desc := "(II)I" } : MethodName)) ∈ lw_tbl := List.mem_append_right _ (List.mem_of_getElem? (i := 1503) (by decide +kernel))
theorem wd_1505 : (Cond.instanceMethod ({ cls := "HomeFreedModel", name := "takeBlock", desc := "(II)I" } : MethodName)) ∈ lw_tbl := List.mem_append_right _ (List.mem_of_getElem? (i := 1505) (by decide +kernel))
theorem wd_1506 : (Cond.code ({ cls := "HomeFreedModel", name := "takeBlock", desc := "(II)I" } : MethodName) prog_13_method_53_code (4 : Nat) (Option.some ClassFile.FieldType.int)) ∈ lw_tbl := List.mem_append_right _ (List.mem_of_getElem? (i := 1506) (by decide +kernel))
theorem wd_1507 : (Cond.methodLink "HomeFreedModel" (214 : Nat) ({ cls := "HomeFreedModel", name := "takeFirst", desc := "(I)I" } : MethodName)) ∈ lw_tbl := List.mem_append_right _ (List.mem_of_getElem? (i := 1507) (by decide +kernel))
theorem wd_1509 : (Cond.instanceMethod ({ cls := "HomeFreedModel", name := "takeFirst", desc := "(I)I" } : MethodName)) ∈ lw_tbl := List.mem_append_right _ (List.mem_of_getElem? (i := 1509) (by decide +kernel))
theorem wd_1510 : (Cond.code ({ cls := "HomeFreedModel", name := "takeFirst", desc := "(I)I" } : MethodName) prog_13_method_36_code (4 : Nat) (Option.some ClassFile.FieldType.int)) ∈ lw_tbl := List.mem_append_right _ (List.mem_of_getElem? (i := 1510) (by decide +kernel))
theorem wd_1511 : (Cond.methodLink "HomeFreedModel" (185 : Nat) ({ cls := "HomeFreedModel", name := "set", desc := "(III)V" } : MethodName)) ∈ lw_tbl := List.mem_append_right _ (List.mem_of_getElem? (i := 1511) (by decide +kernel))
theorem wd_1513 : (Cond.instanceMethod ({ cls := "HomeFreedModel", name := "set", desc := "(III)V" } : MethodName)) ∈ lw_tbl := List.mem_append_right _ (List.mem_of_getElem? (i := 1513) (by decide +kernel))
theorem wd_1514 : (Cond.code ({ cls := "HomeFreedModel", name := "set", desc := "(III)V" } : MethodName) prog_13_method_30_code (4 : Nat) (Option.none : Option ClassFile.FieldType)) ∈ lw_tbl := List.mem_append_right _ (List.mem_of_getElem? (i := 1514) (by decide +kernel))
theorem wd_1515 : (Cond.methodLink "HomeFreedModel" (192 : Nat) ({ cls := "HomeFreedModel", name := "addLast", desc := "(II)V" } : MethodName)) ∈ lw_tbl := List.mem_append_right _ (List.mem_of_getElem? (i := 1515) (by decide +kernel))
theorem wd_1517 : (Cond.instanceMethod ({ cls := "HomeFreedModel", name := "addLast", desc := "(II)V" } : MethodName)) ∈ lw_tbl := List.mem_append_right _ (List.mem_of_getElem? (i := 1517) (by decide +kernel))
theorem wd_1518 : (Cond.code ({ cls := "HomeFreedModel", name := "addLast", desc := "(II)V" } : MethodName) prog_13_method_34_code (3 : Nat) (Option.none : Option ClassFile.FieldType)) ∈ lw_tbl := List.mem_append_right _ (List.mem_of_getElem? (i := 1518) (by decide +kernel))
theorem wd_1519 : (Cond.methodLink "HomeFreedModel" (226 : Nat) ({ cls := "HomeFreedModel", name := "enqueue", desc := "(I)V" } : MethodName)) ∈ lw_tbl := List.mem_append_right _ (List.mem_of_getElem? (i := 1519) (by decide +kernel))
theorem wd_1521 : (Cond.instanceMethod ({ cls := "HomeFreedModel", name := "enqueue", desc := "(I)V" } : MethodName)) ∈ lw_tbl := List.mem_append_right _ (List.mem_of_getElem? (i := 1521) (by decide +kernel))
theorem wd_1522 : (Cond.code ({ cls := "HomeFreedModel", name := "enqueue", desc := "(I)V" } : MethodName) prog_13_method_45_code (2 : Nat) (Option.none : Option ClassFile.FieldType)) ∈ lw_tbl := List.mem_append_right _ (List.mem_of_getElem? (i := 1522) (by decide +kernel))
theorem wd_1523 : (Cond.methodLink "HomeFreedModel" (189 : Nat) ({ cls := "HomeFreedModel", name := "ownQueue", desc := "(I)I" } : MethodName)) ∈ lw_tbl := List.mem_append_right _ (List.mem_of_getElem? (i := 1523) (by decide +kernel))
theorem wd_1525 : (Cond.instanceMethod ({ cls := "HomeFreedModel", name := "ownQueue", desc := "(I)I" } : MethodName)) ∈ lw_tbl := List.mem_append_right _ (List.mem_of_getElem? (i := 1525) (by decide +kernel))
theorem wd_1526 : (Cond.code ({ cls := "HomeFreedModel", name := "ownQueue", desc := "(I)I" } : MethodName) prog_13_method_44_code (2 : Nat) (Option.some ClassFile.FieldType.int)) ∈ lw_tbl := List.mem_append_right _ (List.mem_of_getElem? (i := 1526) (by decide +kernel))
theorem wd_1527 : (Cond.methodLink "HomeFreedModel" (235 : Nat) ({ cls := "HomeFreedModel", name := "tickNow", desc := "(I)V" } : MethodName)) ∈ lw_tbl := List.mem_append_right _ (List.mem_of_getElem? (i := 1527) (by decide +kernel))
theorem wd_1529 : (Cond.instanceMethod ({ cls := "HomeFreedModel", name := "tickNow", desc := "(I)V" } : MethodName)) ∈ lw_tbl := List.mem_append_right _ (List.mem_of_getElem? (i := 1529) (by decide +kernel))
theorem wd_1530 : (Cond.code ({ cls := "HomeFreedModel", name := "tickNow", desc := "(I)V" } : MethodName) prog_13_method_61_code (3 : Nat) (Option.none : Option ClassFile.FieldType)) ∈ lw_tbl := List.mem_append_right _ (List.mem_of_getElem? (i := 1530) (by decide +kernel))
theorem wd_1531 : (Cond.methodLink "HomeFreedModel" (250 : Nat) ({ cls := "HomeFreedModel", name := "sendNow", desc := "(I)I" } : MethodName)) ∈ lw_tbl := List.mem_append_right _ (List.mem_of_getElem? (i := 1531) (by decide +kernel))
theorem wd_1533 : (Cond.instanceMethod ({ cls := "HomeFreedModel", name := "sendNow", desc := "(I)I" } : MethodName)) ∈ lw_tbl := List.mem_append_right _ (List.mem_of_getElem? (i := 1533) (by decide +kernel))
theorem wd_1534 : (Cond.code ({ cls := "HomeFreedModel", name := "sendNow", desc := "(I)I" } : MethodName) prog_13_method_59_code (4 : Nat) (Option.some ClassFile.FieldType.int)) ∈ lw_tbl := List.mem_append_right _ (List.mem_of_getElem? (i := 1534) (by decide +kernel))
theorem wd_1535 : (Cond.methodLink "HomeFreedModel" (247 : Nat) ({ cls := "HomeFreedModel", name := "goHome", desc := "(II)I" } : MethodName)) ∈ lw_tbl := List.mem_append_right _ (List.mem_of_getElem? (i := 1535) (by decide +kernel))
theorem wd_1537 : (Cond.instanceMethod ({ cls := "HomeFreedModel", name := "goHome", desc := "(II)I" } : MethodName)) ∈ lw_tbl := List.mem_append_right _ (List.mem_of_getElem? (i := 1537) (by decide +kernel))
theorem wd_1538 : (Cond.code ({ cls := "HomeFreedModel", name := "goHome", desc := "(II)I" } : MethodName) prog_13_method_57_code (4 : Nat) (Option.some ClassFile.FieldType.int)) ∈ lw_tbl := List.mem_append_right _ (List.mem_of_getElem? (i := 1538) (by decide +kernel))
theorem wd_1539 : (Cond.methodLink "HomeFreedModel" (204 : Nat) ({ cls := "HomeFreedModel", name := "makeEmpty", desc := "(I)V" } : MethodName)) ∈ lw_tbl := List.mem_append_right _ (List.mem_of_getElem? (i := 1539) (by decide +kernel))
theorem wd_1541 : (Cond.instanceMethod ({ cls := "HomeFreedModel", name := "makeEmpty", desc := "(I)V" } : MethodName)) ∈ lw_tbl := List.mem_append_right _ (List.mem_of_getElem? (i := 1541) (by decide +kernel))
theorem wd_1542 : (Cond.code ({ cls := "HomeFreedModel", name := "makeEmpty", desc := "(I)V" } : MethodName) prog_13_method_47_code (3 : Nat) (Option.none : Option ClassFile.FieldType)) ∈ lw_tbl := List.mem_append_right _ (List.mem_of_getElem? (i := 1542) (by decide +kernel))
theorem wd_1543 : (Cond.methodLink "HomeFreedModel" (198 : Nat) ({ cls := "HomeFreedModel", name := "leaveQueue", desc := "(I)V" } : MethodName)) ∈ lw_tbl := List.mem_append_right _ (List.mem_of_getElem? (i := 1543) (by decide +kernel))
theorem wd_1545 : (Cond.instanceMethod ({ cls := "HomeFreedModel", name := "leaveQueue", desc := "(I)V" } : MethodName)) ∈ lw_tbl := List.mem_append_right _ (List.mem_of_getElem? (i := 1545) (by decide +kernel))
theorem wd_1546 : (Cond.code ({ cls := "HomeFreedModel", name := "leaveQueue", desc := "(I)V" } : MethodName) prog_13_method_46_code (2 : Nat) (Option.none : Option ClassFile.FieldType)) ∈ lw_tbl := List.mem_append_right _ (List.mem_of_getElem? (i := 1546) (by decide +kernel))
theorem wd_1547 : (Cond.methodLink "HomeFreedModel" (195 : Nat) ({ cls := "HomeFreedModel", name := "takeOut", desc := "(II)V" } : MethodName)) ∈ lw_tbl := List.mem_append_right _ (List.mem_of_getElem? (i := 1547) (by decide +kernel))
theorem wd_1549 : (Cond.instanceMethod ({ cls := "HomeFreedModel", name := "takeOut", desc := "(II)V" } : MethodName)) ∈ lw_tbl := List.mem_append_right _ (List.mem_of_getElem? (i := 1549) (by decide +kernel))
theorem wd_1550 : (Cond.code ({ cls := "HomeFreedModel", name := "takeOut", desc := "(II)V" } : MethodName) prog_13_method_37_code (5 : Nat) (Option.none : Option ClassFile.FieldType)) ∈ lw_tbl := List.mem_append_right _ (List.mem_of_getElem? (i := 1550) (by decide +kernel))
theorem wd_1551 : (Cond.methodLink "HomeFreedModel" (244 : Nat) ({ cls := "HomeFreedModel", name := "giveBack", desc := "(I)V" } : MethodName)) ∈ lw_tbl := List.mem_append_right _ (List.mem_of_getElem? (i := 1551) (by decide +kernel))
theorem wd_1553 : (Cond.instanceMethod ({ cls := "HomeFreedModel", name := "giveBack", desc := "(I)V" } : MethodName)) ∈ lw_tbl := List.mem_append_right _ (List.mem_of_getElem? (i := 1553) (by decide +kernel))
theorem wd_1554 : (Cond.code ({ cls := "HomeFreedModel", name := "giveBack", desc := "(I)V" } : MethodName) prog_13_method_48_code (2 : Nat) (Option.none : Option ClassFile.FieldType)) ∈ lw_tbl := List.mem_append_right _ (List.mem_of_getElem? (i := 1554) (by decide +kernel))
theorem wd_1555 : (Cond.methodLink "HomeFreedModel" (278 : Nat) ({ cls := "HomeFreedModel", name := "note", desc := "(II)V" } : MethodName)) ∈ lw_tbl := List.mem_append_right _ (List.mem_of_getElem? (i := 1555) (by decide +kernel))
theorem wd_1557 : (Cond.instanceMethod ({ cls := "HomeFreedModel", name := "note", desc := "(II)V" } : MethodName)) ∈ lw_tbl := List.mem_append_right _ (List.mem_of_getElem? (i := 1557) (by decide +kernel))
theorem wd_1558 : (Cond.code ({ cls := "HomeFreedModel", name := "note", desc := "(II)V" } : MethodName) prog_13_method_56_code (4 : Nat) (Option.none : Option ClassFile.FieldType)) ∈ lw_tbl := List.mem_append_right _ (List.mem_of_getElem? (i := 1558) (by decide +kernel))
theorem wd_1560 : (Cond.instanceMethod ({ cls := "HomeFreedModel", name := "free", desc := "(II)I" } : MethodName)) ∈ lw_tbl := List.mem_append_right _ (List.mem_of_getElem? (i := 1560) (by decide +kernel))
theorem wd_1561 : (Cond.selects "HomeFreedModel" ({ cls := "HomeFreedModel", name := "free", desc := "(II)I" } : MethodName) ({ cls := "HomeFreedModel", name := "free", desc := "(II)I" } : MethodName)) ∈ lw_tbl := List.mem_append_right _ (List.mem_of_getElem? (i := 1561) (by decide +kernel))
theorem wd_1562 : (Cond.code ({ cls := "HomeFreedModel", name := "free", desc := "(II)I" } : MethodName) prog_13_method_86_code (3 : Nat) (Option.some ClassFile.FieldType.int)) ∈ lw_tbl := List.mem_append_right _ (List.mem_of_getElem? (i := 1562) (by decide +kernel))
theorem wd_1563 : (Cond.methodLink "HomeFreedModel" (272 : Nat) ({ cls := "HomeFreedModel", name := "freeNow", desc := "(II)I" } : MethodName)) ∈ lw_tbl := List.mem_append_right _ (List.mem_of_getElem? (i := 1563) (by decide +kernel))
theorem wd_1565 : (Cond.instanceMethod ({ cls := "HomeFreedModel", name := "freeNow", desc := "(II)I" } : MethodName)) ∈ lw_tbl := List.mem_append_right _ (List.mem_of_getElem? (i := 1565) (by decide +kernel))
theorem wd_1566 : (Cond.code ({ cls := "HomeFreedModel", name := "freeNow", desc := "(II)I" } : MethodName) prog_13_method_58_code (5 : Nat) (Option.some ClassFile.FieldType.int)) ∈ lw_tbl := List.mem_append_right _ (List.mem_of_getElem? (i := 1566) (by decide +kernel))
theorem wd_1568 : (Cond.instanceMethod ({ cls := "HomeFreedModel", name := "tick", desc := "(I)I" } : MethodName)) ∈ lw_tbl := List.mem_append_right _ (List.mem_of_getElem? (i := 1568) (by decide +kernel))
theorem wd_1569 : (Cond.selects "HomeFreedModel" ({ cls := "HomeFreedModel", name := "tick", desc := "(I)I" } : MethodName) ({ cls := "HomeFreedModel", name := "tick", desc := "(I)I" } : MethodName)) ∈ lw_tbl := List.mem_append_right _ (List.mem_of_getElem? (i := 1569) (by decide +kernel))
theorem wd_1570 : (Cond.code ({ cls := "HomeFreedModel", name := "tick", desc := "(I)I" } : MethodName) prog_13_method_87_code (2 : Nat) (Option.some ClassFile.FieldType.int)) ∈ lw_tbl := List.mem_append_right _ (List.mem_of_getElem? (i := 1570) (by decide +kernel))
theorem wd_1572 : (Cond.instanceMethod ({ cls := "HomeFreedModel", name := "send", desc := "(I)I" } : MethodName)) ∈ lw_tbl := List.mem_append_right _ (List.mem_of_getElem? (i := 1572) (by decide +kernel))
theorem wd_1573 : (Cond.selects "HomeFreedModel" ({ cls := "HomeFreedModel", name := "send", desc := "(I)I" } : MethodName) ({ cls := "HomeFreedModel", name := "send", desc := "(I)I" } : MethodName)) ∈ lw_tbl := List.mem_append_right _ (List.mem_of_getElem? (i := 1573) (by decide +kernel))
theorem wd_1574 : (Cond.code ({ cls := "HomeFreedModel", name := "send", desc := "(I)I" } : MethodName) prog_13_method_88_code (2 : Nat) (Option.some ClassFile.FieldType.int)) ∈ lw_tbl := List.mem_append_right _ (List.mem_of_getElem? (i := 1574) (by decide +kernel))
theorem wd_1576 : (Cond.instanceMethod ({ cls := "HomeFreedModel", name := "turn", desc := "(I)I" } : MethodName)) ∈ lw_tbl := List.mem_append_right _ (List.mem_of_getElem? (i := 1576) (by decide +kernel))
theorem wd_1577 : (Cond.selects "HomeFreedModel" ({ cls := "HomeFreedModel", name := "turn", desc := "(I)I" } : MethodName) ({ cls := "HomeFreedModel", name := "turn", desc := "(I)I" } : MethodName)) ∈ lw_tbl := List.mem_append_right _ (List.mem_of_getElem? (i := 1577) (by decide +kernel))
theorem wd_1578 : (Cond.code ({ cls := "HomeFreedModel", name := "turn", desc := "(I)I" } : MethodName) prog_13_method_89_code (2 : Nat) (Option.some ClassFile.FieldType.int)) ∈ lw_tbl := List.mem_append_right _ (List.mem_of_getElem? (i := 1578) (by decide +kernel))
theorem wd_1579 : (Cond.methodLink "HomeFreedModel" (285 : Nat) ({ cls := "HomeFreedModel", name := "turnNow", desc := "(I)V" } : MethodName)) ∈ lw_tbl := List.mem_append_right _ (List.mem_of_getElem? (i := 1579) (by decide +kernel))
theorem wd_1581 : (Cond.instanceMethod ({ cls := "HomeFreedModel", name := "turnNow", desc := "(I)V" } : MethodName)) ∈ lw_tbl := List.mem_append_right _ (List.mem_of_getElem? (i := 1581) (by decide +kernel))
theorem wd_1582 : (Cond.code ({ cls := "HomeFreedModel", name := "turnNow", desc := "(I)V" } : MethodName) prog_13_method_62_code (3 : Nat) (Option.none : Option ClassFile.FieldType)) ∈ lw_tbl := List.mem_append_right _ (List.mem_of_getElem? (i := 1582) (by decide +kernel))
theorem wd_1584 : (Cond.instanceMethod ({ cls := "HomeFreedModel", name := "perform", desc := "(I)I" } : MethodName)) ∈ lw_tbl := List.mem_append_right _ (List.mem_of_getElem? (i := 1584) (by decide +kernel))
theorem wd_1585 : (Cond.selects "HomeFreedModel" ({ cls := "HomeFreedModel", name := "perform", desc := "(I)I" } : MethodName) ({ cls := "HomeFreedModel", name := "perform", desc := "(I)I" } : MethodName)) ∈ lw_tbl := List.mem_append_right _ (List.mem_of_getElem? (i := 1585) (by decide +kernel))
theorem wd_1586 : (Cond.code ({ cls := "HomeFreedModel", name := "perform", desc := "(I)I" } : MethodName) prog_13_method_91_code (2 : Nat) (Option.some ClassFile.FieldType.int)) ∈ lw_tbl := List.mem_append_right _ (List.mem_of_getElem? (i := 1586) (by decide +kernel))
theorem wd_1587 : (Cond.methodLink "HomeFreedModel" (321 : Nat) ({ cls := "HomeFreedModel", name := "isScript", desc := "(I)Z" } : MethodName)) ∈ lw_tbl := List.mem_append_right _ (List.mem_of_getElem? (i := 1587) (by decide +kernel))
theorem wd_1589 : (Cond.instanceMethod ({ cls := "HomeFreedModel", name := "isScript", desc := "(I)Z" } : MethodName)) ∈ lw_tbl := List.mem_append_right _ (List.mem_of_getElem? (i := 1589) (by decide +kernel))
theorem wd_1590 : (Cond.code ({ cls := "HomeFreedModel", name := "isScript", desc := "(I)Z" } : MethodName) prog_13_method_90_code (2 : Nat) (Option.some ClassFile.FieldType.boolean)) ∈ lw_tbl := List.mem_append_right _ (List.mem_of_getElem? (i := 1590) (by decide +kernel))
theorem wd_1591 : (Cond.methodLink "HomeFreedModel" (324 : Nat) ({ cls := "HomeFreedModel", name := "runScript", desc := "(IZ)I" } : MethodName)) ∈ lw_tbl := List.mem_append_right _ (List.mem_of_getElem? (i := 1591) (by decide +kernel))
theorem wd_1593 : (Cond.instanceMethod ({ cls := "HomeFreedModel", name := "runScript", desc := "(IZ)I" } : MethodName)) ∈ lw_tbl := List.mem_append_right _ (List.mem_of_getElem? (i := 1593) (by decide +kernel))
theorem wd_1594 : (Cond.code ({ cls := "HomeFreedModel", name := "runScript", desc := "(IZ)I" } : MethodName) prog_13_method_69_code (4 : Nat) (Option.some ClassFile.FieldType.int)) ∈ lw_tbl := List.mem_append_right _ (List.mem_of_getElem? (i := 1594) (by decide +kernel))
theorem wd_1595 : (Cond.methodLink "HomeFreedModel" (291 : Nat) ({ cls := "HomeFreedModel", name := "canStep", desc := "(III)Z" } : MethodName)) ∈ lw_tbl := List.mem_append_right _ (List.mem_of_getElem? (i := 1595) (by decide +kernel))
theorem wd_1597 : (Cond.instanceMethod ({ cls := "HomeFreedModel", name := "canStep", desc := "(III)Z" } : MethodName)) ∈ lw_tbl := List.mem_append_right _ (List.mem_of_getElem? (i := 1597) (by decide +kernel))
theorem wd_1598 : (Cond.code ({ cls := "HomeFreedModel", name := "canStep", desc := "(III)Z" } : MethodName) prog_13_method_64_code (6 : Nat) (Option.some ClassFile.FieldType.boolean)) ∈ lw_tbl := List.mem_append_right _ (List.mem_of_getElem? (i := 1598) (by decide +kernel))
theorem wd_1599 : (Cond.methodLink "HomeFreedModel" (256 : Nat) ({ cls := "HomeFreedModel", name := "stepOf", desc := "(III)I" } : MethodName)) ∈ lw_tbl := List.mem_append_right _ (List.mem_of_getElem? (i := 1599) (by decide +kernel))
theorem wd_1601 : (Cond.instanceMethod ({ cls := "HomeFreedModel", name := "stepOf", desc := "(III)I" } : MethodName)) ∈ lw_tbl := List.mem_append_right _ (List.mem_of_getElem? (i := 1601) (by decide +kernel))
theorem wd_1602 : (Cond.code ({ cls := "HomeFreedModel", name := "stepOf", desc := "(III)I" } : MethodName) prog_13_method_63_code (4 : Nat) (Option.some ClassFile.FieldType.int)) ∈ lw_tbl := List.mem_append_right _ (List.mem_of_getElem? (i := 1602) (by decide +kernel))
theorem wd_1603 : (Cond.methodLink "HomeFreedModel" (294 : Nat) ({ cls := "HomeFreedModel", name := "doStep", desc := "(IIIZ)V" } : MethodName)) ∈ lw_tbl := List.mem_append_right _ (List.mem_of_getElem? (i := 1603) (by decide +kernel))
theorem wd_1605 : (Cond.instanceMethod ({ cls := "HomeFreedModel", name := "doStep", desc := "(IIIZ)V" } : MethodName)) ∈ lw_tbl := List.mem_append_right _ (List.mem_of_getElem? (i := 1605) (by decide +kernel))
theorem wd_1606 : (Cond.code ({ cls := "HomeFreedModel", name := "doStep", desc := "(IIIZ)V" } : MethodName) prog_13_method_68_code (7 : Nat) (Option.none : Option ClassFile.FieldType)) ∈ lw_tbl := List.mem_append_right _ (List.mem_of_getElem? (i := 1606) (by decide +kernel))
theorem wd_1607 : (Cond.methodLink "HomeFreedModel" (281 : Nat) ({ cls := "HomeFreedModel", name := "stepGet", desc := "(IIIZ)V" } : MethodName)) ∈ lw_tbl := List.mem_append_right _ (List.mem_of_getElem? (i := 1607) (by decide +kernel))
theorem wd_1609 : (Cond.instanceMethod ({ cls := "HomeFreedModel", name := "stepGet", desc := "(IIIZ)V" } : MethodName)) ∈ lw_tbl := List.mem_append_right _ (List.mem_of_getElem? (i := 1609) (by decide +kernel))
theorem wd_1610 : (Cond.code ({ cls := "HomeFreedModel", name := "stepGet", desc := "(IIIZ)V" } : MethodName) prog_13_method_67_code (6 : Nat) (Option.none : Option ClassFile.FieldType)) ∈ lw_tbl := List.mem_append_right _ (List.mem_of_getElem? (i := 1610) (by decide +kernel))
theorem wd_1611 : (Cond.methodLink "HomeFreedModel" (288 : Nat) ({ cls := "HomeFreedModel", name := "endScope", desc := "()V" } : MethodName)) ∈ lw_tbl := List.mem_append_right _ (List.mem_of_getElem? (i := 1611) (by decide +kernel))
theorem wd_1613 : (Cond.instanceMethod ({ cls := "HomeFreedModel", name := "endScope", desc := "()V" } : MethodName)) ∈ lw_tbl := List.mem_append_right _ (List.mem_of_getElem? (i := 1613) (by decide +kernel))
theorem wd_1614 : (Cond.code ({ cls := "HomeFreedModel", name := "endScope", desc := "()V" } : MethodName) prog_13_method_66_code (3 : Nat) (Option.none : Option ClassFile.FieldType)) ∈ lw_tbl := List.mem_append_right _ (List.mem_of_getElem? (i := 1614) (by decide +kernel))
theorem wd_1615 : (Cond.methodLink "HomeFreedModel" (269 : Nat) ({ cls := "HomeFreedModel", name := "lowestLiving", desc := "()I" } : MethodName)) ∈ lw_tbl := List.mem_append_right _ (List.mem_of_getElem? (i := 1615) (by decide +kernel))
theorem wd_1617 : (Cond.instanceMethod ({ cls := "HomeFreedModel", name := "lowestLiving", desc := "()I" } : MethodName)) ∈ lw_tbl := List.mem_append_right _ (List.mem_of_getElem? (i := 1617) (by decide +kernel))
theorem wd_1618 : (Cond.code ({ cls := "HomeFreedModel", name := "lowestLiving", desc := "()I" } : MethodName) prog_13_method_65_code (2 : Nat) (Option.some ClassFile.FieldType.int)) ∈ lw_tbl := List.mem_append_right _ (List.mem_of_getElem? (i := 1618) (by decide +kernel))
theorem wd_1620 : (Cond.instanceMethod ({ cls := "HomeFreedModel", name := "years", desc := "(IJ)I" } : MethodName)) ∈ lw_tbl := List.mem_append_right _ (List.mem_of_getElem? (i := 1620) (by decide +kernel))
theorem wd_1621 : (Cond.selects "HomeFreedModel" ({ cls := "HomeFreedModel", name := "years", desc := "(IJ)I" } : MethodName) ({ cls := "HomeFreedModel", name := "years", desc := "(IJ)I" } : MethodName)) ∈ lw_tbl := List.mem_append_right _ (List.mem_of_getElem? (i := 1621) (by decide +kernel))
theorem wd_1622 : (Cond.code ({ cls := "HomeFreedModel", name := "years", desc := "(IJ)I" } : MethodName) prog_13_method_96_code (5 : Nat) (Option.some ClassFile.FieldType.int)) ∈ lw_tbl := List.mem_append_right _ (List.mem_of_getElem? (i := 1622) (by decide +kernel))
theorem wd_1623 : (Cond.methodLink "HomeFreedModel" (344 : Nat) ({ cls := "HomeFreedModel", name := "drawOnce", desc := "()V" } : MethodName)) ∈ lw_tbl := List.mem_append_right _ (List.mem_of_getElem? (i := 1623) (by decide +kernel))
theorem wd_1625 : (Cond.instanceMethod ({ cls := "HomeFreedModel", name := "drawOnce", desc := "()V" } : MethodName)) ∈ lw_tbl := List.mem_append_right _ (List.mem_of_getElem? (i := 1625) (by decide +kernel))
theorem wd_1626 : (Cond.code ({ cls := "HomeFreedModel", name := "drawOnce", desc := "()V" } : MethodName) prog_13_method_95_code (4 : Nat) (Option.none : Option ClassFile.FieldType)) ∈ lw_tbl := List.mem_append_right _ (List.mem_of_getElem? (i := 1626) (by decide +kernel))
theorem wd_1627 : (Cond.methodLink "HomeFreedModel" (335 : Nat) ({ cls := "HomeFreedModel", name := "draw", desc := "(I)I" } : MethodName)) ∈ lw_tbl := List.mem_append_right _ (List.mem_of_getElem? (i := 1627) (by decide +kernel))
theorem wd_1629 : (Cond.instanceMethod ({ cls := "HomeFreedModel", name := "draw", desc := "(I)I" } : MethodName)) ∈ lw_tbl := List.mem_append_right _ (List.mem_of_getElem? (i := 1629) (by decide +kernel))
theorem wd_1630 : (Cond.code ({ cls := "HomeFreedModel", name := "draw", desc := "(I)I" } : MethodName) prog_13_method_93_code (2 : Nat) (Option.some ClassFile.FieldType.int)) ∈ lw_tbl := List.mem_append_right _ (List.mem_of_getElem? (i := 1630) (by decide +kernel))
theorem wd_1631 : (Cond.constantLong "HomeFreedModel" (331 : Nat) (6364136223846793005 : Int64)) ∈ lw_tbl := List.mem_append_right _ (List.mem_of_getElem? (i := 1631) (by decide +kernel))
theorem wd_1632 : (Cond.constantLong "HomeFreedModel" (333 : Nat) (1442695040888963407 : Int64)) ∈ lw_tbl := List.mem_append_right _ (List.mem_of_getElem? (i := 1632) (by decide +kernel))
theorem wd_1633 : (Cond.methodLink "HomeFreedModel" (338 : Nat) ({ cls := "HomeFreedModel", name := "heldMany", desc := "()I" } : MethodName)) ∈ lw_tbl := List.mem_append_right _ (List.mem_of_getElem? (i := 1633) (by decide +kernel))
theorem wd_1635 : (Cond.instanceMethod ({ cls := "HomeFreedModel", name := "heldMany", desc := "()I" } : MethodName)) ∈ lw_tbl := List.mem_append_right _ (List.mem_of_getElem? (i := 1635) (by decide +kernel))
theorem wd_1636 : (Cond.code ({ cls := "HomeFreedModel", name := "heldMany", desc := "()I" } : MethodName) prog_13_method_92_code (4 : Nat) (Option.some ClassFile.FieldType.int)) ∈ lw_tbl := List.mem_append_right _ (List.mem_of_getElem? (i := 1636) (by decide +kernel))
theorem wd_1637 : (Cond.methodLink "HomeFreedModel" (341 : Nat) ({ cls := "HomeFreedModel", name := "heldAt", desc := "(I)I" } : MethodName)) ∈ lw_tbl := List.mem_append_right _ (List.mem_of_getElem? (i := 1637) (by decide +kernel))
theorem wd_1639 : (Cond.instanceMethod ({ cls := "HomeFreedModel", name := "heldAt", desc := "(I)I" } : MethodName)) ∈ lw_tbl := List.mem_append_right _ (List.mem_of_getElem? (i := 1639) (by decide +kernel))
theorem wd_1640 : (Cond.code ({ cls := "HomeFreedModel", name := "heldAt", desc := "(I)I" } : MethodName) prog_13_method_94_code (5 : Nat) (Option.some ClassFile.FieldType.int)) ∈ lw_tbl := List.mem_append_right _ (List.mem_of_getElem? (i := 1640) (by decide +kernel))
theorem wd_1642 : (Cond.instanceMethod ({ cls := "HomeFreedModel", name := "status", desc := "(I)I" } : MethodName)) ∈ lw_tbl := List.mem_append_right _ (List.mem_of_getElem? (i := 1642) (by decide +kernel))
theorem wd_1643 : (Cond.selects "HomeFreedModel" ({ cls := "HomeFreedModel", name := "status", desc := "(I)I" } : MethodName) ({ cls := "HomeFreedModel", name := "status", desc := "(I)I" } : MethodName)) ∈ lw_tbl := List.mem_append_right _ (List.mem_of_getElem? (i := 1643) (by decide +kernel))
theorem wd_1644 : (Cond.code ({ cls := "HomeFreedModel", name := "status", desc := "(I)I" } : MethodName) prog_13_method_97_code (2 : Nat) (Option.some ClassFile.FieldType.int)) ∈ lw_tbl := List.mem_append_right _ (List.mem_of_getElem? (i := 1644) (by decide +kernel))
theorem wd_1646 : (Cond.instanceMethod ({ cls := "HomeFreedModel", name := "undo", desc := "()I" } : MethodName)) ∈ lw_tbl := List.mem_append_right _ (List.mem_of_getElem? (i := 1646) (by decide +kernel))
theorem wd_1647 : (Cond.selects "HomeFreedModel" ({ cls := "HomeFreedModel", name := "undo", desc := "()I" } : MethodName) ({ cls := "HomeFreedModel", name := "undo", desc := "()I" } : MethodName)) ∈ lw_tbl := List.mem_append_right _ (List.mem_of_getElem? (i := 1647) (by decide +kernel))
theorem wd_1648 : (Cond.code ({ cls := "HomeFreedModel", name := "undo", desc := "()I" } : MethodName) prog_13_method_98_code (2 : Nat) (Option.some ClassFile.FieldType.int)) ∈ lw_tbl := List.mem_append_right _ (List.mem_of_getElem? (i := 1648) (by decide +kernel))
theorem wd_1650 : (Cond.instanceMethod ({ cls := "HomeFreedModel", name := "log", desc := "(II)I" } : MethodName)) ∈ lw_tbl := List.mem_append_right _ (List.mem_of_getElem? (i := 1650) (by decide +kernel))
theorem wd_1651 : (Cond.selects "HomeFreedModel" ({ cls := "HomeFreedModel", name := "log", desc := "(II)I" } : MethodName) ({ cls := "HomeFreedModel", name := "log", desc := "(II)I" } : MethodName)) ∈ lw_tbl := List.mem_append_right _ (List.mem_of_getElem? (i := 1651) (by decide +kernel))
theorem wd_1652 : (Cond.code ({ cls := "HomeFreedModel", name := "log", desc := "(II)I" } : MethodName) prog_13_method_99_code (3 : Nat) (Option.some ClassFile.FieldType.int)) ∈ lw_tbl := List.mem_append_right _ (List.mem_of_getElem? (i := 1652) (by decide +kernel))
theorem wd_1654 : (Cond.instanceMethod ({ cls := "HomeFreedModel", name := "step", desc := "(III)I" } : MethodName)) ∈ lw_tbl := List.mem_append_right _ (List.mem_of_getElem? (i := 1654) (by decide +kernel))
theorem wd_1655 : (Cond.selects "HomeFreedModel" ({ cls := "HomeFreedModel", name := "step", desc := "(III)I" } : MethodName) ({ cls := "HomeFreedModel", name := "step", desc := "(III)I" } : MethodName)) ∈ lw_tbl := List.mem_append_right _ (List.mem_of_getElem? (i := 1655) (by decide +kernel))
theorem wd_1656 : (Cond.code ({ cls := "HomeFreedModel", name := "step", desc := "(III)I" } : MethodName) prog_13_method_100_code (4 : Nat) (Option.some ClassFile.FieldType.int)) ∈ lw_tbl := List.mem_append_right _ (List.mem_of_getElem? (i := 1656) (by decide +kernel))
theorem wd_1657 : (Cond.constant "HomeFreedModel" (347 : Nat) (-1000000 : Int32)) ∈ lw_tbl := List.mem_append_right _ (List.mem_of_getElem? (i := 1657) (by decide +kernel))
theorem wd_1659 : (Cond.instanceMethod ({ cls := "HomeFreedModel", name := "waste", desc := "(I)I" } : MethodName)) ∈ lw_tbl := List.mem_append_right _ (List.mem_of_getElem? (i := 1659) (by decide +kernel))
theorem wd_1660 : (Cond.selects "HomeFreedModel" ({ cls := "HomeFreedModel", name := "waste", desc := "(I)I" } : MethodName) ({ cls := "HomeFreedModel", name := "waste", desc := "(I)I" } : MethodName)) ∈ lw_tbl := List.mem_append_right _ (List.mem_of_getElem? (i := 1660) (by decide +kernel))
theorem wd_1661 : (Cond.code ({ cls := "HomeFreedModel", name := "waste", desc := "(I)I" } : MethodName) prog_13_method_102_code (2 : Nat) (Option.some ClassFile.FieldType.int)) ∈ lw_tbl := List.mem_append_right _ (List.mem_of_getElem? (i := 1661) (by decide +kernel))
theorem wd_1662 : (Cond.methodLink "HomeFreedModel" (348 : Nat) ({ cls := "HomeFreedModel", name := "worst", desc := "()I" } : MethodName)) ∈ lw_tbl := List.mem_append_right _ (List.mem_of_getElem? (i := 1662) (by decide +kernel))
theorem wd_1664 : (Cond.instanceMethod ({ cls := "HomeFreedModel", name := "worst", desc := "()I" } : MethodName)) ∈ lw_tbl := List.mem_append_right _ (List.mem_of_getElem? (i := 1664) (by decide +kernel))
theorem wd_1665 : (Cond.code ({ cls := "HomeFreedModel", name := "worst", desc := "()I" } : MethodName) prog_13_method_101_code (5 : Nat) (Option.some ClassFile.FieldType.int)) ∈ lw_tbl := List.mem_append_right _ (List.mem_of_getElem? (i := 1665) (by decide +kernel))
theorem wd_1667 : (Cond.instanceMethod ({ cls := "HomeFreedModel", name := "classes", desc := "(II)I" } : MethodName)) ∈ lw_tbl := List.mem_append_right _ (List.mem_of_getElem? (i := 1667) (by decide +kernel))
theorem wd_1668 : (Cond.selects "HomeFreedModel" ({ cls := "HomeFreedModel", name := "classes", desc := "(II)I" } : MethodName) ({ cls := "HomeFreedModel", name := "classes", desc := "(II)I" } : MethodName)) ∈ lw_tbl := List.mem_append_right _ (List.mem_of_getElem? (i := 1668) (by decide +kernel))
theorem wd_1669 : (Cond.code ({ cls := "HomeFreedModel", name := "classes", desc := "(II)I" } : MethodName) prog_13_method_103_code (7 : Nat) (Option.some ClassFile.FieldType.int)) ∈ lw_tbl := List.mem_append_right _ (List.mem_of_getElem? (i := 1669) (by decide +kernel))
theorem wd_1671 : (Cond.instanceMethod ({ cls := "HomeFreedModel", name := "would", desc := "(II)I" } : MethodName)) ∈ lw_tbl := List.mem_append_right _ (List.mem_of_getElem? (i := 1671) (by decide +kernel))
theorem wd_1672 : (Cond.selects "HomeFreedModel" ({ cls := "HomeFreedModel", name := "would", desc := "(II)I" } : MethodName) ({ cls := "HomeFreedModel", name := "would", desc := "(II)I" } : MethodName)) ∈ lw_tbl := List.mem_append_right _ (List.mem_of_getElem? (i := 1672) (by decide +kernel))
theorem wd_1673 : (Cond.code ({ cls := "HomeFreedModel", name := "would", desc := "(II)I" } : MethodName) prog_13_method_106_code (4 : Nat) (Option.some ClassFile.FieldType.int)) ∈ lw_tbl := List.mem_append_right _ (List.mem_of_getElem? (i := 1673) (by decide +kernel))
theorem wd_1674 : (Cond.methodLink "HomeFreedModel" (351 : Nat) ({ cls := "HomeFreedModel", name := "putAside", desc := "(I)V" } : MethodName)) ∈ lw_tbl := List.mem_append_right _ (List.mem_of_getElem? (i := 1674) (by decide +kernel))
theorem wd_1676 : (Cond.instanceMethod ({ cls := "HomeFreedModel", name := "putAside", desc := "(I)V" } : MethodName)) ∈ lw_tbl := List.mem_append_right _ (List.mem_of_getElem? (i := 1676) (by decide +kernel))
theorem wd_1677 : (Cond.code ({ cls := "HomeFreedModel", name := "putAside", desc := "(I)V" } : MethodName) prog_13_method_104_code (3 : Nat) (Option.none : Option ClassFile.FieldType)) ∈ lw_tbl := List.mem_append_right _ (List.mem_of_getElem? (i := 1677) (by decide +kernel))
theorem wd_1678 : (Cond.methodLink "HomeFreedModel" (354 : Nat) ({ cls := "HomeFreedModel", name := "takeBack", desc := "(I)V" } : MethodName)) ∈ lw_tbl := List.mem_append_right _ (List.mem_of_getElem? (i := 1678) (by decide +kernel))
theorem wd_1680 : (Cond.instanceMethod ({ cls := "HomeFreedModel", name := "takeBack", desc := "(I)V" } : MethodName)) ∈ lw_tbl := List.mem_append_right _ (List.mem_of_getElem? (i := 1680) (by decide +kernel))
theorem wd_1681 : (Cond.code ({ cls := "HomeFreedModel", name := "takeBack", desc := "(I)V" } : MethodName) prog_13_method_105_code (3 : Nat) (Option.none : Option ClassFile.FieldType)) ∈ lw_tbl := List.mem_append_right _ (List.mem_of_getElem? (i := 1681) (by decide +kernel))
theorem wd_1683 : (Cond.instanceMethod ({ cls := "HomeFreedModel", name := "where", desc := "(II)I" } : MethodName)) ∈ lw_tbl := List.mem_append_right _ (List.mem_of_getElem? (i := 1683) (by decide +kernel))
theorem wd_1684 : (Cond.selects "HomeFreedModel" ({ cls := "HomeFreedModel", name := "where", desc := "(II)I" } : MethodName) ({ cls := "HomeFreedModel", name := "where", desc := "(II)I" } : MethodName)) ∈ lw_tbl := List.mem_append_right _ (List.mem_of_getElem? (i := 1684) (by decide +kernel))
theorem wd_1685 : (Cond.code ({ cls := "HomeFreedModel", name := "where", desc := "(II)I" } : MethodName) prog_13_method_107_code (7 : Nat) (Option.some ClassFile.FieldType.int)) ∈ lw_tbl := List.mem_append_right _ (List.mem_of_getElem? (i := 1685) (by decide +kernel))
theorem wd_1686 : (Cond.methodLink "HomeFreedModel" (357 : Nat) ({ cls := "HomeFreedModel", name := "placeIn", desc := "(II)I" } : MethodName)) ∈ lw_tbl := List.mem_append_right _ (List.mem_of_getElem? (i := 1686) (by decide +kernel))
theorem wd_1688 : (Cond.instanceMethod ({ cls := "HomeFreedModel", name := "placeIn", desc := "(II)I" } : MethodName)) ∈ lw_tbl := List.mem_append_right _ (List.mem_of_getElem? (i := 1688) (by decide +kernel))
theorem wd_1689 : (Cond.code ({ cls := "HomeFreedModel", name := "placeIn", desc := "(II)I" } : MethodName) prog_13_method_39_code (4 : Nat) (Option.some ClassFile.FieldType.int)) ∈ lw_tbl := List.mem_append_right _ (List.mem_of_getElem? (i := 1689) (by decide +kernel))
theorem wd_1691 : (Cond.instanceMethod ({ cls := "HomeFreedModel", name := "series", desc := "(III)I" } : MethodName)) ∈ lw_tbl := List.mem_append_right _ (List.mem_of_getElem? (i := 1691) (by decide +kernel))
theorem wd_1692 : (Cond.selects "HomeFreedModel" ({ cls := "HomeFreedModel", name := "series", desc := "(III)I" } : MethodName) ({ cls := "HomeFreedModel", name := "series", desc := "(III)I" } : MethodName)) ∈ lw_tbl := List.mem_append_right _ (List.mem_of_getElem? (i := 1692) (by decide +kernel))
theorem wd_1693 : (Cond.code ({ cls := "HomeFreedModel", name := "series", desc := "(III)I" } : MethodName) prog_13_method_108_code (6 : Nat) (Option.some ClassFile.FieldType.int)) ∈ lw_tbl := List.mem_append_right _ (List.mem_of_getElem? (i := 1693) (by decide +kernel))
theorem wd_1695 : (Cond.instanceMethod ({ cls := "HomeFreedModel", name := "run", desc := "(II)I" } : MethodName)) ∈ lw_tbl := List.mem_append_right _ (List.mem_of_getElem? (i := 1695) (by decide +kernel))
theorem wd_1696 : (Cond.selects "HomeFreedModel" ({ cls := "HomeFreedModel", name := "run", desc := "(II)I" } : MethodName) ({ cls := "HomeFreedModel", name := "run", desc := "(II)I" } : MethodName)) ∈ lw_tbl := List.mem_append_right _ (List.mem_of_getElem? (i := 1696) (by decide +kernel))
theorem wd_1697 : (Cond.code ({ cls := "HomeFreedModel", name := "run", desc := "(II)I" } : MethodName) prog_13_method_110_code (5 : Nat) (Option.some ClassFile.FieldType.int)) ∈ lw_tbl := List.mem_append_right _ (List.mem_of_getElem? (i := 1697) (by decide +kernel))
theorem wd_1698 : (Cond.methodLink "HomeFreedModel" (360 : Nat) ({ cls := "HomeFreedModel", name := "pagesInUse", desc := "()I" } : MethodName)) ∈ lw_tbl := List.mem_append_right _ (List.mem_of_getElem? (i := 1698) (by decide +kernel))
theorem wd_1700 : (Cond.instanceMethod ({ cls := "HomeFreedModel", name := "pagesInUse", desc := "()I" } : MethodName)) ∈ lw_tbl := List.mem_append_right _ (List.mem_of_getElem? (i := 1700) (by decide +kernel))
theorem wd_1701 : (Cond.code ({ cls := "HomeFreedModel", name := "pagesInUse", desc := "()I" } : MethodName) prog_13_method_109_code (3 : Nat) (Option.some ClassFile.FieldType.int)) ∈ lw_tbl := List.mem_append_right _ (List.mem_of_getElem? (i := 1701) (by decide +kernel))
theorem wd_1703 : (Cond.instanceMethod ({ cls := "HomeFreedModel", name := "ways", desc := "(III)I" } : MethodName)) ∈ lw_tbl := List.mem_append_right _ (List.mem_of_getElem? (i := 1703) (by decide +kernel))
theorem wd_1704 : (Cond.selects "HomeFreedModel" ({ cls := "HomeFreedModel", name := "ways", desc := "(III)I" } : MethodName) ({ cls := "HomeFreedModel", name := "ways", desc := "(III)I" } : MethodName)) ∈ lw_tbl := List.mem_append_right _ (List.mem_of_getElem? (i := 1704) (by decide +kernel))
theorem wd_1705 : (Cond.code ({ cls := "HomeFreedModel", name := "ways", desc := "(III)I" } : MethodName) prog_13_method_114_code (5 : Nat) (Option.some ClassFile.FieldType.int)) ∈ lw_tbl := List.mem_append_right _ (List.mem_of_getElem? (i := 1705) (by decide +kernel))
theorem wd_1706 : (Cond.methodLink "HomeFreedModel" (387 : Nat) ({ cls := "HomeFreedModel", name := "isFew", desc := "(I)Z" } : MethodName)) ∈ lw_tbl := List.mem_append_right _ (List.mem_of_getElem? (i := 1706) (by decide +kernel))
theorem wd_1708 : (Cond.instanceMethod ({ cls := "HomeFreedModel", name := "isFew", desc := "(I)Z" } : MethodName)) ∈ lw_tbl := List.mem_append_right _ (List.mem_of_getElem? (i := 1708) (by decide +kernel))
theorem wd_1709 : (Cond.code ({ cls := "HomeFreedModel", name := "isFew", desc := "(I)Z" } : MethodName) prog_13_method_113_code (4 : Nat) (Option.some ClassFile.FieldType.boolean)) ∈ lw_tbl := List.mem_append_right _ (List.mem_of_getElem? (i := 1709) (by decide +kernel))
theorem wd_1710 : (Cond.methodLink "HomeFreedModel" (383 : Nat) ({ cls := "HomeFreedModel", name := "goWays", desc := "(IIII)V" } : MethodName)) ∈ lw_tbl := List.mem_append_right _ (List.mem_of_getElem? (i := 1710) (by decide +kernel))
theorem wd_1712 : (Cond.instanceMethod ({ cls := "HomeFreedModel", name := "goWays", desc := "(IIII)V" } : MethodName)) ∈ lw_tbl := List.mem_append_right _ (List.mem_of_getElem? (i := 1712) (by decide +kernel))
theorem wd_1713 : (Cond.code ({ cls := "HomeFreedModel", name := "goWays", desc := "(IIII)V" } : MethodName) prog_13_method_112_code (10 : Nat) (Option.none : Option ClassFile.FieldType)) ∈ lw_tbl := List.mem_append_right _ (List.mem_of_getElem? (i := 1713) (by decide +kernel))
theorem wd_1714 : (Cond.methodLink "HomeFreedModel" (380 : Nat) ({ cls := "HomeFreedModel", name := "endWay", desc := "()V" } : MethodName)) ∈ lw_tbl := List.mem_append_right _ (List.mem_of_getElem? (i := 1714) (by decide +kernel))
theorem wd_1716 : (Cond.instanceMethod ({ cls := "HomeFreedModel", name := "endWay", desc := "()V" } : MethodName)) ∈ lw_tbl := List.mem_append_right _ (List.mem_of_getElem? (i := 1716) (by decide +kernel))
theorem wd_1717 : (Cond.code ({ cls := "HomeFreedModel", name := "endWay", desc := "()V" } : MethodName) prog_13_method_111_code (1 : Nat) (Option.none : Option ClassFile.FieldType)) ∈ lw_tbl := List.mem_append_right _ (List.mem_of_getElem? (i := 1717) (by decide +kernel))
theorem wd_1718 : (Cond.methodLink "HomeFreedModel" (366 : Nat) ({ cls := "java/lang/Math", name := "max", desc := "(II)I" } : MethodName)) ∈ lw_tbl := List.mem_append_right _ (List.mem_of_getElem? (i := 1718) (by decide +kernel))
theorem wd_1719 : (Cond.methodLink "HomeFreedModel" (374 : Nat) ({ cls := "java/lang/Math", name := "min", desc := "(II)I" } : MethodName)) ∈ lw_tbl := List.mem_append_right _ (List.mem_of_getElem? (i := 1719) (by decide +kernel))
theorem wd_1721 : (Cond.instanceMethod ({ cls := "HomeFreedModel", name := "shares", desc := "(II)I" } : MethodName)) ∈ lw_tbl := List.mem_append_right _ (List.mem_of_getElem? (i := 1721) (by decide +kernel))
theorem wd_1722 : (Cond.selects "HomeFreedModel" ({ cls := "HomeFreedModel", name := "shares", desc := "(II)I" } : MethodName) ({ cls := "HomeFreedModel", name := "shares", desc := "(II)I" } : MethodName)) ∈ lw_tbl := List.mem_append_right _ (List.mem_of_getElem? (i := 1722) (by decide +kernel))
theorem wd_1723 : (Cond.code ({ cls := "HomeFreedModel", name := "shares", desc := "(II)I" } : MethodName) prog_13_method_116_code (3 : Nat) (Option.some ClassFile.FieldType.int)) ∈ lw_tbl := List.mem_append_right _ (List.mem_of_getElem? (i := 1723) (by decide +kernel))
theorem wd_1724 : (Cond.methodLink "HomeFreedModel" (393 : Nat) ({ cls := "HomeFreedModel", name := "usedBy", desc := "(I)I" } : MethodName)) ∈ lw_tbl := List.mem_append_right _ (List.mem_of_getElem? (i := 1724) (by decide +kernel))
theorem wd_1726 : (Cond.instanceMethod ({ cls := "HomeFreedModel", name := "usedBy", desc := "(I)I" } : MethodName)) ∈ lw_tbl := List.mem_append_right _ (List.mem_of_getElem? (i := 1726) (by decide +kernel))
theorem wd_1727 : (Cond.code ({ cls := "HomeFreedModel", name := "usedBy", desc := "(I)I" } : MethodName) prog_13_method_115_code (4 : Nat) (Option.some ClassFile.FieldType.int)) ∈ lw_tbl := List.mem_append_right _ (List.mem_of_getElem? (i := 1727) (by decide +kernel))
theorem wd_1729 : (Cond.instanceMethod ({ cls := "HomeFreedModel", name := "cheapest", desc := "(I)I" } : MethodName)) ∈ lw_tbl := List.mem_append_right _ (List.mem_of_getElem? (i := 1729) (by decide +kernel))
theorem wd_1730 : (Cond.selects "HomeFreedModel" ({ cls := "HomeFreedModel", name := "cheapest", desc := "(I)I" } : MethodName) ({ cls := "HomeFreedModel", name := "cheapest", desc := "(I)I" } : MethodName)) ∈ lw_tbl := List.mem_append_right _ (List.mem_of_getElem? (i := 1730) (by decide +kernel))
theorem wd_1731 : (Cond.code ({ cls := "HomeFreedModel", name := "cheapest", desc := "(I)I" } : MethodName) prog_13_method_117_code (5 : Nat) (Option.some ClassFile.FieldType.int)) ∈ lw_tbl := List.mem_append_right _ (List.mem_of_getElem? (i := 1731) (by decide +kernel))
theorem wd_1733 : (Cond.instanceMethod ({ cls := "HomeFreedModel", name := "most", desc := "(I)I" } : MethodName)) ∈ lw_tbl := List.mem_append_right _ (List.mem_of_getElem? (i := 1733) (by decide +kernel))
theorem wd_1734 : (Cond.selects "HomeFreedModel" ({ cls := "HomeFreedModel", name := "most", desc := "(I)I" } : MethodName) ({ cls := "HomeFreedModel", name := "most", desc := "(I)I" } : MethodName)) ∈ lw_tbl := List.mem_append_right _ (List.mem_of_getElem? (i := 1734) (by decide +kernel))
theorem wd_1735 : (Cond.code ({ cls := "HomeFreedModel", name := "most", desc := "(I)I" } : MethodName) prog_13_method_127_code (2 : Nat) (Option.some ClassFile.FieldType.int)) ∈ lw_tbl := List.mem_append_right _ (List.mem_of_getElem? (i := 1735) (by decide +kernel))
theorem wd_1736 : (Cond.methodLink "HomeFreedModel" (399 : Nat) ({ cls := "HomeFreedModel", name := "fullest", desc := "()I" } : MethodName)) ∈ lw_tbl := List.mem_append_right _ (List.mem_of_getElem? (i := 1736) (by decide +kernel))
theorem wd_1738 : (Cond.instanceMethod ({ cls := "HomeFreedModel", name := "fullest", desc := "()I" } : MethodName)) ∈ lw_tbl := List.mem_append_right _ (List.mem_of_getElem? (i := 1738) (by decide +kernel))
theorem wd_1739 : (Cond.code ({ cls := "HomeFreedModel", name := "fullest", desc := "()I" } : MethodName) prog_13_method_118_code (3 : Nat) (Option.some ClassFile.FieldType.int)) ∈ lw_tbl := List.mem_append_right _ (List.mem_of_getElem? (i := 1739) (by decide +kernel))
theorem wd_1740 : (Cond.methodLink "HomeFreedModel" (402 : Nat) ({ cls := "HomeFreedModel", name := "richest", desc := "()I" } : MethodName)) ∈ lw_tbl := List.mem_append_right _ (List.mem_of_getElem? (i := 1740) (by decide +kernel))
theorem wd_1742 : (Cond.instanceMethod ({ cls := "HomeFreedModel", name := "richest", desc := "()I" } : MethodName)) ∈ lw_tbl := List.mem_append_right _ (List.mem_of_getElem? (i := 1742) (by decide +kernel))
theorem wd_1743 : (Cond.code ({ cls := "HomeFreedModel", name := "richest", desc := "()I" } : MethodName) prog_13_method_119_code (3 : Nat) (Option.some ClassFile.FieldType.int)) ∈ lw_tbl := List.mem_append_right _ (List.mem_of_getElem? (i := 1743) (by decide +kernel))
theorem wd_1744 : (Cond.methodLink "HomeFreedModel" (405 : Nat) ({ cls := "HomeFreedModel", name := "living", desc := "()I" } : MethodName)) ∈ lw_tbl := List.mem_append_right _ (List.mem_of_getElem? (i := 1744) (by decide +kernel))
theorem wd_1746 : (Cond.instanceMethod ({ cls := "HomeFreedModel", name := "living", desc := "()I" } : MethodName)) ∈ lw_tbl := List.mem_append_right _ (List.mem_of_getElem? (i := 1746) (by decide +kernel))
theorem wd_1747 : (Cond.code ({ cls := "HomeFreedModel", name := "living", desc := "()I" } : MethodName) prog_13_method_120_code (3 : Nat) (Option.some ClassFile.FieldType.int)) ∈ lw_tbl := List.mem_append_right _ (List.mem_of_getElem? (i := 1747) (by decide +kernel))
theorem wd_1748 : (Cond.methodLink "HomeFreedModel" (408 : Nat) ({ cls := "HomeFreedModel", name := "pagesThat", desc := "(I)I" } : MethodName)) ∈ lw_tbl := List.mem_append_right _ (List.mem_of_getElem? (i := 1748) (by decide +kernel))
theorem wd_1750 : (Cond.instanceMethod ({ cls := "HomeFreedModel", name := "pagesThat", desc := "(I)I" } : MethodName)) ∈ lw_tbl := List.mem_append_right _ (List.mem_of_getElem? (i := 1750) (by decide +kernel))
theorem wd_1751 : (Cond.code ({ cls := "HomeFreedModel", name := "pagesThat", desc := "(I)I" } : MethodName) prog_13_method_121_code (4 : Nat) (Option.some ClassFile.FieldType.int)) ∈ lw_tbl := List.mem_append_right _ (List.mem_of_getElem? (i := 1751) (by decide +kernel))
theorem wd_1752 : (Cond.methodLink "HomeFreedModel" (411 : Nat) ({ cls := "HomeFreedModel", name := "outMany", desc := "()I" } : MethodName)) ∈ lw_tbl := List.mem_append_right _ (List.mem_of_getElem? (i := 1752) (by decide +kernel))
theorem wd_1754 : (Cond.instanceMethod ({ cls := "HomeFreedModel", name := "outMany", desc := "()I" } : MethodName)) ∈ lw_tbl := List.mem_append_right _ (List.mem_of_getElem? (i := 1754) (by decide +kernel))
theorem wd_1755 : (Cond.code ({ cls := "HomeFreedModel", name := "outMany", desc := "()I" } : MethodName) prog_13_method_122_code (3 : Nat) (Option.some ClassFile.FieldType.int)) ∈ lw_tbl := List.mem_append_right _ (List.mem_of_getElem? (i := 1755) (by decide +kernel))
theorem wd_1756 : (Cond.methodLink "HomeFreedModel" (414 : Nat) ({ cls := "HomeFreedModel", name := "idle", desc := "()I" } : MethodName)) ∈ lw_tbl := List.mem_append_right _ (List.mem_of_getElem? (i := 1756) (by decide +kernel))
theorem wd_1758 : (Cond.instanceMethod ({ cls := "HomeFreedModel", name := "idle", desc := "()I" } : MethodName)) ∈ lw_tbl := List.mem_append_right _ (List.mem_of_getElem? (i := 1758) (by decide +kernel))
theorem wd_1759 : (Cond.code ({ cls := "HomeFreedModel", name := "idle", desc := "()I" } : MethodName) prog_13_method_123_code (3 : Nat) (Option.some ClassFile.FieldType.int)) ∈ lw_tbl := List.mem_append_right _ (List.mem_of_getElem? (i := 1759) (by decide +kernel))
theorem wd_1760 : (Cond.methodLink "HomeFreedModel" (417 : Nat) ({ cls := "HomeFreedModel", name := "foreign", desc := "()I" } : MethodName)) ∈ lw_tbl := List.mem_append_right _ (List.mem_of_getElem? (i := 1760) (by decide +kernel))
theorem wd_1762 : (Cond.instanceMethod ({ cls := "HomeFreedModel", name := "foreign", desc := "()I" } : MethodName)) ∈ lw_tbl := List.mem_append_right _ (List.mem_of_getElem? (i := 1762) (by decide +kernel))
theorem wd_1763 : (Cond.code ({ cls := "HomeFreedModel", name := "foreign", desc := "()I" } : MethodName) prog_13_method_124_code (3 : Nat) (Option.some ClassFile.FieldType.int)) ∈ lw_tbl := List.mem_append_right _ (List.mem_of_getElem? (i := 1763) (by decide +kernel))
theorem wd_1764 : (Cond.methodLink "HomeFreedModel" (420 : Nat) ({ cls := "HomeFreedModel", name := "lostMany", desc := "()I" } : MethodName)) ∈ lw_tbl := List.mem_append_right _ (List.mem_of_getElem? (i := 1764) (by decide +kernel))
theorem wd_1766 : (Cond.instanceMethod ({ cls := "HomeFreedModel", name := "lostMany", desc := "()I" } : MethodName)) ∈ lw_tbl := List.mem_append_right _ (List.mem_of_getElem? (i := 1766) (by decide +kernel))
theorem wd_1767 : (Cond.code ({ cls := "HomeFreedModel", name := "lostMany", desc := "()I" } : MethodName) prog_13_method_126_code (4 : Nat) (Option.some ClassFile.FieldType.int)) ∈ lw_tbl := List.mem_append_right _ (List.mem_of_getElem? (i := 1767) (by decide +kernel))
theorem wd_1768 : (Cond.methodLink "HomeFreedModel" (396 : Nat) ({ cls := "HomeFreedModel", name := "timesOf", desc := "(II)I" } : MethodName)) ∈ lw_tbl := List.mem_append_right _ (List.mem_of_getElem? (i := 1768) (by decide +kernel))
theorem wd_1770 : (Cond.instanceMethod ({ cls := "HomeFreedModel", name := "timesOf", desc := "(II)I" } : MethodName)) ∈ lw_tbl := List.mem_append_right _ (List.mem_of_getElem? (i := 1770) (by decide +kernel))
theorem wd_1771 : (Cond.code ({ cls := "HomeFreedModel", name := "timesOf", desc := "(II)I" } : MethodName) prog_13_method_125_code (6 : Nat) (Option.some ClassFile.FieldType.int)) ∈ lw_tbl := List.mem_append_right _ (List.mem_of_getElem? (i := 1771) (by decide +kernel))
theorem wd_1773 : (Cond.instanceMethod ({ cls := "HomeFreedModel", name := "image", desc := "()I" } : MethodName)) ∈ lw_tbl := List.mem_append_right _ (List.mem_of_getElem? (i := 1773) (by decide +kernel))
theorem wd_1774 : (Cond.selects "HomeFreedModel" ({ cls := "HomeFreedModel", name := "image", desc := "()I" } : MethodName) ({ cls := "HomeFreedModel", name := "image", desc := "()I" } : MethodName)) ∈ lw_tbl := List.mem_append_right _ (List.mem_of_getElem? (i := 1774) (by decide +kernel))
theorem wd_1775 : (Cond.code ({ cls := "HomeFreedModel", name := "image", desc := "()I" } : MethodName) prog_13_method_128_code (2 : Nat) (Option.some ClassFile.FieldType.int)) ∈ lw_tbl := List.mem_append_right _ (List.mem_of_getElem? (i := 1775) (by decide +kernel))
theorem wd_1777 : (Cond.instanceMethod ({ cls := "HomeFreedModel", name := "back", desc := "()I" } : MethodName)) ∈ lw_tbl := List.mem_append_right _ (List.mem_of_getElem? (i := 1777) (by decide +kernel))
theorem wd_1778 : (Cond.selects "HomeFreedModel" ({ cls := "HomeFreedModel", name := "back", desc := "()I" } : MethodName) ({ cls := "HomeFreedModel", name := "back", desc := "()I" } : MethodName)) ∈ lw_tbl := List.mem_append_right _ (List.mem_of_getElem? (i := 1778) (by decide +kernel))
theorem wd_1779 : (Cond.code ({ cls := "HomeFreedModel", name := "back", desc := "()I" } : MethodName) prog_13_method_129_code (2 : Nat) (Option.some ClassFile.FieldType.int)) ∈ lw_tbl := List.mem_append_right _ (List.mem_of_getElem? (i := 1779) (by decide +kernel))
theorem wd_1781 : (Cond.instanceMethod ({ cls := "HomeFreedModel", name := "count", desc := "(I)I" } : MethodName)) ∈ lw_tbl := List.mem_append_right _ (List.mem_of_getElem? (i := 1781) (by decide +kernel))
theorem wd_1782 : (Cond.selects "HomeFreedModel" ({ cls := "HomeFreedModel", name := "count", desc := "(I)I" } : MethodName) ({ cls := "HomeFreedModel", name := "count", desc := "(I)I" } : MethodName)) ∈ lw_tbl := List.mem_append_right _ (List.mem_of_getElem? (i := 1782) (by decide +kernel))
theorem wd_1783 : (Cond.code ({ cls := "HomeFreedModel", name := "count", desc := "(I)I" } : MethodName) prog_13_method_130_code (2 : Nat) (Option.some ClassFile.FieldType.int)) ∈ lw_tbl := List.mem_append_right _ (List.mem_of_getElem? (i := 1783) (by decide +kernel))
theorem wp_0 : Cond.selects "HomeFreed$Reader" ⟨"HomeFreed$Reader", "signHere", "()I"⟩ ⟨"HomeFreed$Reader", "signHere", "()I"⟩ ∈ lw_tbl := List.mem_append_left _ (List.mem_of_getElem? (i := 0) (by decide +kernel))
theorem wp_1 : Cond.selects "HomeFreed$Rules" ⟨"HomeFreed$Rules", "sizesFit", "()Z"⟩ ⟨"HomeFreed$Rules", "sizesFit", "()Z"⟩ ∈ lw_tbl := List.mem_append_left _ (List.mem_of_getElem? (i := 1) (by decide +kernel))
theorem wp_5 : Cond.selects "HomeFreed" ⟨"HomeFreed", "refuse", "(I)I"⟩ ⟨"HomeFreed", "refuse", "(I)I"⟩ ∈ lw_tbl := List.mem_append_left _ (List.mem_of_getElem? (i := 5) (by decide +kernel))
theorem wp_6 : Cond.selects "HomeFreed$Heap" ⟨"HomeFreed$Heap", "bringToFront", "(III)V"⟩ ⟨"HomeFreed$Heap", "bringToFront", "(III)V"⟩ ∈ lw_tbl := List.mem_append_left _ (List.mem_of_getElem? (i := 6) (by decide +kernel))
theorem wp_7 : Cond.selects "HomeFreed$Heap" ⟨"HomeFreed$Heap", "fill", "(II)V"⟩ ⟨"HomeFreed$Heap", "fill", "(II)V"⟩ ∈ lw_tbl := List.mem_append_left _ (List.mem_of_getElem? (i := 7) (by decide +kernel))
theorem wp_8 : Cond.selects "HomeFreed$Heap" ⟨"HomeFreed$Heap", "takeReady", "(I)I"⟩ ⟨"HomeFreed$Heap", "takeReady", "(I)I"⟩ ∈ lw_tbl := List.mem_append_left _ (List.mem_of_getElem? (i := 8) (by decide +kernel))
theorem wp_9 : Cond.selects "HomeFreed$Heap" ⟨"HomeFreed$Heap", "goHome", "(II)I"⟩ ⟨"HomeFreed$Heap", "goHome", "(II)I"⟩ ∈ lw_tbl := List.mem_append_left _ (List.mem_of_getElem? (i := 9) (by decide +kernel))
theorem wp_10 : Cond.selects "HomeFreed$Heap" ⟨"HomeFreed$Heap", "vacate", "(I)V"⟩ ⟨"HomeFreed$Heap", "vacate", "(I)V"⟩ ∈ lw_tbl := List.mem_append_left _ (List.mem_of_getElem? (i := 10) (by decide +kernel))
theorem wp_11 : Cond.selects "HomeFreed$Heap" ⟨"HomeFreed$Heap", "queueFullAgain", "(I)V"⟩ ⟨"HomeFreed$Heap", "queueFullAgain", "(I)V"⟩ ∈ lw_tbl := List.mem_append_left _ (List.mem_of_getElem? (i := 11) (by decide +kernel))
theorem wp_12 : Cond.selects "HomeFreed$Heap" ⟨"HomeFreed$Heap", "makeEmpty", "(I)V"⟩ ⟨"HomeFreed$Heap", "makeEmpty", "(I)V"⟩ ∈ lw_tbl := List.mem_append_left _ (List.mem_of_getElem? (i := 12) (by decide +kernel))
theorem wp_13 : Cond.selects "HomeFreed" ⟨"HomeFreed", "isIdle", "(I)Z"⟩ ⟨"HomeFreed", "isIdle", "(I)Z"⟩ ∈ lw_tbl := List.mem_append_left _ (List.mem_of_getElem? (i := 13) (by decide +kernel))
theorem wp_14 : Cond.selects "HomeFreed" ⟨"HomeFreed", "isScript", "(I)Z"⟩ ⟨"HomeFreed", "isScript", "(I)Z"⟩ ∈ lw_tbl := List.mem_append_left _ (List.mem_of_getElem? (i := 14) (by decide +kernel))
theorem wp_15 : Cond.selects "HomeFreed$Progress" ⟨"HomeFreed$Progress", "endScope", "(LHomeFreed$Heap;)V"⟩ ⟨"HomeFreed$Progress", "endScope", "(LHomeFreed$Heap;)V"⟩ ∈ lw_tbl := List.mem_append_left _ (List.mem_of_getElem? (i := 15) (by decide +kernel))
theorem wp_16 : Cond.selects "HomeFreed$Progress" ⟨"HomeFreed$Progress", "noteGot", "(II)Z"⟩ ⟨"HomeFreed$Progress", "noteGot", "(II)Z"⟩ ∈ lw_tbl := List.mem_append_left _ (List.mem_of_getElem? (i := 16) (by decide +kernel))
theorem wp_17 : Cond.selects "HomeFreed$Progress" ⟨"HomeFreed$Progress", "giveNumbered", "(LHomeFreed$Heap;II)Z"⟩ ⟨"HomeFreed$Progress", "giveNumbered", "(LHomeFreed$Heap;II)Z"⟩ ∈ lw_tbl := List.mem_append_left _ (List.mem_of_getElem? (i := 17) (by decide +kernel))
theorem wp_18 : Cond.selects "HomeFreed$Progress" ⟨"HomeFreed$Progress", "tickOrSend", "(LHomeFreed$Heap;II)Z"⟩ ⟨"HomeFreed$Progress", "tickOrSend", "(LHomeFreed$Heap;II)Z"⟩ ∈ lw_tbl := List.mem_append_left _ (List.mem_of_getElem? (i := 18) (by decide +kernel))
theorem wp_19 : Cond.selects "HomeFreed" ⟨"HomeFreed", "liveYear", "(J)J"⟩ ⟨"HomeFreed", "liveYear", "(J)J"⟩ ∈ lw_tbl := List.mem_append_left _ (List.mem_of_getElem? (i := 19) (by decide +kernel))
theorem wp_20 : Cond.selects "HomeFreed$Log" ⟨"HomeFreed$Log", "entryAt", "(I)I"⟩ ⟨"HomeFreed$Log", "entryAt", "(I)I"⟩ ∈ lw_tbl := List.mem_append_left _ (List.mem_of_getElem? (i := 20) (by decide +kernel))
theorem wp_21 : Cond.selects "HomeFreed" ⟨"HomeFreed", "cheapestPage", "()I"⟩ ⟨"HomeFreed", "cheapestPage", "()I"⟩ ∈ lw_tbl := List.mem_append_left _ (List.mem_of_getElem? (i := 21) (by decide +kernel))
theorem wp_22 : Cond.selects "HomeFreed$Mixer" ⟨"HomeFreed$Mixer", "mix", "(III)V"⟩ ⟨"HomeFreed$Mixer", "mix", "(III)V"⟩ ∈ lw_tbl := List.mem_append_left _ (List.mem_of_getElem? (i := 22) (by decide +kernel))
theorem wp_23 : Cond.selects "HomeFreed$Mixer" ⟨"HomeFreed$Mixer", "tally", "(LHomeFreed$Heap;I)V"⟩ ⟨"HomeFreed$Mixer", "tally", "(LHomeFreed$Heap;I)V"⟩ ∈ lw_tbl := List.mem_append_left _ (List.mem_of_getElem? (i := 23) (by decide +kernel))
theorem wp_24 : Cond.selects "HomeFreed$Mixer" ⟨"HomeFreed$Mixer", "deepen", "(I)I"⟩ ⟨"HomeFreed$Mixer", "deepen", "(I)I"⟩ ∈ lw_tbl := List.mem_append_left _ (List.mem_of_getElem? (i := 24) (by decide +kernel))
theorem wp_25 : Cond.selects "HomeFreed" ⟨"HomeFreed", "fullest", "()I"⟩ ⟨"HomeFreed", "fullest", "()I"⟩ ∈ lw_tbl := List.mem_append_left _ (List.mem_of_getElem? (i := 25) (by decide +kernel))
theorem wp_26 : Cond.selects "HomeFreed" ⟨"HomeFreed", "richest", "()I"⟩ ⟨"HomeFreed", "richest", "()I"⟩ ∈ lw_tbl := List.mem_append_left _ (List.mem_of_getElem? (i := 26) (by decide +kernel))
theorem wp_27 : Cond.selects "HomeFreed$Heap" ⟨"HomeFreed$Heap", "placesOf", "(II)I"⟩ ⟨"HomeFreed$Heap", "placesOf", "(II)I"⟩ ∈ lw_tbl := List.mem_append_left _ (List.mem_of_getElem? (i := 27) (by decide +kernel))
theorem wp_28 : Cond.selects "HomeFreed$Heap" ⟨"HomeFreed$Heap", "timesIn", "(II)I"⟩ ⟨"HomeFreed$Heap", "timesIn", "(II)I"⟩ ∈ lw_tbl := List.mem_append_left _ (List.mem_of_getElem? (i := 28) (by decide +kernel))
theorem wp_30 : Cond.selects "HomeFreedModel" ⟨"HomeFreedModel", "readArena", "()I"⟩ ⟨"HomeFreedModel", "readArena", "()I"⟩ ∈ lw_tbl := List.mem_append_left _ (List.mem_of_getElem? (i := 30) (by decide +kernel))
theorem wp_31 : Cond.selects "HomeFreedModel" ⟨"HomeFreedModel", "ahead", "()I"⟩ ⟨"HomeFreedModel", "ahead", "()I"⟩ ∈ lw_tbl := List.mem_append_left _ (List.mem_of_getElem? (i := 31) (by decide +kernel))
theorem wp_32 : Cond.selects "HomeFreedModel" ⟨"HomeFreedModel", "here", "()I"⟩ ⟨"HomeFreedModel", "here", "()I"⟩ ∈ lw_tbl := List.mem_append_left _ (List.mem_of_getElem? (i := 32) (by decide +kernel))
theorem wp_33 : Cond.selects "HomeFreedModel" ⟨"HomeFreedModel", "items", "(I[III)V"⟩ ⟨"HomeFreedModel", "items", "(I[III)V"⟩ ∈ lw_tbl := List.mem_append_left _ (List.mem_of_getElem? (i := 33) (by decide +kernel))
theorem wp_34 : Cond.selects "HomeFreedModel" ⟨"HomeFreedModel", "number", "(II)I"⟩ ⟨"HomeFreedModel", "number", "(II)I"⟩ ∈ lw_tbl := List.mem_append_left _ (List.mem_of_getElem? (i := 34) (by decide +kernel))
theorem wp_35 : Cond.selects "HomeFreedModel" ⟨"HomeFreedModel", "bad", "()V"⟩ ⟨"HomeFreedModel", "bad", "()V"⟩ ∈ lw_tbl := List.mem_append_left _ (List.mem_of_getElem? (i := 35) (by decide +kernel))
theorem wp_36 : Cond.selects "HomeFreedModel" ⟨"HomeFreedModel", "isWhole", "()Z"⟩ ⟨"HomeFreedModel", "isWhole", "()Z"⟩ ∈ lw_tbl := List.mem_append_left _ (List.mem_of_getElem? (i := 36) (by decide +kernel))
theorem wp_37 : Cond.selects "HomeFreedModel" ⟨"HomeFreedModel", "readScript", "(I)I"⟩ ⟨"HomeFreedModel", "readScript", "(I)I"⟩ ∈ lw_tbl := List.mem_append_left _ (List.mem_of_getElem? (i := 37) (by decide +kernel))
theorem wp_38 : Cond.selects "HomeFreedModel" ⟨"HomeFreedModel", "readStep", "(I)V"⟩ ⟨"HomeFreedModel", "readStep", "(I)V"⟩ ∈ lw_tbl := List.mem_append_left _ (List.mem_of_getElem? (i := 38) (by decide +kernel))
theorem wp_39 : Cond.selects "HomeFreedModel" ⟨"HomeFreedModel", "takeArena", "()I"⟩ ⟨"HomeFreedModel", "takeArena", "()I"⟩ ∈ lw_tbl := List.mem_append_left _ (List.mem_of_getElem? (i := 39) (by decide +kernel))
theorem wp_40 : Cond.selects "HomeFreedModel" ⟨"HomeFreedModel", "isArena", "()Z"⟩ ⟨"HomeFreedModel", "isArena", "()Z"⟩ ∈ lw_tbl := List.mem_append_left _ (List.mem_of_getElem? (i := 40) (by decide +kernel))
theorem wp_41 : Cond.selects "HomeFreedModel" ⟨"HomeFreedModel", "isPage", "(I)Z"⟩ ⟨"HomeFreedModel", "isPage", "(I)Z"⟩ ∈ lw_tbl := List.mem_append_left _ (List.mem_of_getElem? (i := 41) (by decide +kernel))
theorem wp_42 : Cond.selects "HomeFreedModel" ⟨"HomeFreedModel", "of", "(II)I"⟩ ⟨"HomeFreedModel", "of", "(II)I"⟩ ∈ lw_tbl := List.mem_append_left _ (List.mem_of_getElem? (i := 42) (by decide +kernel))
theorem wp_43 : Cond.selects "HomeFreedModel" ⟨"HomeFreedModel", "isOwned", "(I)Z"⟩ ⟨"HomeFreedModel", "isOwned", "(I)Z"⟩ ∈ lw_tbl := List.mem_append_left _ (List.mem_of_getElem? (i := 43) (by decide +kernel))
theorem wp_44 : Cond.selects "HomeFreedModel" ⟨"HomeFreedModel", "usedOf", "(I)I"⟩ ⟨"HomeFreedModel", "usedOf", "(I)I"⟩ ∈ lw_tbl := List.mem_append_left _ (List.mem_of_getElem? (i := 44) (by decide +kernel))
theorem wp_45 : Cond.selects "HomeFreedModel" ⟨"HomeFreedModel", "blocksOf", "(I)I"⟩ ⟨"HomeFreedModel", "blocksOf", "(I)I"⟩ ∈ lw_tbl := List.mem_append_left _ (List.mem_of_getElem? (i := 45) (by decide +kernel))
theorem wp_46 : Cond.selects "HomeFreedModel" ⟨"HomeFreedModel", "listedOf", "(I)I"⟩ ⟨"HomeFreedModel", "listedOf", "(I)I"⟩ ∈ lw_tbl := List.mem_append_left _ (List.mem_of_getElem? (i := 46) (by decide +kernel))
theorem wp_47 : Cond.selects "HomeFreedModel" ⟨"HomeFreedModel", "isThread", "(I)Z"⟩ ⟨"HomeFreedModel", "isThread", "(I)Z"⟩ ∈ lw_tbl := List.mem_append_left _ (List.mem_of_getElem? (i := 47) (by decide +kernel))
theorem wp_48 : Cond.selects "HomeFreedModel" ⟨"HomeFreedModel", "ownedBy", "(I)I"⟩ ⟨"HomeFreedModel", "ownedBy", "(I)I"⟩ ∈ lw_tbl := List.mem_append_left _ (List.mem_of_getElem? (i := 48) (by decide +kernel))
theorem wp_49 : Cond.selects "HomeFreedModel" ⟨"HomeFreedModel", "isOf", "(II)Z"⟩ ⟨"HomeFreedModel", "isOf", "(II)Z"⟩ ∈ lw_tbl := List.mem_append_left _ (List.mem_of_getElem? (i := 49) (by decide +kernel))
theorem wp_50 : Cond.selects "HomeFreedModel" ⟨"HomeFreedModel", "boxedBy", "(I)I"⟩ ⟨"HomeFreedModel", "boxedBy", "(I)I"⟩ ∈ lw_tbl := List.mem_append_left _ (List.mem_of_getElem? (i := 50) (by decide +kernel))
theorem wp_51 : Cond.selects "HomeFreedModel" ⟨"HomeFreedModel", "isBlock", "(I)Z"⟩ ⟨"HomeFreedModel", "isBlock", "(I)Z"⟩ ∈ lw_tbl := List.mem_append_left _ (List.mem_of_getElem? (i := 51) (by decide +kernel))
theorem wp_52 : Cond.selects "HomeFreedModel" ⟨"HomeFreedModel", "isHeld", "(I)Z"⟩ ⟨"HomeFreedModel", "isHeld", "(I)Z"⟩ ∈ lw_tbl := List.mem_append_left _ (List.mem_of_getElem? (i := 52) (by decide +kernel))
theorem wp_53 : Cond.selects "HomeFreedModel" ⟨"HomeFreedModel", "isAsked", "(I)Z"⟩ ⟨"HomeFreedModel", "isAsked", "(I)Z"⟩ ∈ lw_tbl := List.mem_append_left _ (List.mem_of_getElem? (i := 53) (by decide +kernel))
theorem wp_54 : Cond.selects "HomeFreedModel" ⟨"HomeFreedModel", "classFor", "(I)I"⟩ ⟨"HomeFreedModel", "classFor", "(I)I"⟩ ∈ lw_tbl := List.mem_append_left _ (List.mem_of_getElem? (i := 54) (by decide +kernel))
theorem wp_55 : Cond.selects "HomeFreedModel" ⟨"HomeFreedModel", "doesLive", "(I)Z"⟩ ⟨"HomeFreedModel", "doesLive", "(I)Z"⟩ ∈ lw_tbl := List.mem_append_left _ (List.mem_of_getElem? (i := 55) (by decide +kernel))
theorem wp_56 : Cond.selects "HomeFreedModel" ⟨"HomeFreedModel", "canGet", "(II)Z"⟩ ⟨"HomeFreedModel", "canGet", "(II)Z"⟩ ∈ lw_tbl := List.mem_append_left _ (List.mem_of_getElem? (i := 56) (by decide +kernel))
theorem wp_57 : Cond.selects "HomeFreedModel" ⟨"HomeFreedModel", "otherPage", "(IZ)I"⟩ ⟨"HomeFreedModel", "otherPage", "(IZ)I"⟩ ∈ lw_tbl := List.mem_append_left _ (List.mem_of_getElem? (i := 57) (by decide +kernel))
theorem wp_58 : Cond.selects "HomeFreedModel" ⟨"HomeFreedModel", "isRefused", "(I)Z"⟩ ⟨"HomeFreedModel", "isRefused", "(I)Z"⟩ ∈ lw_tbl := List.mem_append_left _ (List.mem_of_getElem? (i := 58) (by decide +kernel))
theorem wp_59 : Cond.selects "HomeFreedModel" ⟨"HomeFreedModel", "keep", "()V"⟩ ⟨"HomeFreedModel", "keep", "()V"⟩ ∈ lw_tbl := List.mem_append_left _ (List.mem_of_getElem? (i := 59) (by decide +kernel))
theorem wp_60 : Cond.selects "HomeFreedModel" ⟨"HomeFreedModel", "getNow", "(II)I"⟩ ⟨"HomeFreedModel", "getNow", "(II)I"⟩ ∈ lw_tbl := List.mem_append_left _ (List.mem_of_getElem? (i := 60) (by decide +kernel))
theorem wp_61 : Cond.selects "HomeFreedModel" ⟨"HomeFreedModel", "getOnce", "(II)I"⟩ ⟨"HomeFreedModel", "getOnce", "(II)I"⟩ ∈ lw_tbl := List.mem_append_left _ (List.mem_of_getElem? (i := 61) (by decide +kernel))
theorem wp_62 : Cond.selects "HomeFreedModel" ⟨"HomeFreedModel", "collect", "(I)I"⟩ ⟨"HomeFreedModel", "collect", "(I)I"⟩ ∈ lw_tbl := List.mem_append_left _ (List.mem_of_getElem? (i := 62) (by decide +kernel))
theorem wp_63 : Cond.selects "HomeFreedModel" ⟨"HomeFreedModel", "moveAhead", "(II)V"⟩ ⟨"HomeFreedModel", "moveAhead", "(II)V"⟩ ∈ lw_tbl := List.mem_append_left _ (List.mem_of_getElem? (i := 63) (by decide +kernel))
theorem wp_64 : Cond.selects "HomeFreedModel" ⟨"HomeFreedModel", "addFirst", "(II)V"⟩ ⟨"HomeFreedModel", "addFirst", "(II)V"⟩ ∈ lw_tbl := List.mem_append_left _ (List.mem_of_getElem? (i := 64) (by decide +kernel))
theorem wp_65 : Cond.selects "HomeFreedModel" ⟨"HomeFreedModel", "takeBlock", "(II)I"⟩ ⟨"HomeFreedModel", "takeBlock", "(II)I"⟩ ∈ lw_tbl := List.mem_append_left _ (List.mem_of_getElem? (i := 65) (by decide +kernel))
theorem wp_66 : Cond.selects "HomeFreedModel" ⟨"HomeFreedModel", "takeFirst", "(I)I"⟩ ⟨"HomeFreedModel", "takeFirst", "(I)I"⟩ ∈ lw_tbl := List.mem_append_left _ (List.mem_of_getElem? (i := 66) (by decide +kernel))
theorem wp_67 : Cond.selects "HomeFreedModel" ⟨"HomeFreedModel", "set", "(III)V"⟩ ⟨"HomeFreedModel", "set", "(III)V"⟩ ∈ lw_tbl := List.mem_append_left _ (List.mem_of_getElem? (i := 67) (by decide +kernel))
theorem wp_68 : Cond.selects "HomeFreedModel" ⟨"HomeFreedModel", "addLast", "(II)V"⟩ ⟨"HomeFreedModel", "addLast", "(II)V"⟩ ∈ lw_tbl := List.mem_append_left _ (List.mem_of_getElem? (i := 68) (by decide +kernel))
theorem wp_69 : Cond.selects "HomeFreedModel" ⟨"HomeFreedModel", "enqueue", "(I)V"⟩ ⟨"HomeFreedModel", "enqueue", "(I)V"⟩ ∈ lw_tbl := List.mem_append_left _ (List.mem_of_getElem? (i := 69) (by decide +kernel))
theorem wp_70 : Cond.selects "HomeFreedModel" ⟨"HomeFreedModel", "ownQueue", "(I)I"⟩ ⟨"HomeFreedModel", "ownQueue", "(I)I"⟩ ∈ lw_tbl := List.mem_append_left _ (List.mem_of_getElem? (i := 70) (by decide +kernel))
theorem wp_71 : Cond.selects "HomeFreedModel" ⟨"HomeFreedModel", "tickNow", "(I)V"⟩ ⟨"HomeFreedModel", "tickNow", "(I)V"⟩ ∈ lw_tbl := List.mem_append_left _ (List.mem_of_getElem? (i := 71) (by decide +kernel))
theorem wp_72 : Cond.selects "HomeFreedModel" ⟨"HomeFreedModel", "sendNow", "(I)I"⟩ ⟨"HomeFreedModel", "sendNow", "(I)I"⟩ ∈ lw_tbl := List.mem_append_left _ (List.mem_of_getElem? (i := 72) (by decide +kernel))
theorem wp_73 : Cond.selects "HomeFreedModel" ⟨"HomeFreedModel", "goHome", "(II)I"⟩ ⟨"HomeFreedModel", "goHome", "(II)I"⟩ ∈ lw_tbl := List.mem_append_left _ (List.mem_of_getElem? (i := 73) (by decide +kernel))
theorem wp_74 : Cond.selects "HomeFreedModel" ⟨"HomeFreedModel", "makeEmpty", "(I)V"⟩ ⟨"HomeFreedModel", "makeEmpty", "(I)V"⟩ ∈ lw_tbl := List.mem_append_left _ (List.mem_of_getElem? (i := 74) (by decide +kernel))
theorem wp_75 : Cond.selects "HomeFreedModel" ⟨"HomeFreedModel", "leaveQueue", "(I)V"⟩ ⟨"HomeFreedModel", "leaveQueue", "(I)V"⟩ ∈ lw_tbl := List.mem_append_left _ (List.mem_of_getElem? (i := 75) (by decide +kernel))
theorem wp_76 : Cond.selects "HomeFreedModel" ⟨"HomeFreedModel", "takeOut", "(II)V"⟩ ⟨"HomeFreedModel", "takeOut", "(II)V"⟩ ∈ lw_tbl := List.mem_append_left _ (List.mem_of_getElem? (i := 76) (by decide +kernel))
theorem wp_77 : Cond.selects "HomeFreedModel" ⟨"HomeFreedModel", "giveBack", "(I)V"⟩ ⟨"HomeFreedModel", "giveBack", "(I)V"⟩ ∈ lw_tbl := List.mem_append_left _ (List.mem_of_getElem? (i := 77) (by decide +kernel))
theorem wp_78 : Cond.selects "HomeFreedModel" ⟨"HomeFreedModel", "note", "(II)V"⟩ ⟨"HomeFreedModel", "note", "(II)V"⟩ ∈ lw_tbl := List.mem_append_left _ (List.mem_of_getElem? (i := 78) (by decide +kernel))
theorem wp_79 : Cond.selects "HomeFreedModel" ⟨"HomeFreedModel", "freeNow", "(II)I"⟩ ⟨"HomeFreedModel", "freeNow", "(II)I"⟩ ∈ lw_tbl := List.mem_append_left _ (List.mem_of_getElem? (i := 79) (by decide +kernel))
theorem wp_80 : Cond.selects "HomeFreedModel" ⟨"HomeFreedModel", "turnNow", "(I)V"⟩ ⟨"HomeFreedModel", "turnNow", "(I)V"⟩ ∈ lw_tbl := List.mem_append_left _ (List.mem_of_getElem? (i := 80) (by decide +kernel))
theorem wp_81 : Cond.selects "HomeFreedModel" ⟨"HomeFreedModel", "isScript", "(I)Z"⟩ ⟨"HomeFreedModel", "isScript", "(I)Z"⟩ ∈ lw_tbl := List.mem_append_left _ (List.mem_of_getElem? (i := 81) (by decide +kernel))
theorem wp_82 : Cond.selects "HomeFreedModel" ⟨"HomeFreedModel", "runScript", "(IZ)I"⟩ ⟨"HomeFreedModel", "runScript", "(IZ)I"⟩ ∈ lw_tbl := List.mem_append_left _ (List.mem_of_getElem? (i := 82) (by decide +kernel))
theorem wp_83 : Cond.selects "HomeFreedModel" ⟨"HomeFreedModel", "canStep", "(III)Z"⟩ ⟨"HomeFreedModel", "canStep", "(III)Z"⟩ ∈ lw_tbl := List.mem_append_left _ (List.mem_of_getElem? (i := 83) (by decide +kernel))
theorem wp_84 : Cond.selects "HomeFreedModel" ⟨"HomeFreedModel", "stepOf", "(III)I"⟩ ⟨"HomeFreedModel", "stepOf", "(III)I"⟩ ∈ lw_tbl := List.mem_append_left _ (List.mem_of_getElem? (i := 84) (by decide +kernel))
theorem wp_85 : Cond.selects "HomeFreedModel" ⟨"HomeFreedModel", "doStep", "(IIIZ)V"⟩ ⟨"HomeFreedModel", "doStep", "(IIIZ)V"⟩ ∈ lw_tbl := List.mem_append_left _ (List.mem_of_getElem? (i := 85) (by decide +kernel))
theorem wp_86 : Cond.selects "HomeFreedModel" ⟨"HomeFreedModel", "stepGet", "(IIIZ)V"⟩ ⟨"HomeFreedModel", "stepGet", "(IIIZ)V"⟩ ∈ lw_tbl := List.mem_append_left _ (List.mem_of_getElem? (i := 86) (by decide +kernel))
theorem wp_87 : Cond.selects "HomeFreedModel" ⟨"HomeFreedModel", "endScope", "()V"⟩ ⟨"HomeFreedModel", "endScope", "()V"⟩ ∈ lw_tbl := List.mem_append_left _ (List.mem_of_getElem? (i := 87) (by decide +kernel))
theorem wp_88 : Cond.selects "HomeFreedModel" ⟨"HomeFreedModel", "lowestLiving", "()I"⟩ ⟨"HomeFreedModel", "lowestLiving", "()I"⟩ ∈ lw_tbl := List.mem_append_left _ (List.mem_of_getElem? (i := 88) (by decide +kernel))
theorem wp_89 : Cond.selects "HomeFreedModel" ⟨"HomeFreedModel", "drawOnce", "()V"⟩ ⟨"HomeFreedModel", "drawOnce", "()V"⟩ ∈ lw_tbl := List.mem_append_left _ (List.mem_of_getElem? (i := 89) (by decide +kernel))
theorem wp_90 : Cond.selects "HomeFreedModel" ⟨"HomeFreedModel", "draw", "(I)I"⟩ ⟨"HomeFreedModel", "draw", "(I)I"⟩ ∈ lw_tbl := List.mem_append_left _ (List.mem_of_getElem? (i := 90) (by decide +kernel))
theorem wp_91 : Cond.selects "HomeFreedModel" ⟨"HomeFreedModel", "heldMany", "()I"⟩ ⟨"HomeFreedModel", "heldMany", "()I"⟩ ∈ lw_tbl := List.mem_append_left _ (List.mem_of_getElem? (i := 91) (by decide +kernel))
theorem wp_92 : Cond.selects "HomeFreedModel" ⟨"HomeFreedModel", "heldAt", "(I)I"⟩ ⟨"HomeFreedModel", "heldAt", "(I)I"⟩ ∈ lw_tbl := List.mem_append_left _ (List.mem_of_getElem? (i := 92) (by decide +kernel))
theorem wp_93 : Cond.selects "HomeFreedModel" ⟨"HomeFreedModel", "worst", "()I"⟩ ⟨"HomeFreedModel", "worst", "()I"⟩ ∈ lw_tbl := List.mem_append_left _ (List.mem_of_getElem? (i := 93) (by decide +kernel))
theorem wp_94 : Cond.selects "HomeFreedModel" ⟨"HomeFreedModel", "putAside", "(I)V"⟩ ⟨"HomeFreedModel", "putAside", "(I)V"⟩ ∈ lw_tbl := List.mem_append_left _ (List.mem_of_getElem? (i := 94) (by decide +kernel))
theorem wp_95 : Cond.selects "HomeFreedModel" ⟨"HomeFreedModel", "takeBack", "(I)V"⟩ ⟨"HomeFreedModel", "takeBack", "(I)V"⟩ ∈ lw_tbl := List.mem_append_left _ (List.mem_of_getElem? (i := 95) (by decide +kernel))
theorem wp_96 : Cond.selects "HomeFreedModel" ⟨"HomeFreedModel", "placeIn", "(II)I"⟩ ⟨"HomeFreedModel", "placeIn", "(II)I"⟩ ∈ lw_tbl := List.mem_append_left _ (List.mem_of_getElem? (i := 96) (by decide +kernel))
theorem wp_97 : Cond.selects "HomeFreedModel" ⟨"HomeFreedModel", "pagesInUse", "()I"⟩ ⟨"HomeFreedModel", "pagesInUse", "()I"⟩ ∈ lw_tbl := List.mem_append_left _ (List.mem_of_getElem? (i := 97) (by decide +kernel))
theorem wp_98 : Cond.selects "HomeFreedModel" ⟨"HomeFreedModel", "isFew", "(I)Z"⟩ ⟨"HomeFreedModel", "isFew", "(I)Z"⟩ ∈ lw_tbl := List.mem_append_left _ (List.mem_of_getElem? (i := 98) (by decide +kernel))
theorem wp_99 : Cond.selects "HomeFreedModel" ⟨"HomeFreedModel", "goWays", "(IIII)V"⟩ ⟨"HomeFreedModel", "goWays", "(IIII)V"⟩ ∈ lw_tbl := List.mem_append_left _ (List.mem_of_getElem? (i := 99) (by decide +kernel))
theorem wp_100 : Cond.selects "HomeFreedModel" ⟨"HomeFreedModel", "endWay", "()V"⟩ ⟨"HomeFreedModel", "endWay", "()V"⟩ ∈ lw_tbl := List.mem_append_left _ (List.mem_of_getElem? (i := 100) (by decide +kernel))
theorem wp_101 : Cond.selects "HomeFreedModel" ⟨"HomeFreedModel", "usedBy", "(I)I"⟩ ⟨"HomeFreedModel", "usedBy", "(I)I"⟩ ∈ lw_tbl := List.mem_append_left _ (List.mem_of_getElem? (i := 101) (by decide +kernel))
theorem wp_102 : Cond.selects "HomeFreedModel" ⟨"HomeFreedModel", "fullest", "()I"⟩ ⟨"HomeFreedModel", "fullest", "()I"⟩ ∈ lw_tbl := List.mem_append_left _ (List.mem_of_getElem? (i := 102) (by decide +kernel))
theorem wp_103 : Cond.selects "HomeFreedModel" ⟨"HomeFreedModel", "richest", "()I"⟩ ⟨"HomeFreedModel", "richest", "()I"⟩ ∈ lw_tbl := List.mem_append_left _ (List.mem_of_getElem? (i := 103) (by decide +kernel))
theorem wp_104 : Cond.selects "HomeFreedModel" ⟨"HomeFreedModel", "living", "()I"⟩ ⟨"HomeFreedModel", "living", "()I"⟩ ∈ lw_tbl := List.mem_append_left _ (List.mem_of_getElem? (i := 104) (by decide +kernel))
theorem wp_105 : Cond.selects "HomeFreedModel" ⟨"HomeFreedModel", "pagesThat", "(I)I"⟩ ⟨"HomeFreedModel", "pagesThat", "(I)I"⟩ ∈ lw_tbl := List.mem_append_left _ (List.mem_of_getElem? (i := 105) (by decide +kernel))
theorem wp_106 : Cond.selects "HomeFreedModel" ⟨"HomeFreedModel", "outMany", "()I"⟩ ⟨"HomeFreedModel", "outMany", "()I"⟩ ∈ lw_tbl := List.mem_append_left _ (List.mem_of_getElem? (i := 106) (by decide +kernel))
theorem wp_107 : Cond.selects "HomeFreedModel" ⟨"HomeFreedModel", "idle", "()I"⟩ ⟨"HomeFreedModel", "idle", "()I"⟩ ∈ lw_tbl := List.mem_append_left _ (List.mem_of_getElem? (i := 107) (by decide +kernel))
theorem wp_108 : Cond.selects "HomeFreedModel" ⟨"HomeFreedModel", "foreign", "()I"⟩ ⟨"HomeFreedModel", "foreign", "()I"⟩ ∈ lw_tbl := List.mem_append_left _ (List.mem_of_getElem? (i := 108) (by decide +kernel))
theorem wp_109 : Cond.selects "HomeFreedModel" ⟨"HomeFreedModel", "lostMany", "()I"⟩ ⟨"HomeFreedModel", "lostMany", "()I"⟩ ∈ lw_tbl := List.mem_append_left _ (List.mem_of_getElem? (i := 109) (by decide +kernel))
theorem wp_110 : Cond.selects "HomeFreedModel" ⟨"HomeFreedModel", "timesOf", "(II)I"⟩ ⟨"HomeFreedModel", "timesOf", "(II)I"⟩ ∈ lw_tbl := List.mem_append_left _ (List.mem_of_getElem? (i := 110) (by decide +kernel))
def yA_back : MethodName := ⟨"HomeFreed", "back", "()I"⟩
abbrev cA_back : ByteArray := prog_1_method_49_code
theorem my_A_back : MyM yA_back cA_back 1 (some .int) 0 := ⟨wd_1, wd_1082, ⟨by decide, by decide, by decide +kernel⟩, by decide⟩
theorem mv_A_back : MvM yA_back := ⟨wd_1080, wd_1081⟩
def yA_cheapest : MethodName := ⟨"HomeFreed", "cheapest", "(I)I"⟩
abbrev cA_cheapest : ByteArray := prog_1_method_40_code
theorem my_A_cheapest : MyM yA_cheapest cA_cheapest 3 (some .int) 1 := ⟨wd_1, wd_967, ⟨by decide, by decide, by decide +kernel⟩, by decide⟩
theorem mv_A_cheapest : MvM yA_cheapest := ⟨wd_965, wd_966⟩
def yA_cheapestPage : MethodName := ⟨"HomeFreed", "cheapestPage", "()I"⟩
abbrev cA_cheapestPage : ByteArray := prog_1_method_41_code
theorem my_A_cheapestPage : MyM yA_cheapestPage cA_cheapestPage 5 (some .int) 0 := ⟨wd_1, wd_971, ⟨by decide, by decide, by decide +kernel⟩, by decide⟩
theorem mv_A_cheapestPage : MvM yA_cheapestPage := ⟨wd_970, wp_21⟩
def yA_classes : MethodName := ⟨"HomeFreed", "classes", "(II)I"⟩
abbrev cA_classes : ByteArray := prog_1_method_34_code
theorem my_A_classes : MyM yA_classes cA_classes 7 (some .int) 2 := ⟨wd_1, wd_938, ⟨by decide, by decide, by decide +kernel⟩, by decide⟩
theorem mv_A_classes : MvM yA_classes := ⟨wd_936, wd_937⟩
def yA_count : MethodName := ⟨"HomeFreed", "count", "(I)I"⟩
abbrev cA_count : ByteArray := prog_1_method_50_code
theorem my_A_count : MyM yA_count cA_count 2 (some .int) 1 := ⟨wd_1, wd_1086, ⟨by decide, by decide, by decide +kernel⟩, by decide⟩
theorem mv_A_count : MvM yA_count := ⟨wd_1084, wd_1085⟩
def yA_drawn : MethodName := ⟨"HomeFreed", "drawn", "(JI)I"⟩
abbrev cA_drawn : ByteArray := prog_1_method_25_code
theorem my_A_drawn : MyM yA_drawn cA_drawn 3 (some .int) 2 := ⟨wd_1, wd_871, ⟨by decide, by decide, by decide +kernel⟩, by decide⟩
theorem mv_A_drawn : Cond.static yA_drawn ∈ lw_tbl := wd_870
def yA_end : MethodName := ⟨"HomeFreed", "end", "(I)Z"⟩
abbrev cA_end : ByteArray := prog_1_method_3_code
theorem my_A_end : MyM yA_end cA_end 2 (some .boolean) 1 := ⟨wd_1, wd_349, ⟨by decide, by decide, by decide +kernel⟩, by decide⟩
theorem mv_A_end : MvM yA_end := ⟨wd_347, wd_348⟩
def yA_feed : MethodName := ⟨"HomeFreed", "feed", "(IIIII)I"⟩
abbrev cA_feed : ByteArray := prog_1_method_2_code
theorem my_A_feed : MyM yA_feed cA_feed 7 (some .int) 5 := ⟨wd_1, wd_337, ⟨by decide, by decide, by decide +kernel⟩, by decide⟩
theorem mv_A_feed : MvM yA_feed := ⟨wd_335, wd_336⟩
def yA_free : MethodName := ⟨"HomeFreed", "free", "(II)I"⟩
abbrev cA_free : ByteArray := prog_1_method_17_code
theorem my_A_free : MyM yA_free cA_free 3 (some .int) 2 := ⟨wd_1, wd_777, ⟨by decide, by decide, by decide +kernel⟩, by decide⟩
theorem mv_A_free : MvM yA_free := ⟨wd_775, wd_776⟩
def yA_fullest : MethodName := ⟨"HomeFreed", "fullest", "()I"⟩
abbrev cA_fullest : ByteArray := prog_1_method_46_code
theorem my_A_fullest : MyM yA_fullest cA_fullest 3 (some .int) 0 := ⟨wd_1, wd_1032, ⟨by decide, by decide, by decide +kernel⟩, by decide⟩
theorem mv_A_fullest : MvM yA_fullest := ⟨wd_1031, wp_25⟩
def yA_get : MethodName := ⟨"HomeFreed", "get", "(II)I"⟩
abbrev cA_get : ByteArray := prog_1_method_16_code
theorem my_A_get : MyM yA_get cA_get 4 (some .int) 2 := ⟨wd_1, wd_656, ⟨by decide, by decide, by decide +kernel⟩, by decide⟩
theorem mv_A_get : MvM yA_get := ⟨wd_654, wd_655⟩
def yA_held : MethodName := ⟨"HomeFreed", "held", "(I)I"⟩
abbrev cA_held : ByteArray := prog_1_method_15_code
theorem my_A_held : MyM yA_held cA_held 2 (some .int) 1 := ⟨wd_1, wd_639, ⟨by decide, by decide, by decide +kernel⟩, by decide⟩
theorem mv_A_held : MvM yA_held := ⟨wd_637, wd_638⟩
def yA_image : MethodName := ⟨"HomeFreed", "image", "()I"⟩
abbrev cA_image : ByteArray := prog_1_method_48_code
theorem my_A_image : MyM yA_image cA_image 1 (some .int) 0 := ⟨wd_1, wd_1078, ⟨by decide, by decide, by decide +kernel⟩, by decide⟩
theorem mv_A_image : MvM yA_image := ⟨wd_1076, wd_1077⟩
def yA_isIdle : MethodName := ⟨"HomeFreed", "isIdle", "(I)Z"⟩
abbrev cA_isIdle : ByteArray := prog_1_method_29_code
theorem my_A_isIdle : MyM yA_isIdle cA_isIdle 2 (some .boolean) 1 := ⟨wd_1, wd_790, ⟨by decide, by decide, by decide +kernel⟩, by decide⟩
theorem mv_A_isIdle : MvM yA_isIdle := ⟨wd_789, wp_13⟩
def yA_isScript : MethodName := ⟨"HomeFreed", "isScript", "(I)Z"⟩
abbrev cA_isScript : ByteArray := prog_1_method_32_code
theorem my_A_isScript : MyM yA_isScript cA_isScript 2 (some .boolean) 1 := ⟨wd_1, wd_816, ⟨by decide, by decide, by decide +kernel⟩, by decide⟩
theorem mv_A_isScript : MvM yA_isScript := ⟨wd_815, wp_14⟩
def yA_list : MethodName := ⟨"HomeFreed", "list", "(III)I"⟩
abbrev cA_list : ByteArray := prog_1_method_11_code
theorem my_A_list : MyM yA_list cA_list 4 (some .int) 3 := ⟨wd_1, wd_581, ⟨by decide, by decide, by decide +kernel⟩, by decide⟩
theorem mv_A_list : MvM yA_list := ⟨wd_579, wd_580⟩
def yA_liveYear : MethodName := ⟨"HomeFreed", "liveYear", "(J)J"⟩
abbrev cA_liveYear : ByteArray := prog_1_method_23_code
theorem my_A_liveYear : MyM yA_liveYear cA_liveYear 7 (some .long) 1 := ⟨wd_1, wd_863, ⟨by decide, by decide, by decide +kernel⟩, by decide⟩
theorem mv_A_liveYear : MvM yA_liveYear := ⟨wd_862, wp_19⟩
def yA_log : MethodName := ⟨"HomeFreed", "log", "(II)I"⟩
abbrev cA_log : ByteArray := prog_1_method_30_code
theorem my_A_log : MyM yA_log cA_log 3 (some .int) 2 := ⟨wd_1, wd_899, ⟨by decide, by decide, by decide +kernel⟩, by decide⟩
theorem mv_A_log : MvM yA_log := ⟨wd_897, wd_898⟩
def yA_most : MethodName := ⟨"HomeFreed", "most", "(I)I"⟩
abbrev cA_most : ByteArray := prog_1_method_45_code
theorem my_A_most : MyM yA_most cA_most 2 (some .int) 1 := ⟨wd_1, wd_1028, ⟨by decide, by decide, by decide +kernel⟩, by decide⟩
theorem mv_A_most : MvM yA_most := ⟨wd_1026, wd_1027⟩
def yA_nextSize : MethodName := ⟨"HomeFreed", "nextSize", "(III)I"⟩
abbrev cA_nextSize : ByteArray := prog_1_method_35_code
theorem my_A_nextSize : MyM yA_nextSize cA_nextSize 5 (some .int) 3 := ⟨wd_1, wd_941, ⟨by decide, by decide, by decide +kernel⟩, by decide⟩
theorem mv_A_nextSize : Cond.static yA_nextSize ∈ lw_tbl := wd_940
def yA_outbox : MethodName := ⟨"HomeFreed", "outbox", "(III)I"⟩
abbrev cA_outbox : ByteArray := prog_1_method_14_code
theorem my_A_outbox : MyM yA_outbox cA_outbox 4 (some .int) 3 := ⟨wd_1, wd_634, ⟨by decide, by decide, by decide +kernel⟩, by decide⟩
theorem mv_A_outbox : MvM yA_outbox := ⟨wd_632, wd_633⟩
def yA_perform : MethodName := ⟨"HomeFreed", "perform", "(I)I"⟩
abbrev cA_perform : ByteArray := prog_1_method_21_code
theorem my_A_perform : MyM yA_perform cA_perform 2 (some .int) 1 := ⟨wd_1, wd_812, ⟨by decide, by decide, by decide +kernel⟩, by decide⟩
theorem mv_A_perform : MvM yA_perform := ⟨wd_810, wd_811⟩
def yA_queue : MethodName := ⟨"HomeFreed", "queue", "(III)I"⟩
abbrev cA_queue : ByteArray := prog_1_method_13_code
theorem my_A_queue : MyM yA_queue cA_queue 4 (some .int) 3 := ⟨wd_1, wd_626, ⟨by decide, by decide, by decide +kernel⟩, by decide⟩
theorem mv_A_queue : MvM yA_queue := ⟨wd_624, wd_625⟩
def yA_refuse : MethodName := ⟨"HomeFreed", "refuse", "(I)I"⟩
abbrev cA_refuse : ByteArray := prog_1_method_28_code
theorem my_A_refuse : MyM yA_refuse cA_refuse 2 (some .int) 1 := ⟨wd_1, wd_660, ⟨by decide, by decide, by decide +kernel⟩, by decide⟩
theorem mv_A_refuse : MvM yA_refuse := ⟨wd_659, wp_5⟩
def yA_richest : MethodName := ⟨"HomeFreed", "richest", "()I"⟩
abbrev cA_richest : ByteArray := prog_1_method_47_code
theorem my_A_richest : MyM yA_richest cA_richest 3 (some .int) 0 := ⟨wd_1, wd_1036, ⟨by decide, by decide, by decide +kernel⟩, by decide⟩
theorem mv_A_richest : MvM yA_richest := ⟨wd_1035, wp_26⟩
def yA_rule : MethodName := ⟨"HomeFreed", "rule", "(I)I"⟩
abbrev cA_rule : ByteArray := prog_1_method_8_code
theorem my_A_rule : MyM yA_rule cA_rule 2 (some .int) 1 := ⟨wd_1, wd_565, ⟨by decide, by decide, by decide +kernel⟩, by decide⟩
theorem mv_A_rule : MvM yA_rule := ⟨wd_563, wd_564⟩
def yA_run : MethodName := ⟨"HomeFreed", "run", "(II)I"⟩
abbrev cA_run : ByteArray := prog_1_method_42_code
theorem my_A_run : MyM yA_run cA_run 4 (some .int) 2 := ⟨wd_1, wd_977, ⟨by decide, by decide, by decide +kernel⟩, by decide⟩
theorem mv_A_run : MvM yA_run := ⟨wd_975, wd_976⟩
def yA_send : MethodName := ⟨"HomeFreed", "send", "(I)I"⟩
abbrev cA_send : ByteArray := prog_1_method_19_code
theorem my_A_send : MyM yA_send cA_send 2 (some .int) 1 := ⟨wd_1, wd_795, ⟨by decide, by decide, by decide +kernel⟩, by decide⟩
theorem mv_A_send : MvM yA_send := ⟨wd_793, wd_794⟩
def yA_series : MethodName := ⟨"HomeFreed", "series", "(III)I"⟩
abbrev cA_series : ByteArray := prog_1_method_39_code
theorem my_A_series : MyM yA_series cA_series 7 (some .int) 3 := ⟨wd_1, wd_962, ⟨by decide, by decide, by decide +kernel⟩, by decide⟩
theorem mv_A_series : MvM yA_series := ⟨wd_960, wd_961⟩
def yA_shares : MethodName := ⟨"HomeFreed", "shares", "(II)I"⟩
abbrev cA_shares : ByteArray := prog_1_method_44_code
theorem my_A_shares : MyM yA_shares cA_shares 6 (some .int) 2 := ⟨wd_1, wd_1024, ⟨by decide, by decide, by decide +kernel⟩, by decide⟩
theorem mv_A_shares : MvM yA_shares := ⟨wd_1022, wd_1023⟩
def yA_size : MethodName := ⟨"HomeFreed", "size", "(I)I"⟩
abbrev cA_size : ByteArray := prog_1_method_9_code
theorem my_A_size : MyM yA_size cA_size 2 (some .int) 1 := ⟨wd_1, wd_573, ⟨by decide, by decide, by decide +kernel⟩, by decide⟩
theorem mv_A_size : MvM yA_size := ⟨wd_571, wd_572⟩
def yA_status : MethodName := ⟨"HomeFreed", "status", "(I)I"⟩
abbrev cA_status : ByteArray := prog_1_method_26_code
theorem my_A_status : MyM yA_status cA_status 2 (some .int) 1 := ⟨wd_1, wd_887, ⟨by decide, by decide, by decide +kernel⟩, by decide⟩
theorem mv_A_status : MvM yA_status := ⟨wd_885, wd_886⟩
def yA_step : MethodName := ⟨"HomeFreed", "step", "(III)I"⟩
abbrev cA_step : ByteArray := prog_1_method_31_code
theorem my_A_step : MyM yA_step cA_step 4 (some .int) 3 := ⟨wd_1, wd_924, ⟨by decide, by decide, by decide +kernel⟩, by decide⟩
theorem mv_A_step : MvM yA_step := ⟨wd_922, wd_923⟩
def yA_stir : MethodName := ⟨"HomeFreed", "stir", "(J)J"⟩
abbrev cA_stir : ByteArray := prog_1_method_24_code
theorem my_A_stir : MyM yA_stir cA_stir 2 (some .long) 1 := ⟨wd_1, wd_866, ⟨by decide, by decide, by decide +kernel⟩, by decide⟩
theorem mv_A_stir : Cond.static yA_stir ∈ lw_tbl := wd_865
def yA_thread : MethodName := ⟨"HomeFreed", "thread", "(II)I"⟩
abbrev cA_thread : ByteArray := prog_1_method_12_code
theorem my_A_thread : MyM yA_thread cA_thread 3 (some .int) 2 := ⟨wd_1, wd_601, ⟨by decide, by decide, by decide +kernel⟩, by decide⟩
theorem mv_A_thread : MvM yA_thread := ⟨wd_599, wd_600⟩
def yA_tick : MethodName := ⟨"HomeFreed", "tick", "(I)I"⟩
abbrev cA_tick : ByteArray := prog_1_method_18_code
theorem my_A_tick : MyM yA_tick cA_tick 2 (some .int) 1 := ⟨wd_1, wd_786, ⟨by decide, by decide, by decide +kernel⟩, by decide⟩
theorem mv_A_tick : MvM yA_tick := ⟨wd_784, wd_785⟩
def yA_turn : MethodName := ⟨"HomeFreed", "turn", "(I)I"⟩
abbrev cA_turn : ByteArray := prog_1_method_20_code
theorem my_A_turn : MyM yA_turn cA_turn 2 (some .int) 1 := ⟨wd_1, wd_803, ⟨by decide, by decide, by decide +kernel⟩, by decide⟩
theorem mv_A_turn : MvM yA_turn := ⟨wd_801, wd_802⟩
def yA_undo : MethodName := ⟨"HomeFreed", "undo", "()I"⟩
abbrev cA_undo : ByteArray := prog_1_method_27_code
theorem my_A_undo : MyM yA_undo cA_undo 1 (some .int) 0 := ⟨wd_1, wd_891, ⟨by decide, by decide, by decide +kernel⟩, by decide⟩
theorem mv_A_undo : MvM yA_undo := ⟨wd_889, wd_890⟩
def yA_waste : MethodName := ⟨"HomeFreed", "waste", "(I)I"⟩
abbrev cA_waste : ByteArray := prog_1_method_33_code
theorem my_A_waste : MyM yA_waste cA_waste 3 (some .int) 1 := ⟨wd_1, wd_929, ⟨by decide, by decide, by decide +kernel⟩, by decide⟩
theorem mv_A_waste : MvM yA_waste := ⟨wd_927, wd_928⟩
def yA_ways : MethodName := ⟨"HomeFreed", "ways", "(III)I"⟩
abbrev cA_ways : ByteArray := prog_1_method_43_code
theorem my_A_ways : MyM yA_ways cA_ways 4 (some .int) 3 := ⟨wd_1, wd_985, ⟨by decide, by decide, by decide +kernel⟩, by decide⟩
theorem mv_A_ways : MvM yA_ways := ⟨wd_983, wd_984⟩
def yA_where : MethodName := ⟨"HomeFreed", "where", "(II)I"⟩
abbrev cA_where : ByteArray := prog_1_method_37_code
theorem my_A_where : MyM yA_where cA_where 5 (some .int) 2 := ⟨wd_1, wd_950, ⟨by decide, by decide, by decide +kernel⟩, by decide⟩
theorem mv_A_where : MvM yA_where := ⟨wd_948, wd_949⟩
def yA_whereIs : MethodName := ⟨"HomeFreed", "whereIs", "(I)I"⟩
abbrev cA_whereIs : ByteArray := prog_1_method_38_code
theorem my_A_whereIs : MyM yA_whereIs cA_whereIs 1 (some .int) 1 := ⟨wd_1, wd_954, ⟨by decide, by decide, by decide +kernel⟩, by decide⟩
theorem mv_A_whereIs : Cond.static yA_whereIs ∈ lw_tbl := wd_953
def yA_would : MethodName := ⟨"HomeFreed", "would", "(II)I"⟩
abbrev cA_would : ByteArray := prog_1_method_36_code
theorem my_A_would : MyM yA_would cA_would 4 (some .int) 2 := ⟨wd_1, wd_945, ⟨by decide, by decide, by decide +kernel⟩, by decide⟩
theorem mv_A_would : MvM yA_would := ⟨wd_943, wd_944⟩
def yA_years : MethodName := ⟨"HomeFreed", "years", "(IJ)I"⟩
abbrev cA_years : ByteArray := prog_1_method_22_code
theorem my_A_years : MyM yA_years cA_years 7 (some .int) 2 := ⟨wd_1, wd_859, ⟨by decide, by decide, by decide +kernel⟩, by decide⟩
theorem mv_A_years : MvM yA_years := ⟨wd_857, wd_858⟩
def yC_append : MethodName := ⟨"HomeFreed$Chains", "append", "(II)V"⟩
abbrev cC_append : ByteArray := prog_2_method_5_code
theorem my_C_append : MyM yC_append cC_append 6 none 2 := ⟨wd_7, wd_733, ⟨by decide, by decide, by decide +kernel⟩, by decide⟩
theorem mv_C_append : MvM yC_append := ⟨wd_731, wd_732⟩
def yC_clearAll : MethodName := ⟨"HomeFreed$Chains", "clearAll", "()V"⟩
abbrev cC_clearAll : ByteArray := prog_2_method_2_code
theorem my_C_clearAll : MyM yC_clearAll cC_clearAll 1 none 0 := ⟨wd_7, wd_548, ⟨by decide, by decide, by decide +kernel⟩, by decide⟩
theorem mv_C_clearAll : MvM yC_clearAll := ⟨wd_546, wd_547⟩
def yC_copyFrom : MethodName := ⟨"HomeFreed$Chains", "copyFrom", "(LHomeFreed$Chains;)V"⟩
abbrev cC_copyFrom : ByteArray := prog_2_method_3_code
theorem my_C_copyFrom : MyM yC_copyFrom cC_copyFrom 2 none 1 := ⟨wd_7, wd_686, ⟨by decide, by decide, by decide +kernel⟩, by decide⟩
theorem mv_C_copyFrom : MvM yC_copyFrom := ⟨wd_684, wd_685⟩
def yC_drop : MethodName := ⟨"HomeFreed$Chains", "drop", "(I)V"⟩
abbrev cC_drop : ByteArray := prog_2_method_7_code
theorem my_C_drop : MyM yC_drop cC_drop 6 none 1 := ⟨wd_7, wd_773, ⟨by decide, by decide, by decide +kernel⟩, by decide⟩
theorem mv_C_drop : MvM yC_drop := ⟨wd_771, wd_772⟩
def yC_moveAhead : MethodName := ⟨"HomeFreed$Chains", "moveAhead", "(II)V"⟩
abbrev cC_moveAhead : ByteArray := prog_2_method_8_code
theorem my_C_moveAhead : MyM yC_moveAhead cC_moveAhead 6 none 2 := ⟨wd_7, wd_741, ⟨by decide, by decide, by decide +kernel⟩, by decide⟩
theorem mv_C_moveAhead : MvM yC_moveAhead := ⟨wd_739, wd_740⟩
def yC_placeOf : MethodName := ⟨"HomeFreed$Chains", "placeOf", "(I)I"⟩
abbrev cC_placeOf : ByteArray := prog_2_method_10_code
theorem my_C_placeOf : MyM yC_placeOf cC_placeOf 4 (some .int) 1 := ⟨wd_7, wd_958, ⟨by decide, by decide, by decide +kernel⟩, by decide⟩
theorem mv_C_placeOf : MvM yC_placeOf := ⟨wd_956, wd_957⟩
def yC_pop : MethodName := ⟨"HomeFreed$Chains", "pop", "(I)I"⟩
abbrev cC_pop : ByteArray := prog_2_method_6_code
theorem my_C_pop : MyM yC_pop cC_pop 3 (some .int) 1 := ⟨wd_7, wd_716, ⟨by decide, by decide, by decide +kernel⟩, by decide⟩
theorem mv_C_pop : MvM yC_pop := ⟨wd_714, wd_715⟩
def yC_push : MethodName := ⟨"HomeFreed$Chains", "push", "(II)V"⟩
abbrev cC_push : ByteArray := prog_2_method_4_code
theorem my_C_push : MyM yC_push cC_push 3 none 2 := ⟨wd_7, wd_729, ⟨by decide, by decide, by decide +kernel⟩, by decide⟩
theorem mv_C_push : MvM yC_push := ⟨wd_727, wd_728⟩
def yC_thingAt : MethodName := ⟨"HomeFreed$Chains", "thingAt", "(II)I"⟩
abbrev cC_thingAt : ByteArray := prog_2_method_9_code
theorem my_C_thingAt : MyM yC_thingAt cC_thingAt 5 (some .int) 2 := ⟨wd_7, wd_593, ⟨by decide, by decide, by decide +kernel⟩, by decide⟩
theorem mv_C_thingAt : MvM yC_thingAt := ⟨wd_591, wd_592⟩
def yG_copyFrom : MethodName := ⟨"HomeFreed$Progress", "copyFrom", "(LHomeFreed$Progress;)V"⟩
abbrev cG_copyFrom : ByteArray := prog_7_method_3_code
theorem my_G_copyFrom : MyM yG_copyFrom cG_copyFrom 2 none 1 := ⟨wd_12, wd_1014, ⟨by decide, by decide, by decide +kernel⟩, by decide⟩
theorem mv_G_copyFrom : MvM yG_copyFrom := ⟨wd_1012, wd_1013⟩
def yG_doStep : MethodName := ⟨"HomeFreed$Progress", "doStep", "(LHomeFreed$Heap;LHomeFreed$Script;I)Z"⟩
abbrev cG_doStep : ByteArray := prog_7_method_5_code
theorem my_G_doStep : MyM yG_doStep cG_doStep 5 (some .boolean) 3 := ⟨wd_12, wd_828, ⟨by decide, by decide, by decide +kernel⟩, by decide⟩
theorem mv_G_doStep : MvM yG_doStep := ⟨wd_826, wd_827⟩
def yG_endScope : MethodName := ⟨"HomeFreed$Progress", "endScope", "(LHomeFreed$Heap;)V"⟩
abbrev cG_endScope : ByteArray := prog_7_method_9_code
theorem my_G_endScope : MyM yG_endScope cG_endScope 4 none 1 := ⟨wd_12, wd_832, ⟨by decide, by decide, by decide +kernel⟩, by decide⟩
theorem mv_G_endScope : MvM yG_endScope := ⟨wd_831, wp_15⟩
def yG_giveNumbered : MethodName := ⟨"HomeFreed$Progress", "giveNumbered", "(LHomeFreed$Heap;II)Z"⟩
abbrev cG_giveNumbered : ByteArray := prog_7_method_8_code
theorem my_G_giveNumbered : MyM yG_giveNumbered cG_giveNumbered 4 (some .boolean) 3 := ⟨wd_12, wd_849, ⟨by decide, by decide, by decide +kernel⟩, by decide⟩
theorem mv_G_giveNumbered : MvM yG_giveNumbered := ⟨wd_848, wp_17⟩
def yG_noteGot : MethodName := ⟨"HomeFreed$Progress", "noteGot", "(II)Z"⟩
abbrev cG_noteGot : ByteArray := prog_7_method_7_code
theorem my_G_noteGot : MyM yG_noteGot cG_noteGot 3 (some .boolean) 2 := ⟨wd_12, wd_845, ⟨by decide, by decide, by decide +kernel⟩, by decide⟩
theorem mv_G_noteGot : MvM yG_noteGot := ⟨wd_844, wp_16⟩
def yG_restart : MethodName := ⟨"HomeFreed$Progress", "restart", "()V"⟩
abbrev cG_restart : ByteArray := prog_7_method_2_code
theorem my_G_restart : MyM yG_restart cG_restart 1 none 0 := ⟨wd_12, wd_824, ⟨by decide, by decide, by decide +kernel⟩, by decide⟩
theorem mv_G_restart : MvM yG_restart := ⟨wd_822, wd_823⟩
def yG_runWhole : MethodName := ⟨"HomeFreed$Progress", "runWhole", "(LHomeFreed$Heap;LHomeFreed$Script;)I"⟩
abbrev cG_runWhole : ByteArray := prog_7_method_4_code
theorem my_G_runWhole : MyM yG_runWhole cG_runWhole 5 (some .int) 2 := ⟨wd_12, wd_820, ⟨by decide, by decide, by decide +kernel⟩, by decide⟩
theorem mv_G_runWhole : MvM yG_runWhole := ⟨wd_818, wd_819⟩
def yG_tickOrSend : MethodName := ⟨"HomeFreed$Progress", "tickOrSend", "(LHomeFreed$Heap;II)Z"⟩
abbrev cG_tickOrSend : ByteArray := prog_7_method_6_code
theorem my_G_tickOrSend : MyM yG_tickOrSend cG_tickOrSend 4 (some .boolean) 3 := ⟨wd_12, wd_853, ⟨by decide, by decide, by decide +kernel⟩, by decide⟩
theorem mv_G_tickOrSend : MvM yG_tickOrSend := ⟨wd_852, wp_18⟩
def yH_beat : MethodName := ⟨"HomeFreed$Heap", "beat", "(I)V"⟩
abbrev cH_beat : ByteArray := prog_3_method_42_code
theorem my_H_beat : MyM yH_beat cH_beat 4 none 1 := ⟨wd_6, wd_753, ⟨by decide, by decide, by decide +kernel⟩, by decide⟩
theorem mv_H_beat : MvM yH_beat := ⟨wd_751, wd_752⟩
def yH_bitsOf : MethodName := ⟨"HomeFreed$Heap", "bitsOf", "(I)I"⟩
abbrev cH_bitsOf : ByteArray := prog_3_method_24_code
theorem my_H_bitsOf : MyM yH_bitsOf cH_bitsOf 4 (some .int) 1 := ⟨wd_6, wd_1044, ⟨by decide, by decide, by decide +kernel⟩, by decide⟩
theorem mv_H_bitsOf : MvM yH_bitsOf := ⟨wd_1042, wd_1043⟩
def yH_bringToFront : MethodName := ⟨"HomeFreed$Heap", "bringToFront", "(III)V"⟩
abbrev cH_bringToFront : ByteArray := prog_3_method_34_code
theorem my_H_bringToFront : MyM yH_bringToFront cH_bringToFront 6 none 3 := ⟨wd_6, wd_712, ⟨by decide, by decide, by decide +kernel⟩, by decide⟩
theorem mv_H_bringToFront : MvM yH_bringToFront := ⟨wd_711, wp_6⟩
def yH_copyFrom : MethodName := ⟨"HomeFreed$Heap", "copyFrom", "(LHomeFreed$Heap;)V"⟩
abbrev cH_copyFrom : ByteArray := prog_3_method_3_code
theorem my_H_copyFrom : MyM yH_copyFrom cH_copyFrom 2 none 1 := ⟨wd_6, wd_681, ⟨by decide, by decide, by decide +kernel⟩, by decide⟩
theorem mv_H_copyFrom : MvM yH_copyFrom := ⟨wd_679, wd_680⟩
def yH_fill : MethodName := ⟨"HomeFreed$Heap", "fill", "(II)V"⟩
abbrev cH_fill : ByteArray := prog_3_method_35_code
theorem my_H_fill : MyM yH_fill cH_fill 4 none 2 := ⟨wd_6, wd_720, ⟨by decide, by decide, by decide +kernel⟩, by decide⟩
theorem mv_H_fill : MvM yH_fill := ⟨wd_719, wp_7⟩
def yH_foreignInAll : MethodName := ⟨"HomeFreed$Heap", "foreignInAll", "()I"⟩
abbrev cH_foreignInAll : ByteArray := prog_3_method_27_code
theorem my_H_foreignInAll : MyM yH_foreignInAll cH_foreignInAll 3 (some .int) 0 := ⟨wd_6, wd_1062, ⟨by decide, by decide, by decide +kernel⟩, by decide⟩
theorem mv_H_foreignInAll : MvM yH_foreignInAll := ⟨wd_1060, wd_1061⟩
def yH_giveBlock : MethodName := ⟨"HomeFreed$Heap", "giveBlock", "(II)I"⟩
abbrev cH_giveBlock : ByteArray := prog_3_method_37_code
theorem my_H_giveBlock : MyM yH_giveBlock cH_giveBlock 6 (some .int) 2 := ⟨wd_6, wd_781, ⟨by decide, by decide, by decide +kernel⟩, by decide⟩
theorem mv_H_giveBlock : MvM yH_giveBlock := ⟨wd_779, wd_780⟩
def yH_goHome : MethodName := ⟨"HomeFreed$Heap", "goHome", "(II)I"⟩
abbrev cH_goHome : ByteArray := prog_3_method_38_code
theorem my_H_goHome : MyM yH_goHome cH_goHome 5 (some .int) 2 := ⟨wd_6, wd_757, ⟨by decide, by decide, by decide +kernel⟩, by decide⟩
theorem mv_H_goHome : MvM yH_goHome := ⟨wd_756, wp_9⟩
def yH_heldAt : MethodName := ⟨"HomeFreed$Heap", "heldAt", "(I)I"⟩
abbrev cH_heldAt : ByteArray := prog_3_method_21_code
theorem my_H_heldAt : MyM yH_heldAt cH_heldAt 5 (some .int) 1 := ⟨wd_6, wd_883, ⟨by decide, by decide, by decide +kernel⟩, by decide⟩
theorem mv_H_heldAt : MvM yH_heldAt := ⟨wd_881, wd_882⟩
def yH_heldIn : MethodName := ⟨"HomeFreed$Heap", "heldIn", "(I)I"⟩
abbrev cH_heldIn : ByteArray := prog_3_method_19_code
theorem my_H_heldIn : MyM yH_heldIn cH_heldIn 4 (some .int) 1 := ⟨wd_6, wd_879, ⟨by decide, by decide, by decide +kernel⟩, by decide⟩
theorem mv_H_heldIn : MvM yH_heldIn := ⟨wd_877, wd_878⟩
def yH_heldInAll : MethodName := ⟨"HomeFreed$Heap", "heldInAll", "()I"⟩
abbrev cH_heldInAll : ByteArray := prog_3_method_20_code
theorem my_H_heldInAll : MyM yH_heldInAll cH_heldInAll 3 (some .int) 0 := ⟨wd_6, wd_875, ⟨by decide, by decide, by decide +kernel⟩, by decide⟩
theorem mv_H_heldInAll : MvM yH_heldInAll := ⟨wd_873, wd_874⟩
def yH_howFrom : MethodName := ⟨"HomeFreed$Heap", "howFrom", "(II)I"⟩
abbrev cH_howFrom : ByteArray := prog_3_method_32_code
theorem my_H_howFrom : MyM yH_howFrom cH_howFrom 3 (some .int) 2 := ⟨wd_6, wd_703, ⟨by decide, by decide, by decide +kernel⟩, by decide⟩
theorem mv_H_howFrom : MvM yH_howFrom := ⟨wd_701, wd_702⟩
def yH_idleUnits : MethodName := ⟨"HomeFreed$Heap", "idleUnits", "()I"⟩
abbrev cH_idleUnits : ByteArray := prog_3_method_26_code
theorem my_H_idleUnits : MyM yH_idleUnits cH_idleUnits 3 (some .int) 0 := ⟨wd_6, wd_1057, ⟨by decide, by decide, by decide +kernel⟩, by decide⟩
theorem mv_H_idleUnits : MvM yH_idleUnits := ⟨wd_1055, wd_1056⟩
def yH_isBlock : MethodName := ⟨"HomeFreed$Heap", "isBlock", "(I)Z"⟩
abbrev cH_isBlock : ByteArray := prog_3_method_7_code
theorem my_H_isBlock : MyM yH_isBlock cH_isBlock 3 (some .boolean) 1 := ⟨wd_6, wd_643, ⟨by decide, by decide, by decide +kernel⟩, by decide⟩
theorem mv_H_isBlock : MvM yH_isBlock := ⟨wd_641, wd_642⟩
def yH_isHeld : MethodName := ⟨"HomeFreed$Heap", "isHeld", "(I)Z"⟩
abbrev cH_isHeld : ByteArray := prog_3_method_8_code
theorem my_H_isHeld : MyM yH_isHeld cH_isHeld 2 (some .boolean) 1 := ⟨wd_6, wd_647, ⟨by decide, by decide, by decide +kernel⟩, by decide⟩
theorem mv_H_isHeld : MvM yH_isHeld := ⟨wd_645, wd_646⟩
def yH_isLiving : MethodName := ⟨"HomeFreed$Heap", "isLiving", "(I)Z"⟩
abbrev cH_isLiving : ByteArray := prog_3_method_6_code
theorem my_H_isLiving : MyM yH_isLiving cH_isLiving 2 (some .boolean) 1 := ⟨wd_6, wd_609, ⟨by decide, by decide, by decide +kernel⟩, by decide⟩
theorem mv_H_isLiving : MvM yH_isLiving := ⟨wd_607, wd_608⟩
def yH_isPage : MethodName := ⟨"HomeFreed$Heap", "isPage", "(I)Z"⟩
abbrev cH_isPage : ByteArray := prog_3_method_4_code
theorem my_H_isPage : MyM yH_isPage cH_isPage 2 (some .boolean) 1 := ⟨wd_6, wd_585, ⟨by decide, by decide, by decide +kernel⟩, by decide⟩
theorem mv_H_isPage : MvM yH_isPage := ⟨wd_583, wd_584⟩
def yH_isThread : MethodName := ⟨"HomeFreed$Heap", "isThread", "(I)Z"⟩
abbrev cH_isThread : ByteArray := prog_3_method_5_code
theorem my_H_isThread : MyM yH_isThread cH_isThread 2 (some .boolean) 1 := ⟨wd_6, wd_605, ⟨by decide, by decide, by decide +kernel⟩, by decide⟩
theorem mv_H_isThread : MvM yH_isThread := ⟨wd_603, wd_604⟩
def yH_lengthOf : MethodName := ⟨"HomeFreed$Heap", "lengthOf", "(II)I"⟩
abbrev cH_lengthOf : ByteArray := prog_3_method_14_code
theorem my_H_lengthOf : MyM yH_lengthOf cH_lengthOf 3 (some .int) 2 := ⟨wd_6, wd_708, ⟨by decide, by decide, by decide +kernel⟩, by decide⟩
theorem mv_H_lengthOf : MvM yH_lengthOf := ⟨wd_706, wd_707⟩
def yH_listOf : MethodName := ⟨"HomeFreed$Heap", "listOf", "(II)I"⟩
abbrev cH_listOf : ByteArray := prog_3_method_11_code
theorem my_H_listOf : MyM yH_listOf cH_listOf 3 (some .int) 2 := ⟨wd_6, wd_589, ⟨by decide, by decide, by decide +kernel⟩, by decide⟩
theorem mv_H_listOf : MvM yH_listOf := ⟨wd_587, wd_588⟩
def yH_livingBits : MethodName := ⟨"HomeFreed$Heap", "livingBits", "()I"⟩
abbrev cH_livingBits : ByteArray := prog_3_method_23_code
theorem my_H_livingBits : MyM yH_livingBits cH_livingBits 3 (some .int) 0 := ⟨wd_6, wd_1040, ⟨by decide, by decide, by decide +kernel⟩, by decide⟩
theorem mv_H_livingBits : MvM yH_livingBits := ⟨wd_1038, wd_1039⟩
def yH_lostBlocks : MethodName := ⟨"HomeFreed$Heap", "lostBlocks", "()I"⟩
abbrev cH_lostBlocks : ByteArray := prog_3_method_28_code
theorem my_H_lostBlocks : MyM yH_lostBlocks cH_lostBlocks 4 (some .int) 0 := ⟨wd_6, wd_1066, ⟨by decide, by decide, by decide +kernel⟩, by decide⟩
theorem mv_H_lostBlocks : MvM yH_lostBlocks := ⟨wd_1064, wd_1065⟩
def yH_lowestLiving : MethodName := ⟨"HomeFreed$Heap", "lowestLiving", "()I"⟩
abbrev cH_lowestLiving : ByteArray := prog_3_method_45_code
theorem my_H_lowestLiving : MyM yH_lowestLiving cH_lowestLiving 2 (some .int) 0 := ⟨wd_6, wd_837, ⟨by decide, by decide, by decide +kernel⟩, by decide⟩
theorem mv_H_lowestLiving : MvM yH_lowestLiving := ⟨wd_835, wd_836⟩
def yH_makeEmpty : MethodName := ⟨"HomeFreed$Heap", "makeEmpty", "(I)V"⟩
abbrev cH_makeEmpty : ByteArray := prog_3_method_39_code
theorem my_H_makeEmpty : MyM yH_makeEmpty cH_makeEmpty 2 none 1 := ⟨wd_6, wd_769, ⟨by decide, by decide, by decide +kernel⟩, by decide⟩
theorem mv_H_makeEmpty : MvM yH_makeEmpty := ⟨wd_768, wp_12⟩
def yH_makeNew : MethodName := ⟨"HomeFreed$Heap", "makeNew", "()V"⟩
abbrev cH_makeNew : ByteArray := prog_3_method_2_code
theorem my_H_makeNew : MyM yH_makeNew cH_makeNew 1 none 0 := ⟨wd_6, wd_544, ⟨by decide, by decide, by decide +kernel⟩, by decide⟩
theorem mv_H_makeNew : MvM yH_makeNew := ⟨wd_542, wd_543⟩
def yH_outInAll : MethodName := ⟨"HomeFreed$Heap", "outInAll", "()I"⟩
abbrev cH_outInAll : ByteArray := prog_3_method_25_code
theorem my_H_outInAll : MyM yH_outInAll cH_outInAll 3 (some .int) 0 := ⟨wd_6, wd_1052, ⟨by decide, by decide, by decide +kernel⟩, by decide⟩
theorem mv_H_outInAll : MvM yH_outInAll := ⟨wd_1050, wd_1051⟩
def yH_outOf : MethodName := ⟨"HomeFreed$Heap", "outOf", "(I)I"⟩
abbrev cH_outOf : ByteArray := prog_3_method_18_code
theorem my_H_outOf : MyM yH_outOf cH_outOf 4 (some .int) 1 := ⟨wd_6, wd_618, ⟨by decide, by decide, by decide +kernel⟩, by decide⟩
theorem mv_H_outOf : MvM yH_outOf := ⟨wd_616, wd_617⟩
def yH_outboxOf : MethodName := ⟨"HomeFreed$Heap", "outboxOf", "(II)I"⟩
abbrev cH_outboxOf : ByteArray := prog_3_method_12_code
theorem my_H_outboxOf : MyM yH_outboxOf cH_outboxOf 3 (some .int) 2 := ⟨wd_6, wd_622, ⟨by decide, by decide, by decide +kernel⟩, by decide⟩
theorem mv_H_outboxOf : MvM yH_outboxOf := ⟨wd_620, wd_621⟩
def yH_ownNumber : MethodName := ⟨"HomeFreed$Heap", "ownNumber", "(I)I"⟩
abbrev cH_ownNumber : ByteArray := prog_3_method_10_code
theorem my_H_ownNumber : MyM yH_ownNumber cH_ownNumber 2 (some .int) 1 := ⟨wd_6, wd_597, ⟨by decide, by decide, by decide +kernel⟩, by decide⟩
theorem mv_H_ownNumber : MvM yH_ownNumber := ⟨wd_595, wd_596⟩
def yH_pageFor : MethodName := ⟨"HomeFreed$Heap", "pageFor", "(II)I"⟩
abbrev cH_pageFor : ByteArray := prog_3_method_31_code
theorem my_H_pageFor : MyM yH_pageFor cH_pageFor 6 (some .int) 2 := ⟨wd_6, wd_668, ⟨by decide, by decide, by decide +kernel⟩, by decide⟩
theorem mv_H_pageFor : MvM yH_pageFor := ⟨wd_666, wd_667⟩
def yH_pagesInUse : MethodName := ⟨"HomeFreed$Heap", "pagesInUse", "()I"⟩
abbrev cH_pagesInUse : ByteArray := prog_3_method_22_code
theorem my_H_pagesInUse : MyM yH_pagesInUse cH_pagesInUse 3 (some .int) 0 := ⟨wd_6, wd_981, ⟨by decide, by decide, by decide +kernel⟩, by decide⟩
theorem mv_H_pagesInUse : MvM yH_pagesInUse := ⟨wd_979, wd_980⟩
def yH_pagesOf : MethodName := ⟨"HomeFreed$Heap", "pagesOf", "(I)I"⟩
abbrev cH_pagesOf : ByteArray := prog_3_method_17_code
theorem my_H_pagesOf : MyM yH_pagesOf cH_pagesOf 4 (some .int) 1 := ⟨wd_6, wd_614, ⟨by decide, by decide, by decide +kernel⟩, by decide⟩
theorem mv_H_pagesOf : MvM yH_pagesOf := ⟨wd_612, wd_613⟩
def yH_placesOf : MethodName := ⟨"HomeFreed$Heap", "placesOf", "(II)I"⟩
abbrev cH_placesOf : ByteArray := prog_3_method_29_code
theorem my_H_placesOf : MyM yH_placesOf cH_placesOf 5 (some .int) 2 := ⟨wd_6, wd_1070, ⟨by decide, by decide, by decide +kernel⟩, by decide⟩
theorem mv_H_placesOf : MvM yH_placesOf := ⟨wd_1069, wp_27⟩
def yH_queueFullAgain : MethodName := ⟨"HomeFreed$Heap", "queueFullAgain", "(I)V"⟩
abbrev cH_queueFullAgain : ByteArray := prog_3_method_43_code
theorem my_H_queueFullAgain : MyM yH_queueFullAgain cH_queueFullAgain 4 none 1 := ⟨wd_6, wd_765, ⟨by decide, by decide, by decide +kernel⟩, by decide⟩
theorem mv_H_queueFullAgain : MvM yH_queueFullAgain := ⟨wd_764, wp_11⟩
def yH_queueOf : MethodName := ⟨"HomeFreed$Heap", "queueOf", "(II)I"⟩
abbrev cH_queueOf : ByteArray := prog_3_method_13_code
theorem my_H_queueOf : MyM yH_queueOf cH_queueOf 3 (some .int) 2 := ⟨wd_6, wd_630, ⟨by decide, by decide, by decide +kernel⟩, by decide⟩
theorem mv_H_queueOf : MvM yH_queueOf := ⟨wd_628, wd_629⟩
def yH_sendAll : MethodName := ⟨"HomeFreed$Heap", "sendAll", "(I)I"⟩
abbrev cH_sendAll : ByteArray := prog_3_method_41_code
theorem my_H_sendAll : MyM yH_sendAll cH_sendAll 4 (some .int) 1 := ⟨wd_6, wd_799, ⟨by decide, by decide, by decide +kernel⟩, by decide⟩
theorem mv_H_sendAll : MvM yH_sendAll := ⟨wd_797, wd_798⟩
def yH_stateOf : MethodName := ⟨"HomeFreed$Heap", "stateOf", "(I)I"⟩
abbrev cH_stateOf : ByteArray := prog_3_method_16_code
theorem my_H_stateOf : MyM yH_stateOf cH_stateOf 2 (some .int) 1 := ⟨wd_6, wd_1048, ⟨by decide, by decide, by decide +kernel⟩, by decide⟩
theorem mv_H_stateOf : MvM yH_stateOf := ⟨wd_1046, wd_1047⟩
def yH_takeBlock : MethodName := ⟨"HomeFreed$Heap", "takeBlock", "(II)I"⟩
abbrev cH_takeBlock : ByteArray := prog_3_method_33_code
theorem my_H_takeBlock : MyM yH_takeBlock cH_takeBlock 8 (some .int) 2 := ⟨wd_6, wd_696, ⟨by decide, by decide, by decide +kernel⟩, by decide⟩
theorem mv_H_takeBlock : MvM yH_takeBlock := ⟨wd_694, wd_695⟩
def yH_takeReady : MethodName := ⟨"HomeFreed$Heap", "takeReady", "(I)I"⟩
abbrev cH_takeReady : ByteArray := prog_3_method_36_code
theorem my_H_takeReady : MyM yH_takeReady cH_takeReady 3 (some .int) 1 := ⟨wd_6, wd_737, ⟨by decide, by decide, by decide +kernel⟩, by decide⟩
theorem mv_H_takeReady : MvM yH_takeReady := ⟨wd_736, wp_8⟩
def yH_thingOf : MethodName := ⟨"HomeFreed$Heap", "thingOf", "(I)I"⟩
abbrev cH_thingOf : ByteArray := prog_3_method_9_code
theorem my_H_thingOf : MyM yH_thingOf cH_thingOf 2 (some .int) 1 := ⟨wd_6, wd_652, ⟨by decide, by decide, by decide +kernel⟩, by decide⟩
theorem mv_H_thingOf : MvM yH_thingOf := ⟨wd_650, wd_651⟩
def yH_timesIn : MethodName := ⟨"HomeFreed$Heap", "timesIn", "(II)I"⟩
abbrev cH_timesIn : ByteArray := prog_3_method_30_code
theorem my_H_timesIn : MyM yH_timesIn cH_timesIn 6 (some .int) 2 := ⟨wd_6, wd_1074, ⟨by decide, by decide, by decide +kernel⟩, by decide⟩
theorem mv_H_timesIn : MvM yH_timesIn := ⟨wd_1073, wp_28⟩
def yH_turnOver : MethodName := ⟨"HomeFreed$Heap", "turnOver", "(I)V"⟩
abbrev cH_turnOver : ByteArray := prog_3_method_44_code
theorem my_H_turnOver : MyM yH_turnOver cH_turnOver 3 none 1 := ⟨wd_6, wd_807, ⟨by decide, by decide, by decide +kernel⟩, by decide⟩
theorem mv_H_turnOver : MvM yH_turnOver := ⟨wd_805, wd_806⟩
def yH_usedOf : MethodName := ⟨"HomeFreed$Heap", "usedOf", "(I)I"⟩
abbrev cH_usedOf : ByteArray := prog_3_method_15_code
theorem my_H_usedOf : MyM yH_usedOf cH_usedOf 3 (some .int) 1 := ⟨wd_6, wd_673, ⟨by decide, by decide, by decide +kernel⟩, by decide⟩
theorem mv_H_usedOf : MvM yH_usedOf := ⟨wd_671, wd_672⟩
def yH_vacate : MethodName := ⟨"HomeFreed$Heap", "vacate", "(I)V"⟩
abbrev cH_vacate : ByteArray := prog_3_method_40_code
theorem my_H_vacate : MyM yH_vacate cH_vacate 3 none 1 := ⟨wd_6, wd_761, ⟨by decide, by decide, by decide +kernel⟩, by decide⟩
theorem mv_H_vacate : MvM yH_vacate := ⟨wd_760, wp_10⟩
def yK_floorMod : MethodName := ⟨"java/lang/Math", "floorMod", "(II)I"⟩
abbrev cK_floorMod : ByteArray := prog_19_method_50_code
theorem my_K_floorMod : MyM yK_floorMod cK_floorMod 3 (some .int) 2 := ⟨wd_17, wd_749, ⟨by decide, by decide, by decide +kernel⟩, by decide⟩
theorem mv_K_floorMod : Cond.static yK_floorMod ∈ lw_tbl := wd_748
def yK_max : MethodName := ⟨"java/lang/Math", "max", "(II)I"⟩
abbrev cK_max : ByteArray := prog_19_method_65_code
theorem my_K_max : MyM yK_max cK_max 2 (some .int) 2 := ⟨wd_17, wd_418, ⟨by decide, by decide, by decide +kernel⟩, by decide⟩
theorem mv_K_max : Cond.static yK_max ∈ lw_tbl := wd_417
def yK_min : MethodName := ⟨"java/lang/Math", "min", "(II)I"⟩
abbrev cK_min : ByteArray := prog_19_method_69_code
theorem my_K_min : MyM yK_min cK_min 2 (some .int) 2 := ⟨wd_17, wd_421, ⟨by decide, by decide, by decide +kernel⟩, by decide⟩
theorem mv_K_min : Cond.static yK_min ∈ lw_tbl := wd_420
def yL_blockAt : MethodName := ⟨"HomeFreed$Log", "blockAt", "(I)I"⟩
abbrev cL_blockAt : ByteArray := prog_4_method_6_code
theorem my_L_blockAt : MyM yL_blockAt cL_blockAt 2 (some .int) 1 := ⟨wd_9, wd_908, ⟨by decide, by decide, by decide +kernel⟩, by decide⟩
theorem mv_L_blockAt : MvM yL_blockAt := ⟨wd_906, wd_907⟩
def yL_copyFrom : MethodName := ⟨"HomeFreed$Log", "copyFrom", "(LHomeFreed$Log;)V"⟩
abbrev cL_copyFrom : ByteArray := prog_4_method_2_code
theorem my_L_copyFrom : MyM yL_copyFrom cL_copyFrom 2 none 1 := ⟨wd_9, wd_691, ⟨by decide, by decide, by decide +kernel⟩, by decide⟩
theorem mv_L_copyFrom : MvM yL_copyFrom := ⟨wd_689, wd_690⟩
def yL_entryAt : MethodName := ⟨"HomeFreed$Log", "entryAt", "(I)I"⟩
abbrev cL_entryAt : ByteArray := prog_4_method_5_code
theorem my_L_entryAt : MyM yL_entryAt cL_entryAt 2 (some .int) 1 := ⟨wd_9, wd_912, ⟨by decide, by decide, by decide +kernel⟩, by decide⟩
theorem mv_L_entryAt : MvM yL_entryAt := ⟨wd_911, wp_20⟩
def yL_howAt : MethodName := ⟨"HomeFreed$Log", "howAt", "(I)I"⟩
abbrev cL_howAt : ByteArray := prog_4_method_8_code
theorem my_L_howAt : MyM yL_howAt cL_howAt 2 (some .int) 1 := ⟨wd_9, wd_920, ⟨by decide, by decide, by decide +kernel⟩, by decide⟩
theorem mv_L_howAt : MvM yL_howAt := ⟨wd_918, wd_919⟩
def yL_length : MethodName := ⟨"HomeFreed$Log", "length", "()I"⟩
abbrev cL_length : ByteArray := prog_4_method_4_code
theorem my_L_length : MyM yL_length cL_length 1 (some .int) 0 := ⟨wd_9, wd_903, ⟨by decide, by decide, by decide +kernel⟩, by decide⟩
theorem mv_L_length : MvM yL_length := ⟨wd_901, wd_902⟩
def yL_note : MethodName := ⟨"HomeFreed$Log", "note", "(III)V"⟩
abbrev cL_note : ByteArray := prog_4_method_3_code
theorem my_L_note : MyM yL_note cL_note 4 none 3 := ⟨wd_9, wd_746, ⟨by decide, by decide, by decide +kernel⟩, by decide⟩
theorem mv_L_note : MvM yL_note := ⟨wd_744, wd_745⟩
def yL_threadAt : MethodName := ⟨"HomeFreed$Log", "threadAt", "(I)I"⟩
abbrev cL_threadAt : ByteArray := prog_4_method_7_code
theorem my_L_threadAt : MyM yL_threadAt cL_threadAt 2 (some .int) 1 := ⟨wd_9, wd_916, ⟨by decide, by decide, by decide +kernel⟩, by decide⟩
theorem mv_L_threadAt : MvM yL_threadAt := ⟨wd_914, wd_915⟩
def yM_addFirst : MethodName := ⟨"HomeFreedModel", "addFirst", "(II)V"⟩
abbrev cM_addFirst : ByteArray := prog_13_method_35_code
theorem my_M_addFirst : MyM yM_addFirst cM_addFirst 4 none 2 := ⟨wd_13, wd_1502, ⟨by decide, by decide, by decide +kernel⟩, by decide⟩
theorem mv_M_addFirst : MvM yM_addFirst := ⟨wd_1501, wp_64⟩
def yM_addLast : MethodName := ⟨"HomeFreedModel", "addLast", "(II)V"⟩
abbrev cM_addLast : ByteArray := prog_13_method_34_code
theorem my_M_addLast : MyM yM_addLast cM_addLast 3 none 2 := ⟨wd_13, wd_1518, ⟨by decide, by decide, by decide +kernel⟩, by decide⟩
theorem mv_M_addLast : MvM yM_addLast := ⟨wd_1517, wp_68⟩
def yM_ahead : MethodName := ⟨"HomeFreedModel", "ahead", "()I"⟩
abbrev cM_ahead : ByteArray := prog_13_method_9_code
theorem my_M_ahead : MyM yM_ahead cM_ahead 1 (some .int) 0 := ⟨wd_13, wd_1306, ⟨by decide, by decide, by decide +kernel⟩, by decide⟩
theorem mv_M_ahead : MvM yM_ahead := ⟨wd_1305, wp_31⟩
def yM_back : MethodName := ⟨"HomeFreedModel", "back", "()I"⟩
abbrev cM_back : ByteArray := prog_13_method_129_code
theorem my_M_back : MyM yM_back cM_back 2 (some .int) 0 := ⟨wd_13, wd_1779, ⟨by decide, by decide, by decide +kernel⟩, by decide⟩
theorem mv_M_back : MvM yM_back := ⟨wd_1777, wd_1778⟩
def yM_bad : MethodName := ⟨"HomeFreedModel", "bad", "()V"⟩
abbrev cM_bad : ByteArray := prog_13_method_10_code
theorem my_M_bad : MyM yM_bad cM_bad 1 none 0 := ⟨wd_13, wd_1334, ⟨by decide, by decide, by decide +kernel⟩, by decide⟩
theorem mv_M_bad : MvM yM_bad := ⟨wd_1333, wp_35⟩
def yM_blocksOf : MethodName := ⟨"HomeFreedModel", "blocksOf", "(I)I"⟩
abbrev cM_blocksOf : ByteArray := prog_13_method_40_code
theorem my_M_blocksOf : MyM yM_blocksOf cM_blocksOf 2 (some .int) 1 := ⟨wd_13, wd_1393, ⟨by decide, by decide, by decide +kernel⟩, by decide⟩
theorem mv_M_blocksOf : MvM yM_blocksOf := ⟨wd_1392, wp_45⟩
def yM_boxAt : MethodName := ⟨"HomeFreedModel", "boxAt", "(II)I"⟩
abbrev cM_boxAt : ByteArray := prog_13_method_33_code
theorem my_M_boxAt : MyM yM_boxAt cM_boxAt 2 (some .int) 2 := ⟨wd_13, wd_1427, ⟨by decide, by decide, by decide +kernel⟩, by decide⟩
theorem mv_M_boxAt : Cond.static yM_boxAt ∈ lw_tbl := wd_1426
def yM_boxedBy : MethodName := ⟨"HomeFreedModel", "boxedBy", "(I)I"⟩
abbrev cM_boxedBy : ByteArray := prog_13_method_75_code
theorem my_M_boxedBy : MyM yM_boxedBy cM_boxedBy 4 (some .int) 1 := ⟨wd_13, wd_1424, ⟨by decide, by decide, by decide +kernel⟩, by decide⟩
theorem mv_M_boxedBy : MvM yM_boxedBy := ⟨wd_1423, wp_50⟩
def yM_byteOf : MethodName := ⟨"HomeFreedModel", "byteOf", "(IIIIII)I"⟩
abbrev cM_byteOf : ByteArray := prog_13_method_5_code
theorem my_M_byteOf : MyM yM_byteOf cM_byteOf 7 (some .int) 6 := ⟨wd_13, wd_1284, ⟨by decide, by decide, by decide +kernel⟩, by decide⟩
theorem mv_M_byteOf : Cond.static yM_byteOf ∈ lw_tbl := wd_1283
def yM_canGet : MethodName := ⟨"HomeFreedModel", "canGet", "(II)Z"⟩
abbrev cM_canGet : ByteArray := prog_13_method_51_code
theorem my_M_canGet : MyM yM_canGet cM_canGet 5 (some .boolean) 2 := ⟨wd_13, wd_1470, ⟨by decide, by decide, by decide +kernel⟩, by decide⟩
theorem mv_M_canGet : MvM yM_canGet := ⟨wd_1469, wp_56⟩
def yM_canStep : MethodName := ⟨"HomeFreedModel", "canStep", "(III)Z"⟩
abbrev cM_canStep : ByteArray := prog_13_method_64_code
theorem my_M_canStep : MyM yM_canStep cM_canStep 6 (some .boolean) 3 := ⟨wd_13, wd_1598, ⟨by decide, by decide, by decide +kernel⟩, by decide⟩
theorem mv_M_canStep : MvM yM_canStep := ⟨wd_1597, wp_83⟩
def yM_cheapest : MethodName := ⟨"HomeFreedModel", "cheapest", "(I)I"⟩
abbrev cM_cheapest : ByteArray := prog_13_method_117_code
theorem my_M_cheapest : MyM yM_cheapest cM_cheapest 5 (some .int) 1 := ⟨wd_13, wd_1731, ⟨by decide, by decide, by decide +kernel⟩, by decide⟩
theorem mv_M_cheapest : MvM yM_cheapest := ⟨wd_1729, wd_1730⟩
def yM_classFor : MethodName := ⟨"HomeFreedModel", "classFor", "(I)I"⟩
abbrev cM_classFor : ByteArray := prog_13_method_49_code
theorem my_M_classFor : MyM yM_classFor cM_classFor 3 (some .int) 1 := ⟨wd_13, wd_1462, ⟨by decide, by decide, by decide +kernel⟩, by decide⟩
theorem mv_M_classFor : MvM yM_classFor := ⟨wd_1461, wp_54⟩
def yM_classes : MethodName := ⟨"HomeFreedModel", "classes", "(II)I"⟩
abbrev cM_classes : ByteArray := prog_13_method_103_code
theorem my_M_classes : MyM yM_classes cM_classes 7 (some .int) 2 := ⟨wd_13, wd_1669, ⟨by decide, by decide, by decide +kernel⟩, by decide⟩
theorem mv_M_classes : MvM yM_classes := ⟨wd_1667, wd_1668⟩
def yM_collect : MethodName := ⟨"HomeFreedModel", "collect", "(I)I"⟩
abbrev cM_collect : ByteArray := prog_13_method_52_code
theorem my_M_collect : MyM yM_collect cM_collect 4 (some .int) 1 := ⟨wd_13, wd_1494, ⟨by decide, by decide, by decide +kernel⟩, by decide⟩
theorem mv_M_collect : MvM yM_collect := ⟨wd_1493, wp_62⟩
def yM_count : MethodName := ⟨"HomeFreedModel", "count", "(I)I"⟩
abbrev cM_count : ByteArray := prog_13_method_130_code
theorem my_M_count : MyM yM_count cM_count 2 (some .int) 1 := ⟨wd_13, wd_1783, ⟨by decide, by decide, by decide +kernel⟩, by decide⟩
theorem mv_M_count : MvM yM_count := ⟨wd_1781, wd_1782⟩
def yM_doStep : MethodName := ⟨"HomeFreedModel", "doStep", "(IIIZ)V"⟩
abbrev cM_doStep : ByteArray := prog_13_method_68_code
theorem my_M_doStep : MyM yM_doStep cM_doStep 7 none 4 := ⟨wd_13, wd_1606, ⟨by decide, by decide, by decide +kernel⟩, by decide⟩
theorem mv_M_doStep : MvM yM_doStep := ⟨wd_1605, wp_85⟩
def yM_doesLive : MethodName := ⟨"HomeFreedModel", "doesLive", "(I)Z"⟩
abbrev cM_doesLive : ByteArray := prog_13_method_27_code
theorem my_M_doesLive : MyM yM_doesLive cM_doesLive 2 (some .boolean) 1 := ⟨wd_13, wd_1466, ⟨by decide, by decide, by decide +kernel⟩, by decide⟩
theorem mv_M_doesLive : MvM yM_doesLive := ⟨wd_1465, wp_55⟩
def yM_draw : MethodName := ⟨"HomeFreedModel", "draw", "(I)I"⟩
abbrev cM_draw : ByteArray := prog_13_method_93_code
theorem my_M_draw : MyM yM_draw cM_draw 2 (some .int) 1 := ⟨wd_13, wd_1630, ⟨by decide, by decide, by decide +kernel⟩, by decide⟩
theorem mv_M_draw : MvM yM_draw := ⟨wd_1629, wp_90⟩
def yM_drawOnce : MethodName := ⟨"HomeFreedModel", "drawOnce", "()V"⟩
abbrev cM_drawOnce : ByteArray := prog_13_method_95_code
theorem my_M_drawOnce : MyM yM_drawOnce cM_drawOnce 4 none 0 := ⟨wd_13, wd_1626, ⟨by decide, by decide, by decide +kernel⟩, by decide⟩
theorem mv_M_drawOnce : MvM yM_drawOnce := ⟨wd_1625, wp_89⟩
def yM_end : MethodName := ⟨"HomeFreedModel", "end", "(I)Z"⟩
abbrev cM_end : ByteArray := prog_13_method_7_code
theorem my_M_end : MyM yM_end cM_end 2 (some .boolean) 1 := ⟨wd_13, wd_1288, ⟨by decide, by decide, by decide +kernel⟩, by decide⟩
theorem mv_M_end : MvM yM_end := ⟨wd_1286, wd_1287⟩
def yM_endScope : MethodName := ⟨"HomeFreedModel", "endScope", "()V"⟩
abbrev cM_endScope : ByteArray := prog_13_method_66_code
theorem my_M_endScope : MyM yM_endScope cM_endScope 3 none 0 := ⟨wd_13, wd_1614, ⟨by decide, by decide, by decide +kernel⟩, by decide⟩
theorem mv_M_endScope : MvM yM_endScope := ⟨wd_1613, wp_87⟩
def yM_endWay : MethodName := ⟨"HomeFreedModel", "endWay", "()V"⟩
abbrev cM_endWay : ByteArray := prog_13_method_111_code
theorem my_M_endWay : MyM yM_endWay cM_endWay 1 none 0 := ⟨wd_13, wd_1717, ⟨by decide, by decide, by decide +kernel⟩, by decide⟩
theorem mv_M_endWay : MvM yM_endWay := ⟨wd_1716, wp_100⟩
def yM_enqueue : MethodName := ⟨"HomeFreedModel", "enqueue", "(I)V"⟩
abbrev cM_enqueue : ByteArray := prog_13_method_45_code
theorem my_M_enqueue : MyM yM_enqueue cM_enqueue 2 none 1 := ⟨wd_13, wd_1522, ⟨by decide, by decide, by decide +kernel⟩, by decide⟩
theorem mv_M_enqueue : MvM yM_enqueue := ⟨wd_1521, wp_69⟩
def yM_fault : MethodName := ⟨"HomeFreedModel", "fault", "(I)I"⟩
abbrev cM_fault : ByteArray := prog_13_method_22_code
theorem my_M_fault : MyM yM_fault cM_fault 2 (some .int) 1 := ⟨wd_13, wd_1295, ⟨by decide, by decide, by decide +kernel⟩, by decide⟩
theorem mv_M_fault : MvM yM_fault := ⟨wd_1293, wd_1294⟩
def yM_feed : MethodName := ⟨"HomeFreedModel", "feed", "(IIIII)I"⟩
abbrev cM_feed : ByteArray := prog_13_method_6_code
theorem my_M_feed : MyM yM_feed cM_feed 9 (some .int) 5 := ⟨wd_13, wd_1281, ⟨by decide, by decide, by decide +kernel⟩, by decide⟩
theorem mv_M_feed : MvM yM_feed := ⟨wd_1279, wd_1280⟩
def yM_foreign : MethodName := ⟨"HomeFreedModel", "foreign", "()I"⟩
abbrev cM_foreign : ByteArray := prog_13_method_124_code
theorem my_M_foreign : MyM yM_foreign cM_foreign 3 (some .int) 0 := ⟨wd_13, wd_1763, ⟨by decide, by decide, by decide +kernel⟩, by decide⟩
theorem mv_M_foreign : MvM yM_foreign := ⟨wd_1762, wp_108⟩
def yM_free : MethodName := ⟨"HomeFreedModel", "free", "(II)I"⟩
abbrev cM_free : ByteArray := prog_13_method_86_code
theorem my_M_free : MyM yM_free cM_free 3 (some .int) 2 := ⟨wd_13, wd_1562, ⟨by decide, by decide, by decide +kernel⟩, by decide⟩
theorem mv_M_free : MvM yM_free := ⟨wd_1560, wd_1561⟩
def yM_freeNow : MethodName := ⟨"HomeFreedModel", "freeNow", "(II)I"⟩
abbrev cM_freeNow : ByteArray := prog_13_method_58_code
theorem my_M_freeNow : MyM yM_freeNow cM_freeNow 5 (some .int) 2 := ⟨wd_13, wd_1566, ⟨by decide, by decide, by decide +kernel⟩, by decide⟩
theorem mv_M_freeNow : MvM yM_freeNow := ⟨wd_1565, wp_79⟩
def yM_fullest : MethodName := ⟨"HomeFreedModel", "fullest", "()I"⟩
abbrev cM_fullest : ByteArray := prog_13_method_118_code
theorem my_M_fullest : MyM yM_fullest cM_fullest 3 (some .int) 0 := ⟨wd_13, wd_1739, ⟨by decide, by decide, by decide +kernel⟩, by decide⟩
theorem mv_M_fullest : MvM yM_fullest := ⟨wd_1738, wp_102⟩
def yM_get : MethodName := ⟨"HomeFreedModel", "get", "(II)I"⟩
abbrev cM_get : ByteArray := prog_13_method_85_code
theorem my_M_get : MyM yM_get cM_get 4 (some .int) 2 := ⟨wd_13, wd_1454, ⟨by decide, by decide, by decide +kernel⟩, by decide⟩
theorem mv_M_get : MvM yM_get := ⟨wd_1452, wd_1453⟩
def yM_getNow : MethodName := ⟨"HomeFreedModel", "getNow", "(II)I"⟩
abbrev cM_getNow : ByteArray := prog_13_method_55_code
theorem my_M_getNow : MyM yM_getNow cM_getNow 5 (some .int) 2 := ⟨wd_13, wd_1486, ⟨by decide, by decide, by decide +kernel⟩, by decide⟩
theorem mv_M_getNow : MvM yM_getNow := ⟨wd_1485, wp_60⟩
def yM_getOnce : MethodName := ⟨"HomeFreedModel", "getOnce", "(II)I"⟩
abbrev cM_getOnce : ByteArray := prog_13_method_54_code
theorem my_M_getOnce : MyM yM_getOnce cM_getOnce 8 (some .int) 2 := ⟨wd_13, wd_1490, ⟨by decide, by decide, by decide +kernel⟩, by decide⟩
theorem mv_M_getOnce : MvM yM_getOnce := ⟨wd_1489, wp_61⟩
def yM_giveBack : MethodName := ⟨"HomeFreedModel", "giveBack", "(I)V"⟩
abbrev cM_giveBack : ByteArray := prog_13_method_48_code
theorem my_M_giveBack : MyM yM_giveBack cM_giveBack 2 none 1 := ⟨wd_13, wd_1554, ⟨by decide, by decide, by decide +kernel⟩, by decide⟩
theorem mv_M_giveBack : MvM yM_giveBack := ⟨wd_1553, wp_77⟩
def yM_goHome : MethodName := ⟨"HomeFreedModel", "goHome", "(II)I"⟩
abbrev cM_goHome : ByteArray := prog_13_method_57_code
theorem my_M_goHome : MyM yM_goHome cM_goHome 4 (some .int) 2 := ⟨wd_13, wd_1538, ⟨by decide, by decide, by decide +kernel⟩, by decide⟩
theorem mv_M_goHome : MvM yM_goHome := ⟨wd_1537, wp_73⟩
def yM_goWays : MethodName := ⟨"HomeFreedModel", "goWays", "(IIII)V"⟩
abbrev cM_goWays : ByteArray := prog_13_method_112_code
theorem my_M_goWays : MyM yM_goWays cM_goWays 10 none 4 := ⟨wd_13, wd_1713, ⟨by decide, by decide, by decide +kernel⟩, by decide⟩
theorem mv_M_goWays : MvM yM_goWays := ⟨wd_1712, wp_99⟩
def yM_has : MethodName := ⟨"HomeFreedModel", "has", "(II)Z"⟩
abbrev cM_has : ByteArray := prog_13_method_2_code
theorem my_M_has : MyM yM_has cM_has 2 (some .boolean) 2 := ⟨wd_13, wd_1320, ⟨by decide, by decide, by decide +kernel⟩, by decide⟩
theorem mv_M_has : Cond.static yM_has ∈ lw_tbl := wd_1319
def yM_held : MethodName := ⟨"HomeFreedModel", "held", "(I)I"⟩
abbrev cM_held : ByteArray := prog_13_method_81_code
theorem my_M_held : MyM yM_held cM_held 2 (some .int) 1 := ⟨wd_13, wd_1442, ⟨by decide, by decide, by decide +kernel⟩, by decide⟩
theorem mv_M_held : MvM yM_held := ⟨wd_1440, wd_1441⟩
def yM_heldAt : MethodName := ⟨"HomeFreedModel", "heldAt", "(I)I"⟩
abbrev cM_heldAt : ByteArray := prog_13_method_94_code
theorem my_M_heldAt : MyM yM_heldAt cM_heldAt 5 (some .int) 1 := ⟨wd_13, wd_1640, ⟨by decide, by decide, by decide +kernel⟩, by decide⟩
theorem mv_M_heldAt : MvM yM_heldAt := ⟨wd_1639, wp_92⟩
def yM_heldMany : MethodName := ⟨"HomeFreedModel", "heldMany", "()I"⟩
abbrev cM_heldMany : ByteArray := prog_13_method_92_code
theorem my_M_heldMany : MyM yM_heldMany cM_heldMany 4 (some .int) 0 := ⟨wd_13, wd_1636, ⟨by decide, by decide, by decide +kernel⟩, by decide⟩
theorem mv_M_heldMany : MvM yM_heldMany := ⟨wd_1635, wp_91⟩
def yM_here : MethodName := ⟨"HomeFreedModel", "here", "()I"⟩
abbrev cM_here : ByteArray := prog_13_method_8_code
theorem my_M_here : MyM yM_here cM_here 1 (some .int) 0 := ⟨wd_13, wd_1310, ⟨by decide, by decide, by decide +kernel⟩, by decide⟩
theorem mv_M_here : MvM yM_here := ⟨wd_1309, wp_32⟩
def yM_highest : MethodName := ⟨"HomeFreedModel", "highest", "(II)I"⟩
abbrev cM_highest : ByteArray := prog_13_method_14_code
theorem my_M_highest : MyM yM_highest cM_highest 2 (some .int) 2 := ⟨wd_13, wd_1323, ⟨by decide, by decide, by decide +kernel⟩, by decide⟩
theorem mv_M_highest : Cond.static yM_highest ∈ lw_tbl := wd_1322
def yM_idle : MethodName := ⟨"HomeFreedModel", "idle", "()I"⟩
abbrev cM_idle : ByteArray := prog_13_method_123_code
theorem my_M_idle : MyM yM_idle cM_idle 3 (some .int) 0 := ⟨wd_13, wd_1759, ⟨by decide, by decide, by decide +kernel⟩, by decide⟩
theorem mv_M_idle : MvM yM_idle := ⟨wd_1758, wp_107⟩
def yM_image : MethodName := ⟨"HomeFreedModel", "image", "()I"⟩
abbrev cM_image : ByteArray := prog_13_method_128_code
theorem my_M_image : MyM yM_image cM_image 2 (some .int) 0 := ⟨wd_13, wd_1775, ⟨by decide, by decide, by decide +kernel⟩, by decide⟩
theorem mv_M_image : MvM yM_image := ⟨wd_1773, wd_1774⟩
def yM_in : MethodName := ⟨"HomeFreedModel", "in", "(III)Z"⟩
abbrev cM_in : ByteArray := prog_13_method_1_code
theorem my_M_in : MyM yM_in cM_in 3 (some .boolean) 3 := ⟨wd_13, wd_1291, ⟨by decide, by decide, by decide +kernel⟩, by decide⟩
theorem mv_M_in : Cond.static yM_in ∈ lw_tbl := wd_1290
def yM_isArena : MethodName := ⟨"HomeFreedModel", "isArena", "()Z"⟩
abbrev cM_isArena : ByteArray := prog_13_method_25_code
theorem my_M_isArena : MyM yM_isArena cM_isArena 1 (some .boolean) 0 := ⟨wd_13, wd_1365, ⟨by decide, by decide, by decide +kernel⟩, by decide⟩
theorem mv_M_isArena : MvM yM_isArena := ⟨wd_1364, wp_40⟩
def yM_isAsked : MethodName := ⟨"HomeFreedModel", "isAsked", "(I)Z"⟩
abbrev cM_isAsked : ByteArray := prog_13_method_84_code
theorem my_M_isAsked : MyM yM_isAsked cM_isAsked 2 (some .boolean) 1 := ⟨wd_13, wd_1458, ⟨by decide, by decide, by decide +kernel⟩, by decide⟩
theorem mv_M_isAsked : MvM yM_isAsked := ⟨wd_1457, wp_53⟩
def yM_isBlock : MethodName := ⟨"HomeFreedModel", "isBlock", "(I)Z"⟩
abbrev cM_isBlock : ByteArray := prog_13_method_79_code
theorem my_M_isBlock : MyM yM_isBlock cM_isBlock 2 (some .boolean) 1 := ⟨wd_13, wd_1446, ⟨by decide, by decide, by decide +kernel⟩, by decide⟩
theorem mv_M_isBlock : MvM yM_isBlock := ⟨wd_1445, wp_51⟩
def yM_isDigit : MethodName := ⟨"HomeFreedModel", "isDigit", "(I)Z"⟩
abbrev cM_isDigit : ByteArray := prog_13_method_11_code
theorem my_M_isDigit : MyM yM_isDigit cM_isDigit 1 (some .boolean) 1 := ⟨wd_13, wd_1330, ⟨by decide, by decide, by decide +kernel⟩, by decide⟩
theorem mv_M_isDigit : Cond.static yM_isDigit ∈ lw_tbl := wd_1329
def yM_isFew : MethodName := ⟨"HomeFreedModel", "isFew", "(I)Z"⟩
abbrev cM_isFew : ByteArray := prog_13_method_113_code
theorem my_M_isFew : MyM yM_isFew cM_isFew 4 (some .boolean) 1 := ⟨wd_13, wd_1709, ⟨by decide, by decide, by decide +kernel⟩, by decide⟩
theorem mv_M_isFew : MvM yM_isFew := ⟨wd_1708, wp_98⟩
def yM_isHeld : MethodName := ⟨"HomeFreedModel", "isHeld", "(I)Z"⟩
abbrev cM_isHeld : ByteArray := prog_13_method_80_code
theorem my_M_isHeld : MyM yM_isHeld cM_isHeld 2 (some .boolean) 1 := ⟨wd_13, wd_1450, ⟨by decide, by decide, by decide +kernel⟩, by decide⟩
theorem mv_M_isHeld : MvM yM_isHeld := ⟨wd_1449, wp_52⟩
def yM_isOf : MethodName := ⟨"HomeFreedModel", "isOf", "(II)Z"⟩
abbrev cM_isOf : ByteArray := prog_13_method_60_code
theorem my_M_isOf : MyM yM_isOf cM_isOf 3 (some .boolean) 2 := ⟨wd_13, wd_1420, ⟨by decide, by decide, by decide +kernel⟩, by decide⟩
theorem mv_M_isOf : MvM yM_isOf := ⟨wd_1419, wp_49⟩
def yM_isOwned : MethodName := ⟨"HomeFreedModel", "isOwned", "(I)Z"⟩
abbrev cM_isOwned : ByteArray := prog_13_method_43_code
theorem my_M_isOwned : MyM yM_isOwned cM_isOwned 2 (some .boolean) 1 := ⟨wd_13, wd_1385, ⟨by decide, by decide, by decide +kernel⟩, by decide⟩
theorem mv_M_isOwned : MvM yM_isOwned := ⟨wd_1384, wp_43⟩
def yM_isPage : MethodName := ⟨"HomeFreedModel", "isPage", "(I)Z"⟩
abbrev cM_isPage : ByteArray := prog_13_method_28_code
theorem my_M_isPage : MyM yM_isPage cM_isPage 2 (some .boolean) 1 := ⟨wd_13, wd_1377, ⟨by decide, by decide, by decide +kernel⟩, by decide⟩
theorem mv_M_isPage : MvM yM_isPage := ⟨wd_1376, wp_41⟩
def yM_isRefused : MethodName := ⟨"HomeFreedModel", "isRefused", "(I)Z"⟩
abbrev cM_isRefused : ByteArray := prog_13_method_83_code
theorem my_M_isRefused : MyM yM_isRefused cM_isRefused 2 (some .boolean) 1 := ⟨wd_13, wd_1478, ⟨by decide, by decide, by decide +kernel⟩, by decide⟩
theorem mv_M_isRefused : MvM yM_isRefused := ⟨wd_1477, wp_58⟩
def yM_isScript : MethodName := ⟨"HomeFreedModel", "isScript", "(I)Z"⟩
abbrev cM_isScript : ByteArray := prog_13_method_90_code
theorem my_M_isScript : MyM yM_isScript cM_isScript 2 (some .boolean) 1 := ⟨wd_13, wd_1590, ⟨by decide, by decide, by decide +kernel⟩, by decide⟩
theorem mv_M_isScript : MvM yM_isScript := ⟨wd_1589, wp_81⟩
def yM_isThread : MethodName := ⟨"HomeFreedModel", "isThread", "(I)Z"⟩
abbrev cM_isThread : ByteArray := prog_13_method_26_code
theorem my_M_isThread : MyM yM_isThread cM_isThread 2 (some .boolean) 1 := ⟨wd_13, wd_1412, ⟨by decide, by decide, by decide +kernel⟩, by decide⟩
theorem mv_M_isThread : MvM yM_isThread := ⟨wd_1411, wp_47⟩
def yM_isWhole : MethodName := ⟨"HomeFreedModel", "isWhole", "()Z"⟩
abbrev cM_isWhole : ByteArray := prog_13_method_17_code
theorem my_M_isWhole : MyM yM_isWhole cM_isWhole 3 (some .boolean) 0 := ⟨wd_13, wd_1338, ⟨by decide, by decide, by decide +kernel⟩, by decide⟩
theorem mv_M_isWhole : MvM yM_isWhole := ⟨wd_1337, wp_36⟩
def yM_itemOf : MethodName := ⟨"HomeFreedModel", "itemOf", "(II)I"⟩
abbrev cM_itemOf : ByteArray := prog_13_method_13_code
theorem my_M_itemOf : MyM yM_itemOf cM_itemOf 2 (some .int) 2 := ⟨wd_13, wd_1317, ⟨by decide, by decide, by decide +kernel⟩, by decide⟩
theorem mv_M_itemOf : Cond.static yM_itemOf ∈ lw_tbl := wd_1316
def yM_items : MethodName := ⟨"HomeFreedModel", "items", "(I[III)V"⟩
abbrev cM_items : ByteArray := prog_13_method_16_code
theorem my_M_items : MyM yM_items cM_items 7 none 4 := ⟨wd_13, wd_1314, ⟨by decide, by decide, by decide +kernel⟩, by decide⟩
theorem mv_M_items : MvM yM_items := ⟨wd_1313, wp_33⟩
def yM_keep : MethodName := ⟨"HomeFreedModel", "keep", "()V"⟩
abbrev cM_keep : ByteArray := prog_13_method_82_code
theorem my_M_keep : MyM yM_keep cM_keep 2 none 0 := ⟨wd_13, wd_1482, ⟨by decide, by decide, by decide +kernel⟩, by decide⟩
theorem mv_M_keep : MvM yM_keep := ⟨wd_1481, wp_59⟩
def yM_leaveQueue : MethodName := ⟨"HomeFreedModel", "leaveQueue", "(I)V"⟩
abbrev cM_leaveQueue : ByteArray := prog_13_method_46_code
theorem my_M_leaveQueue : MyM yM_leaveQueue cM_leaveQueue 2 none 1 := ⟨wd_13, wd_1546, ⟨by decide, by decide, by decide +kernel⟩, by decide⟩
theorem mv_M_leaveQueue : MvM yM_leaveQueue := ⟨wd_1545, wp_75⟩
def yM_list : MethodName := ⟨"HomeFreedModel", "list", "(III)I"⟩
abbrev cM_list : ByteArray := prog_13_method_73_code
theorem my_M_list : MyM yM_list cM_list 4 (some .int) 3 := ⟨wd_13, wd_1404, ⟨by decide, by decide, by decide +kernel⟩, by decide⟩
theorem mv_M_list : MvM yM_list := ⟨wd_1402, wd_1403⟩
def yM_listAt : MethodName := ⟨"HomeFreedModel", "listAt", "(II)I"⟩
abbrev cM_listAt : ByteArray := prog_13_method_31_code
theorem my_M_listAt : MyM yM_listAt cM_listAt 2 (some .int) 2 := ⟨wd_13, wd_1400, ⟨by decide, by decide, by decide +kernel⟩, by decide⟩
theorem mv_M_listAt : Cond.static yM_listAt ∈ lw_tbl := wd_1399
def yM_listedOf : MethodName := ⟨"HomeFreedModel", "listedOf", "(I)I"⟩
abbrev cM_listedOf : ByteArray := prog_13_method_41_code
theorem my_M_listedOf : MyM yM_listedOf cM_listedOf 2 (some .int) 1 := ⟨wd_13, wd_1397, ⟨by decide, by decide, by decide +kernel⟩, by decide⟩
theorem mv_M_listedOf : MvM yM_listedOf := ⟨wd_1396, wp_46⟩
def yM_living : MethodName := ⟨"HomeFreedModel", "living", "()I"⟩
abbrev cM_living : ByteArray := prog_13_method_120_code
theorem my_M_living : MyM yM_living cM_living 3 (some .int) 0 := ⟨wd_13, wd_1747, ⟨by decide, by decide, by decide +kernel⟩, by decide⟩
theorem mv_M_living : MvM yM_living := ⟨wd_1746, wp_104⟩
def yM_log : MethodName := ⟨"HomeFreedModel", "log", "(II)I"⟩
abbrev cM_log : ByteArray := prog_13_method_99_code
theorem my_M_log : MyM yM_log cM_log 3 (some .int) 2 := ⟨wd_13, wd_1652, ⟨by decide, by decide, by decide +kernel⟩, by decide⟩
theorem mv_M_log : MvM yM_log := ⟨wd_1650, wd_1651⟩
def yM_lostMany : MethodName := ⟨"HomeFreedModel", "lostMany", "()I"⟩
abbrev cM_lostMany : ByteArray := prog_13_method_126_code
theorem my_M_lostMany : MyM yM_lostMany cM_lostMany 4 (some .int) 0 := ⟨wd_13, wd_1767, ⟨by decide, by decide, by decide +kernel⟩, by decide⟩
theorem mv_M_lostMany : MvM yM_lostMany := ⟨wd_1766, wp_109⟩
def yM_lowestLiving : MethodName := ⟨"HomeFreedModel", "lowestLiving", "()I"⟩
abbrev cM_lowestLiving : ByteArray := prog_13_method_65_code
theorem my_M_lowestLiving : MyM yM_lowestLiving cM_lowestLiving 2 (some .int) 0 := ⟨wd_13, wd_1618, ⟨by decide, by decide, by decide +kernel⟩, by decide⟩
theorem mv_M_lowestLiving : MvM yM_lowestLiving := ⟨wd_1617, wp_88⟩
def yM_makeEmpty : MethodName := ⟨"HomeFreedModel", "makeEmpty", "(I)V"⟩
abbrev cM_makeEmpty : ByteArray := prog_13_method_47_code
theorem my_M_makeEmpty : MyM yM_makeEmpty cM_makeEmpty 3 none 1 := ⟨wd_13, wd_1542, ⟨by decide, by decide, by decide +kernel⟩, by decide⟩
theorem mv_M_makeEmpty : MvM yM_makeEmpty := ⟨wd_1541, wp_74⟩
def yM_most : MethodName := ⟨"HomeFreedModel", "most", "(I)I"⟩
abbrev cM_most : ByteArray := prog_13_method_127_code
theorem my_M_most : MyM yM_most cM_most 2 (some .int) 1 := ⟨wd_13, wd_1735, ⟨by decide, by decide, by decide +kernel⟩, by decide⟩
theorem mv_M_most : MvM yM_most := ⟨wd_1733, wd_1734⟩
def yM_moveAhead : MethodName := ⟨"HomeFreedModel", "moveAhead", "(II)V"⟩
abbrev cM_moveAhead : ByteArray := prog_13_method_38_code
theorem my_M_moveAhead : MyM yM_moveAhead cM_moveAhead 4 none 2 := ⟨wd_13, wd_1498, ⟨by decide, by decide, by decide +kernel⟩, by decide⟩
theorem mv_M_moveAhead : MvM yM_moveAhead := ⟨wd_1497, wp_63⟩
def yM_note : MethodName := ⟨"HomeFreedModel", "note", "(II)V"⟩
abbrev cM_note : ByteArray := prog_13_method_56_code
theorem my_M_note : MyM yM_note cM_note 4 none 2 := ⟨wd_13, wd_1558, ⟨by decide, by decide, by decide +kernel⟩, by decide⟩
theorem mv_M_note : MvM yM_note := ⟨wd_1557, wp_78⟩
def yM_number : MethodName := ⟨"HomeFreedModel", "number", "(II)I"⟩
abbrev cM_number : ByteArray := prog_13_method_12_code
theorem my_M_number : MyM yM_number cM_number 4 (some .int) 2 := ⟨wd_13, wd_1327, ⟨by decide, by decide, by decide +kernel⟩, by decide⟩
theorem mv_M_number : MvM yM_number := ⟨wd_1326, wp_34⟩
def yM_of : MethodName := ⟨"HomeFreedModel", "of", "(II)I"⟩
abbrev cM_of : ByteArray := prog_13_method_29_code
theorem my_M_of : MyM yM_of cM_of 3 (some .int) 2 := ⟨wd_13, wd_1381, ⟨by decide, by decide, by decide +kernel⟩, by decide⟩
theorem mv_M_of : MvM yM_of := ⟨wd_1380, wp_42⟩
def yM_otherPage : MethodName := ⟨"HomeFreedModel", "otherPage", "(IZ)I"⟩
abbrev cM_otherPage : ByteArray := prog_13_method_50_code
theorem my_M_otherPage : MyM yM_otherPage cM_otherPage 5 (some .int) 2 := ⟨wd_13, wd_1474, ⟨by decide, by decide, by decide +kernel⟩, by decide⟩
theorem mv_M_otherPage : MvM yM_otherPage := ⟨wd_1473, wp_57⟩
def yM_outMany : MethodName := ⟨"HomeFreedModel", "outMany", "()I"⟩
abbrev cM_outMany : ByteArray := prog_13_method_122_code
theorem my_M_outMany : MyM yM_outMany cM_outMany 3 (some .int) 0 := ⟨wd_13, wd_1755, ⟨by decide, by decide, by decide +kernel⟩, by decide⟩
theorem mv_M_outMany : MvM yM_outMany := ⟨wd_1754, wp_106⟩
def yM_outbox : MethodName := ⟨"HomeFreedModel", "outbox", "(III)I"⟩
abbrev cM_outbox : ByteArray := prog_13_method_78_code
theorem my_M_outbox : MyM yM_outbox cM_outbox 4 (some .int) 3 := ⟨wd_13, wd_1438, ⟨by decide, by decide, by decide +kernel⟩, by decide⟩
theorem mv_M_outbox : MvM yM_outbox := ⟨wd_1436, wd_1437⟩
def yM_ownQueue : MethodName := ⟨"HomeFreedModel", "ownQueue", "(I)I"⟩
abbrev cM_ownQueue : ByteArray := prog_13_method_44_code
theorem my_M_ownQueue : MyM yM_ownQueue cM_ownQueue 2 (some .int) 1 := ⟨wd_13, wd_1526, ⟨by decide, by decide, by decide +kernel⟩, by decide⟩
theorem mv_M_ownQueue : MvM yM_ownQueue := ⟨wd_1525, wp_70⟩
def yM_ownedBy : MethodName := ⟨"HomeFreedModel", "ownedBy", "(I)I"⟩
abbrev cM_ownedBy : ByteArray := prog_13_method_74_code
theorem my_M_ownedBy : MyM yM_ownedBy cM_ownedBy 4 (some .int) 1 := ⟨wd_13, wd_1416, ⟨by decide, by decide, by decide +kernel⟩, by decide⟩
theorem mv_M_ownedBy : MvM yM_ownedBy := ⟨wd_1415, wp_48⟩
def yM_page : MethodName := ⟨"HomeFreedModel", "page", "(II)I"⟩
abbrev cM_page : ByteArray := prog_13_method_72_code
theorem my_M_page : MyM yM_page cM_page 4 (some .int) 2 := ⟨wd_13, wd_1373, ⟨by decide, by decide, by decide +kernel⟩, by decide⟩
theorem mv_M_page : MvM yM_page := ⟨wd_1371, wd_1372⟩
def yM_pagesInUse : MethodName := ⟨"HomeFreedModel", "pagesInUse", "()I"⟩
abbrev cM_pagesInUse : ByteArray := prog_13_method_109_code
theorem my_M_pagesInUse : MyM yM_pagesInUse cM_pagesInUse 3 (some .int) 0 := ⟨wd_13, wd_1701, ⟨by decide, by decide, by decide +kernel⟩, by decide⟩
theorem mv_M_pagesInUse : MvM yM_pagesInUse := ⟨wd_1700, wp_97⟩
def yM_pagesThat : MethodName := ⟨"HomeFreedModel", "pagesThat", "(I)I"⟩
abbrev cM_pagesThat : ByteArray := prog_13_method_121_code
theorem my_M_pagesThat : MyM yM_pagesThat cM_pagesThat 4 (some .int) 1 := ⟨wd_13, wd_1751, ⟨by decide, by decide, by decide +kernel⟩, by decide⟩
theorem mv_M_pagesThat : MvM yM_pagesThat := ⟨wd_1750, wp_105⟩
def yM_perform : MethodName := ⟨"HomeFreedModel", "perform", "(I)I"⟩
abbrev cM_perform : ByteArray := prog_13_method_91_code
theorem my_M_perform : MyM yM_perform cM_perform 2 (some .int) 1 := ⟨wd_13, wd_1586, ⟨by decide, by decide, by decide +kernel⟩, by decide⟩
theorem mv_M_perform : MvM yM_perform := ⟨wd_1584, wd_1585⟩
def yM_placeIn : MethodName := ⟨"HomeFreedModel", "placeIn", "(II)I"⟩
abbrev cM_placeIn : ByteArray := prog_13_method_39_code
theorem my_M_placeIn : MyM yM_placeIn cM_placeIn 4 (some .int) 2 := ⟨wd_13, wd_1689, ⟨by decide, by decide, by decide +kernel⟩, by decide⟩
theorem mv_M_placeIn : MvM yM_placeIn := ⟨wd_1688, wp_96⟩
def yM_putAside : MethodName := ⟨"HomeFreedModel", "putAside", "(I)V"⟩
abbrev cM_putAside : ByteArray := prog_13_method_104_code
theorem my_M_putAside : MyM yM_putAside cM_putAside 3 none 1 := ⟨wd_13, wd_1677, ⟨by decide, by decide, by decide +kernel⟩, by decide⟩
theorem mv_M_putAside : MvM yM_putAside := ⟨wd_1676, wp_94⟩
def yM_queue : MethodName := ⟨"HomeFreedModel", "queue", "(III)I"⟩
abbrev cM_queue : ByteArray := prog_13_method_77_code
theorem my_M_queue : MyM yM_queue cM_queue 4 (some .int) 3 := ⟨wd_13, wd_1431, ⟨by decide, by decide, by decide +kernel⟩, by decide⟩
theorem mv_M_queue : MvM yM_queue := ⟨wd_1429, wd_1430⟩
def yM_queueAt : MethodName := ⟨"HomeFreedModel", "queueAt", "(II)I"⟩
abbrev cM_queueAt : ByteArray := prog_13_method_32_code
theorem my_M_queueAt : MyM yM_queueAt cM_queueAt 2 (some .int) 2 := ⟨wd_13, wd_1434, ⟨by decide, by decide, by decide +kernel⟩, by decide⟩
theorem mv_M_queueAt : Cond.static yM_queueAt ∈ lw_tbl := wd_1433
def yM_readArena : MethodName := ⟨"HomeFreedModel", "readArena", "()I"⟩
abbrev cM_readArena : ByteArray := prog_13_method_18_code
theorem my_M_readArena : MyM yM_readArena cM_readArena 4 (some .int) 0 := ⟨wd_13, wd_1299, ⟨by decide, by decide, by decide +kernel⟩, by decide⟩
theorem mv_M_readArena : MvM yM_readArena := ⟨wd_1298, wp_30⟩
def yM_readScript : MethodName := ⟨"HomeFreedModel", "readScript", "(I)I"⟩
abbrev cM_readScript : ByteArray := prog_13_method_21_code
theorem my_M_readScript : MyM yM_readScript cM_readScript 3 (some .int) 1 := ⟨wd_13, wd_1342, ⟨by decide, by decide, by decide +kernel⟩, by decide⟩
theorem mv_M_readScript : MvM yM_readScript := ⟨wd_1341, wp_37⟩
def yM_readStep : MethodName := ⟨"HomeFreedModel", "readStep", "(I)V"⟩
abbrev cM_readStep : ByteArray := prog_13_method_20_code
theorem my_M_readStep : MyM yM_readStep cM_readStep 3 none 1 := ⟨wd_13, wd_1346, ⟨by decide, by decide, by decide +kernel⟩, by decide⟩
theorem mv_M_readStep : MvM yM_readStep := ⟨wd_1345, wp_38⟩
def yM_richest : MethodName := ⟨"HomeFreedModel", "richest", "()I"⟩
abbrev cM_richest : ByteArray := prog_13_method_119_code
theorem my_M_richest : MyM yM_richest cM_richest 3 (some .int) 0 := ⟨wd_13, wd_1743, ⟨by decide, by decide, by decide +kernel⟩, by decide⟩
theorem mv_M_richest : MvM yM_richest := ⟨wd_1742, wp_103⟩
def yM_rule : MethodName := ⟨"HomeFreedModel", "rule", "(I)I"⟩
abbrev cM_rule : ByteArray := prog_13_method_70_code
theorem my_M_rule : MyM yM_rule cM_rule 2 (some .int) 1 := ⟨wd_13, wd_1361, ⟨by decide, by decide, by decide +kernel⟩, by decide⟩
theorem mv_M_rule : MvM yM_rule := ⟨wd_1359, wd_1360⟩
def yM_run : MethodName := ⟨"HomeFreedModel", "run", "(II)I"⟩
abbrev cM_run : ByteArray := prog_13_method_110_code
theorem my_M_run : MyM yM_run cM_run 5 (some .int) 2 := ⟨wd_13, wd_1697, ⟨by decide, by decide, by decide +kernel⟩, by decide⟩
theorem mv_M_run : MvM yM_run := ⟨wd_1695, wd_1696⟩
def yM_runScript : MethodName := ⟨"HomeFreedModel", "runScript", "(IZ)I"⟩
abbrev cM_runScript : ByteArray := prog_13_method_69_code
theorem my_M_runScript : MyM yM_runScript cM_runScript 4 (some .int) 2 := ⟨wd_13, wd_1594, ⟨by decide, by decide, by decide +kernel⟩, by decide⟩
theorem mv_M_runScript : MvM yM_runScript := ⟨wd_1593, wp_82⟩
def yM_send : MethodName := ⟨"HomeFreedModel", "send", "(I)I"⟩
abbrev cM_send : ByteArray := prog_13_method_88_code
theorem my_M_send : MyM yM_send cM_send 2 (some .int) 1 := ⟨wd_13, wd_1574, ⟨by decide, by decide, by decide +kernel⟩, by decide⟩
theorem mv_M_send : MvM yM_send := ⟨wd_1572, wd_1573⟩
def yM_sendNow : MethodName := ⟨"HomeFreedModel", "sendNow", "(I)I"⟩
abbrev cM_sendNow : ByteArray := prog_13_method_59_code
theorem my_M_sendNow : MyM yM_sendNow cM_sendNow 4 (some .int) 1 := ⟨wd_13, wd_1534, ⟨by decide, by decide, by decide +kernel⟩, by decide⟩
theorem mv_M_sendNow : MvM yM_sendNow := ⟨wd_1533, wp_72⟩
def yM_series : MethodName := ⟨"HomeFreedModel", "series", "(III)I"⟩
abbrev cM_series : ByteArray := prog_13_method_108_code
theorem my_M_series : MyM yM_series cM_series 6 (some .int) 3 := ⟨wd_13, wd_1693, ⟨by decide, by decide, by decide +kernel⟩, by decide⟩
theorem mv_M_series : MvM yM_series := ⟨wd_1691, wd_1692⟩
def yM_set : MethodName := ⟨"HomeFreedModel", "set", "(III)V"⟩
abbrev cM_set : ByteArray := prog_13_method_30_code
theorem my_M_set : MyM yM_set cM_set 4 none 3 := ⟨wd_13, wd_1514, ⟨by decide, by decide, by decide +kernel⟩, by decide⟩
theorem mv_M_set : MvM yM_set := ⟨wd_1513, wp_67⟩
def yM_shares : MethodName := ⟨"HomeFreedModel", "shares", "(II)I"⟩
abbrev cM_shares : ByteArray := prog_13_method_116_code
theorem my_M_shares : MyM yM_shares cM_shares 3 (some .int) 2 := ⟨wd_13, wd_1723, ⟨by decide, by decide, by decide +kernel⟩, by decide⟩
theorem mv_M_shares : MvM yM_shares := ⟨wd_1721, wd_1722⟩
def yM_size : MethodName := ⟨"HomeFreedModel", "size", "(I)I"⟩
abbrev cM_size : ByteArray := prog_13_method_71_code
theorem my_M_size : MyM yM_size cM_size 2 (some .int) 1 := ⟨wd_13, wd_1369, ⟨by decide, by decide, by decide +kernel⟩, by decide⟩
theorem mv_M_size : MvM yM_size := ⟨wd_1367, wd_1368⟩
def yM_sortOf : MethodName := ⟨"HomeFreedModel", "sortOf", "(I)I"⟩
abbrev cM_sortOf : ByteArray := prog_13_method_19_code
theorem my_M_sortOf : MyM yM_sortOf cM_sortOf 1 (some .int) 1 := ⟨wd_13, wd_1349, ⟨by decide, by decide, by decide +kernel⟩, by decide⟩
theorem mv_M_sortOf : Cond.static yM_sortOf ∈ lw_tbl := wd_1348
def yM_status : MethodName := ⟨"HomeFreedModel", "status", "(I)I"⟩
abbrev cM_status : ByteArray := prog_13_method_97_code
theorem my_M_status : MyM yM_status cM_status 2 (some .int) 1 := ⟨wd_13, wd_1644, ⟨by decide, by decide, by decide +kernel⟩, by decide⟩
theorem mv_M_status : MvM yM_status := ⟨wd_1642, wd_1643⟩
def yM_step : MethodName := ⟨"HomeFreedModel", "step", "(III)I"⟩
abbrev cM_step : ByteArray := prog_13_method_100_code
theorem my_M_step : MyM yM_step cM_step 4 (some .int) 3 := ⟨wd_13, wd_1656, ⟨by decide, by decide, by decide +kernel⟩, by decide⟩
theorem mv_M_step : MvM yM_step := ⟨wd_1654, wd_1655⟩
def yM_stepGet : MethodName := ⟨"HomeFreedModel", "stepGet", "(IIIZ)V"⟩
abbrev cM_stepGet : ByteArray := prog_13_method_67_code
theorem my_M_stepGet : MyM yM_stepGet cM_stepGet 6 none 4 := ⟨wd_13, wd_1610, ⟨by decide, by decide, by decide +kernel⟩, by decide⟩
theorem mv_M_stepGet : MvM yM_stepGet := ⟨wd_1609, wp_86⟩
def yM_stepOf : MethodName := ⟨"HomeFreedModel", "stepOf", "(III)I"⟩
abbrev cM_stepOf : ByteArray := prog_13_method_63_code
theorem my_M_stepOf : MyM yM_stepOf cM_stepOf 4 (some .int) 3 := ⟨wd_13, wd_1602, ⟨by decide, by decide, by decide +kernel⟩, by decide⟩
theorem mv_M_stepOf : MvM yM_stepOf := ⟨wd_1601, wp_84⟩
def yM_takeArena : MethodName := ⟨"HomeFreedModel", "takeArena", "()I"⟩
abbrev cM_takeArena : ByteArray := prog_13_method_23_code
theorem my_M_takeArena : MyM yM_takeArena cM_takeArena 2 (some .int) 0 := ⟨wd_13, wd_1357, ⟨by decide, by decide, by decide +kernel⟩, by decide⟩
theorem mv_M_takeArena : MvM yM_takeArena := ⟨wd_1356, wp_39⟩
def yM_takeBack : MethodName := ⟨"HomeFreedModel", "takeBack", "(I)V"⟩
abbrev cM_takeBack : ByteArray := prog_13_method_105_code
theorem my_M_takeBack : MyM yM_takeBack cM_takeBack 3 none 1 := ⟨wd_13, wd_1681, ⟨by decide, by decide, by decide +kernel⟩, by decide⟩
theorem mv_M_takeBack : MvM yM_takeBack := ⟨wd_1680, wp_95⟩
def yM_takeBlock : MethodName := ⟨"HomeFreedModel", "takeBlock", "(II)I"⟩
abbrev cM_takeBlock : ByteArray := prog_13_method_53_code
theorem my_M_takeBlock : MyM yM_takeBlock cM_takeBlock 4 (some .int) 2 := ⟨wd_13, wd_1506, ⟨by decide, by decide, by decide +kernel⟩, by decide⟩
theorem mv_M_takeBlock : MvM yM_takeBlock := ⟨wd_1505, wp_65⟩
def yM_takeFirst : MethodName := ⟨"HomeFreedModel", "takeFirst", "(I)I"⟩
abbrev cM_takeFirst : ByteArray := prog_13_method_36_code
theorem my_M_takeFirst : MyM yM_takeFirst cM_takeFirst 4 (some .int) 1 := ⟨wd_13, wd_1510, ⟨by decide, by decide, by decide +kernel⟩, by decide⟩
theorem mv_M_takeFirst : MvM yM_takeFirst := ⟨wd_1509, wp_66⟩
def yM_takeOut : MethodName := ⟨"HomeFreedModel", "takeOut", "(II)V"⟩
abbrev cM_takeOut : ByteArray := prog_13_method_37_code
theorem my_M_takeOut : MyM yM_takeOut cM_takeOut 5 none 2 := ⟨wd_13, wd_1550, ⟨by decide, by decide, by decide +kernel⟩, by decide⟩
theorem mv_M_takeOut : MvM yM_takeOut := ⟨wd_1549, wp_76⟩
def yM_text : MethodName := ⟨"HomeFreedModel", "text", "(I)I"⟩
abbrev cM_text : ByteArray := prog_13_method_24_code
theorem my_M_text : MyM yM_text cM_text 2 (some .int) 1 := ⟨wd_13, wd_1353, ⟨by decide, by decide, by decide +kernel⟩, by decide⟩
theorem mv_M_text : MvM yM_text := ⟨wd_1351, wd_1352⟩
def yM_thread : MethodName := ⟨"HomeFreedModel", "thread", "(II)I"⟩
abbrev cM_thread : ByteArray := prog_13_method_76_code
theorem my_M_thread : MyM yM_thread cM_thread 3 (some .int) 2 := ⟨wd_13, wd_1408, ⟨by decide, by decide, by decide +kernel⟩, by decide⟩
theorem mv_M_thread : MvM yM_thread := ⟨wd_1406, wd_1407⟩
def yM_thrown : MethodName := ⟨"HomeFreedModel", "thrown", "()I"⟩
abbrev cM_thrown : ByteArray := prog_13_method_4_code
theorem my_M_thrown : MyM yM_thrown cM_thrown 1 (some .int) 0 := ⟨wd_13, wd_1277, ⟨by decide, by decide, by decide +kernel⟩, by decide⟩
theorem mv_M_thrown : MvM yM_thrown := ⟨wd_1275, wd_1276⟩
def yM_tick : MethodName := ⟨"HomeFreedModel", "tick", "(I)I"⟩
abbrev cM_tick : ByteArray := prog_13_method_87_code
theorem my_M_tick : MyM yM_tick cM_tick 2 (some .int) 1 := ⟨wd_13, wd_1570, ⟨by decide, by decide, by decide +kernel⟩, by decide⟩
theorem mv_M_tick : MvM yM_tick := ⟨wd_1568, wd_1569⟩
def yM_tickNow : MethodName := ⟨"HomeFreedModel", "tickNow", "(I)V"⟩
abbrev cM_tickNow : ByteArray := prog_13_method_61_code
theorem my_M_tickNow : MyM yM_tickNow cM_tickNow 3 none 1 := ⟨wd_13, wd_1530, ⟨by decide, by decide, by decide +kernel⟩, by decide⟩
theorem mv_M_tickNow : MvM yM_tickNow := ⟨wd_1529, wp_71⟩
def yM_timesOf : MethodName := ⟨"HomeFreedModel", "timesOf", "(II)I"⟩
abbrev cM_timesOf : ByteArray := prog_13_method_125_code
theorem my_M_timesOf : MyM yM_timesOf cM_timesOf 6 (some .int) 2 := ⟨wd_13, wd_1771, ⟨by decide, by decide, by decide +kernel⟩, by decide⟩
theorem mv_M_timesOf : MvM yM_timesOf := ⟨wd_1770, wp_110⟩
def yM_turn : MethodName := ⟨"HomeFreedModel", "turn", "(I)I"⟩
abbrev cM_turn : ByteArray := prog_13_method_89_code
theorem my_M_turn : MyM yM_turn cM_turn 2 (some .int) 1 := ⟨wd_13, wd_1578, ⟨by decide, by decide, by decide +kernel⟩, by decide⟩
theorem mv_M_turn : MvM yM_turn := ⟨wd_1576, wd_1577⟩
def yM_turnNow : MethodName := ⟨"HomeFreedModel", "turnNow", "(I)V"⟩
abbrev cM_turnNow : ByteArray := prog_13_method_62_code
theorem my_M_turnNow : MyM yM_turnNow cM_turnNow 3 none 1 := ⟨wd_13, wd_1582, ⟨by decide, by decide, by decide +kernel⟩, by decide⟩
theorem mv_M_turnNow : MvM yM_turnNow := ⟨wd_1581, wp_80⟩
def yM_undo : MethodName := ⟨"HomeFreedModel", "undo", "()I"⟩
abbrev cM_undo : ByteArray := prog_13_method_98_code
theorem my_M_undo : MyM yM_undo cM_undo 2 (some .int) 0 := ⟨wd_13, wd_1648, ⟨by decide, by decide, by decide +kernel⟩, by decide⟩
theorem mv_M_undo : MvM yM_undo := ⟨wd_1646, wd_1647⟩
def yM_usedBy : MethodName := ⟨"HomeFreedModel", "usedBy", "(I)I"⟩
abbrev cM_usedBy : ByteArray := prog_13_method_115_code
theorem my_M_usedBy : MyM yM_usedBy cM_usedBy 4 (some .int) 1 := ⟨wd_13, wd_1727, ⟨by decide, by decide, by decide +kernel⟩, by decide⟩
theorem mv_M_usedBy : MvM yM_usedBy := ⟨wd_1726, wp_101⟩
def yM_usedOf : MethodName := ⟨"HomeFreedModel", "usedOf", "(I)I"⟩
abbrev cM_usedOf : ByteArray := prog_13_method_42_code
theorem my_M_usedOf : MyM yM_usedOf cM_usedOf 2 (some .int) 1 := ⟨wd_13, wd_1389, ⟨by decide, by decide, by decide +kernel⟩, by decide⟩
theorem mv_M_usedOf : MvM yM_usedOf := ⟨wd_1388, wp_44⟩
def yM_usual : MethodName := ⟨"HomeFreedModel", "usual", "(II)I"⟩
abbrev cM_usual : ByteArray := prog_13_method_15_code
theorem my_M_usual : MyM yM_usual cM_usual 2 (some .int) 2 := ⟨wd_13, wd_1302, ⟨by decide, by decide, by decide +kernel⟩, by decide⟩
theorem mv_M_usual : Cond.static yM_usual ∈ lw_tbl := wd_1301
def yM_waste : MethodName := ⟨"HomeFreedModel", "waste", "(I)I"⟩
abbrev cM_waste : ByteArray := prog_13_method_102_code
theorem my_M_waste : MyM yM_waste cM_waste 2 (some .int) 1 := ⟨wd_13, wd_1661, ⟨by decide, by decide, by decide +kernel⟩, by decide⟩
theorem mv_M_waste : MvM yM_waste := ⟨wd_1659, wd_1660⟩
def yM_ways : MethodName := ⟨"HomeFreedModel", "ways", "(III)I"⟩
abbrev cM_ways : ByteArray := prog_13_method_114_code
theorem my_M_ways : MyM yM_ways cM_ways 5 (some .int) 3 := ⟨wd_13, wd_1705, ⟨by decide, by decide, by decide +kernel⟩, by decide⟩
theorem mv_M_ways : MvM yM_ways := ⟨wd_1703, wd_1704⟩
def yM_where : MethodName := ⟨"HomeFreedModel", "where", "(II)I"⟩
abbrev cM_where : ByteArray := prog_13_method_107_code
theorem my_M_where : MyM yM_where cM_where 7 (some .int) 2 := ⟨wd_13, wd_1685, ⟨by decide, by decide, by decide +kernel⟩, by decide⟩
theorem mv_M_where : MvM yM_where := ⟨wd_1683, wd_1684⟩
def yM_worst : MethodName := ⟨"HomeFreedModel", "worst", "()I"⟩
abbrev cM_worst : ByteArray := prog_13_method_101_code
theorem my_M_worst : MyM yM_worst cM_worst 5 (some .int) 0 := ⟨wd_13, wd_1665, ⟨by decide, by decide, by decide +kernel⟩, by decide⟩
theorem mv_M_worst : MvM yM_worst := ⟨wd_1664, wp_93⟩
def yM_would : MethodName := ⟨"HomeFreedModel", "would", "(II)I"⟩
abbrev cM_would : ByteArray := prog_13_method_106_code
theorem my_M_would : MyM yM_would cM_would 4 (some .int) 2 := ⟨wd_13, wd_1673, ⟨by decide, by decide, by decide +kernel⟩, by decide⟩
theorem mv_M_would : MvM yM_would := ⟨wd_1671, wd_1672⟩
def yM_years : MethodName := ⟨"HomeFreedModel", "years", "(IJ)I"⟩
abbrev cM_years : ByteArray := prog_13_method_96_code
theorem my_M_years : MyM yM_years cM_years 5 (some .int) 2 := ⟨wd_13, wd_1622, ⟨by decide, by decide, by decide +kernel⟩, by decide⟩
theorem mv_M_years : MvM yM_years := ⟨wd_1620, wd_1621⟩
def yP_forget : MethodName := ⟨"HomeFreed$Past", "forget", "()V"⟩
abbrev cP_forget : ByteArray := prog_6_method_2_code
theorem my_P_forget : MyM yP_forget cP_forget 1 none 0 := ⟨wd_10, wd_552, ⟨by decide, by decide, by decide +kernel⟩, by decide⟩
theorem mv_P_forget : MvM yP_forget := ⟨wd_550, wd_551⟩
def yP_keep : MethodName := ⟨"HomeFreed$Past", "keep", "(LHomeFreed$Heap;)V"⟩
abbrev cP_keep : ByteArray := prog_6_method_3_code
theorem my_P_keep : MyM yP_keep cP_keep 2 none 1 := ⟨wd_10, wd_677, ⟨by decide, by decide, by decide +kernel⟩, by decide⟩
theorem mv_P_keep : MvM yP_keep := ⟨wd_675, wd_676⟩
def yP_takeBack : MethodName := ⟨"HomeFreed$Past", "takeBack", "(LHomeFreed$Heap;)I"⟩
abbrev cP_takeBack : ByteArray := prog_6_method_4_code
theorem my_P_takeBack : MyM yP_takeBack cP_takeBack 2 (some .int) 1 := ⟨wd_10, wd_895, ⟨by decide, by decide, by decide +kernel⟩, by decide⟩
theorem mv_P_takeBack : MvM yP_takeBack := ⟨wd_893, wd_894⟩
def yR_expect : MethodName := ⟨"HomeFreed$Reader", "expect", "(C)V"⟩
abbrev cR_expect : ByteArray := prog_8_method_7_code
theorem my_R_expect : MyM yR_expect cR_expect 2 none 1 := ⟨wd_3, wd_505, ⟨by decide, by decide, by decide +kernel⟩, by decide⟩
theorem mv_R_expect : MvM yR_expect := ⟨wd_503, wd_504⟩
def yR_isDigit : MethodName := ⟨"HomeFreed$Reader", "isDigit", "(I)Z"⟩
abbrev cR_isDigit : ByteArray := prog_8_method_11_code
theorem my_R_isDigit : MyM yR_isDigit cR_isDigit 1 (some .boolean) 1 := ⟨wd_3, wd_489, ⟨by decide, by decide, by decide +kernel⟩, by decide⟩
theorem mv_R_isDigit : Cond.static yR_isDigit ∈ lw_tbl := wd_488
def yR_isWrong : MethodName := ⟨"HomeFreed$Reader", "isWrong", "()Z"⟩
abbrev cR_isWrong : ByteArray := prog_8_method_3_code
theorem my_R_isWrong : MyM yR_isWrong cR_isWrong 1 (some .boolean) 0 := ⟨wd_3, wd_370, ⟨by decide, by decide, by decide +kernel⟩, by decide⟩
theorem mv_R_isWrong : MvM yR_isWrong := ⟨wd_368, wd_369⟩
def yR_mark : MethodName := ⟨"HomeFreed$Reader", "mark", "()V"⟩
abbrev cR_mark : ByteArray := prog_8_method_4_code
theorem my_R_mark : MyM yR_mark cR_mark 1 none 0 := ⟨wd_3, wd_477, ⟨by decide, by decide, by decide +kernel⟩, by decide⟩
theorem mv_R_mark : MvM yR_mark := ⟨wd_475, wd_476⟩
def yR_pass : MethodName := ⟨"HomeFreed$Reader", "pass", "()V"⟩
abbrev cR_pass : ByteArray := prog_8_method_6_code
theorem my_R_pass : MyM yR_pass cR_pass 1 none 0 := ⟨wd_3, wd_378, ⟨by decide, by decide, by decide +kernel⟩, by decide⟩
theorem mv_R_pass : MvM yR_pass := ⟨wd_376, wd_377⟩
def yR_peek : MethodName := ⟨"HomeFreed$Reader", "peek", "()I"⟩
abbrev cR_peek : ByteArray := prog_8_method_5_code
theorem my_R_peek : MyM yR_peek cR_peek 1 (some .int) 0 := ⟨wd_3, wd_374, ⟨by decide, by decide, by decide +kernel⟩, by decide⟩
theorem mv_R_peek : MvM yR_peek := ⟨wd_372, wd_373⟩
def yR_readDigit : MethodName := ⟨"HomeFreed$Reader", "readDigit", "()I"⟩
abbrev cR_readDigit : ByteArray := prog_8_method_8_code
theorem my_R_readDigit : MyM yR_readDigit cR_readDigit 2 (some .int) 0 := ⟨wd_3, wd_485, ⟨by decide, by decide, by decide +kernel⟩, by decide⟩
theorem mv_R_readDigit : MvM yR_readDigit := ⟨wd_483, wd_484⟩
def yR_readNumber : MethodName := ⟨"HomeFreed$Reader", "readNumber", "(II)I"⟩
abbrev cR_readNumber : ByteArray := prog_8_method_9_code
theorem my_R_readNumber : MyM yR_readNumber cR_readNumber 4 (some .int) 2 := ⟨wd_3, wd_481, ⟨by decide, by decide, by decide +kernel⟩, by decide⟩
theorem mv_R_readNumber : MvM yR_readNumber := ⟨wd_479, wd_480⟩
def yR_rewind : MethodName := ⟨"HomeFreed$Reader", "rewind", "()V"⟩
abbrev cR_rewind : ByteArray := prog_8_method_2_code
theorem my_R_rewind : MyM yR_rewind cR_rewind 1 none 0 := ⟨wd_3, wd_366, ⟨by decide, by decide, by decide +kernel⟩, by decide⟩
theorem mv_R_rewind : MvM yR_rewind := ⟨wd_364, wd_365⟩
def yR_signHere : MethodName := ⟨"HomeFreed$Reader", "signHere", "()I"⟩
abbrev cR_signHere : ByteArray := prog_8_method_10_code
theorem my_R_signHere : MyM yR_signHere cR_signHere 1 (some .int) 0 := ⟨wd_3, wd_496, ⟨by decide, by decide, by decide +kernel⟩, by decide⟩
theorem mv_R_signHere : MvM yR_signHere := ⟨wd_495, wp_0⟩
def yS_copyFrom : MethodName := ⟨"HomeFreed$Script", "copyFrom", "(LHomeFreed$Script;)V"⟩
abbrev cS_copyFrom : ByteArray := prog_10_method_2_code
theorem my_S_copyFrom : MyM yS_copyFrom cS_copyFrom 2 none 1 := ⟨wd_5, wd_560, ⟨by decide, by decide, by decide +kernel⟩, by decide⟩
theorem mv_S_copyFrom : MvM yS_copyFrom := ⟨wd_558, wd_559⟩
def yS_isMixable : MethodName := ⟨"HomeFreed$Script", "isMixable", "()Z"⟩
abbrev cS_isMixable : ByteArray := prog_10_method_5_code
theorem my_S_isMixable : MyM yS_isMixable cS_isMixable 2 (some .boolean) 0 := ⟨wd_5, wd_989, ⟨by decide, by decide, by decide +kernel⟩, by decide⟩
theorem mv_S_isMixable : MvM yS_isMixable := ⟨wd_987, wd_988⟩
def yT_append : MethodName := ⟨"HomeFreed$Tape", "append", "(I)V"⟩
abbrev cT_append : ByteArray := prog_11_method_3_code
theorem my_T_append : MyM yT_append cT_append 4 none 1 := ⟨wd_2, wd_345, ⟨by decide, by decide, by decide +kernel⟩, by decide⟩
theorem mv_T_append : MvM yT_append := ⟨wd_343, wd_344⟩
def yT_signsIn : MethodName := ⟨"HomeFreed$Tape", "signsIn", "(I)I"⟩
abbrev cT_signsIn : ByteArray := prog_11_method_2_code
theorem my_T_signsIn : MyM yT_signsIn cT_signsIn 4 (some .int) 1 := ⟨wd_2, wd_341, ⟨by decide, by decide, by decide +kernel⟩, by decide⟩
theorem mv_T_signsIn : MvM yT_signsIn := ⟨wd_339, wd_340⟩
def yU_areTold : MethodName := ⟨"HomeFreed$Rules", "areTold", "()Z"⟩
abbrev cU_areTold : ByteArray := prog_9_method_2_code
theorem my_U_areTold : MyM yU_areTold cU_areTold 1 (some .boolean) 0 := ⟨wd_4, wd_569, ⟨by decide, by decide, by decide +kernel⟩, by decide⟩
theorem mv_U_areTold : MvM yU_areTold := ⟨wd_567, wd_568⟩
def yU_blocksOf : MethodName := ⟨"HomeFreed$Rules", "blocksOf", "(I)I"⟩
abbrev cU_blocksOf : ByteArray := prog_9_method_10_code
theorem my_U_blocksOf : MyM yU_blocksOf cU_blocksOf 2 (some .int) 1 := ⟨wd_4, wd_724, ⟨by decide, by decide, by decide +kernel⟩, by decide⟩
theorem mv_U_blocksOf : MvM yU_blocksOf := ⟨wd_722, wd_723⟩
def yU_copyFrom : MethodName := ⟨"HomeFreed$Rules", "copyFrom", "(LHomeFreed$Rules;)V"⟩
abbrev cU_copyFrom : ByteArray := prog_9_method_4_code
theorem my_U_copyFrom : MyM yU_copyFrom cU_copyFrom 2 none 1 := ⟨wd_4, wd_540, ⟨by decide, by decide, by decide +kernel⟩, by decide⟩
theorem mv_U_copyFrom : MvM yU_copyFrom := ⟨wd_538, wd_539⟩
def yU_isKind : MethodName := ⟨"HomeFreed$Rules", "isKind", "(I)Z"⟩
abbrev cU_isKind : ByteArray := prog_9_method_3_code
theorem my_U_isKind : MyM yU_isKind cU_isKind 2 (some .boolean) 1 := ⟨wd_4, wd_577, ⟨by decide, by decide, by decide +kernel⟩, by decide⟩
theorem mv_U_isKind : MvM yU_isKind := ⟨wd_575, wd_576⟩
def yU_kindFor : MethodName := ⟨"HomeFreed$Rules", "kindFor", "(I)I"⟩
abbrev cU_kindFor : ByteArray := prog_9_method_8_code
theorem my_U_kindFor : MyM yU_kindFor cU_kindFor 3 (some .int) 1 := ⟨wd_4, wd_664, ⟨by decide, by decide, by decide +kernel⟩, by decide⟩
theorem mv_U_kindFor : MvM yU_kindFor := ⟨wd_662, wd_663⟩
def yU_sizesFit : MethodName := ⟨"HomeFreed$Rules", "sizesFit", "()Z"⟩
abbrev cU_sizesFit : ByteArray := prog_9_method_7_code
theorem my_U_sizesFit : MyM yU_sizesFit cU_sizesFit 2 (some .boolean) 0 := ⟨wd_4, wd_509, ⟨by decide, by decide, by decide +kernel⟩, by decide⟩
theorem mv_U_sizesFit : MvM yU_sizesFit := ⟨wd_508, wp_1⟩
def yU_worst : MethodName := ⟨"HomeFreed$Rules", "worst", "()I"⟩
abbrev cU_worst : ByteArray := prog_9_method_9_code
theorem my_U_worst : MyM yU_worst cU_worst 7 (some .int) 0 := ⟨wd_4, wd_933, ⟨by decide, by decide, by decide +kernel⟩, by decide⟩
theorem mv_U_worst : MvM yU_worst := ⟨wd_931, wd_932⟩
def yX_begin : MethodName := ⟨"HomeFreed$Mixer", "begin", "(LHomeFreed$Heap;LHomeFreed$Script;LHomeFreed$Script;)V"⟩
abbrev cX_begin : ByteArray := prog_5_method_2_code
theorem my_X_begin : MyM yX_begin cX_begin 4 none 3 := ⟨wd_11, wd_993, ⟨by decide, by decide, by decide +kernel⟩, by decide⟩
theorem mv_X_begin : MvM yX_begin := ⟨wd_991, wd_992⟩
def yX_deepen : MethodName := ⟨"HomeFreed$Mixer", "deepen", "(I)I"⟩
abbrev cX_deepen : ByteArray := prog_5_method_4_code
theorem my_X_deepen : MyM yX_deepen cX_deepen 3 (some .int) 1 := ⟨wd_11, wd_1010, ⟨by decide, by decide, by decide +kernel⟩, by decide⟩
theorem mv_X_deepen : MvM yX_deepen := ⟨wd_1009, wp_24⟩
def yX_mix : MethodName := ⟨"HomeFreed$Mixer", "mix", "(III)V"⟩
abbrev cX_mix : ByteArray := prog_5_method_3_code
theorem my_X_mix : MyM yX_mix cX_mix 7 none 3 := ⟨wd_11, wd_999, ⟨by decide, by decide, by decide +kernel⟩, by decide⟩
theorem mv_X_mix : MvM yX_mix := ⟨wd_998, wp_22⟩
def yX_tally : MethodName := ⟨"HomeFreed$Mixer", "tally", "(LHomeFreed$Heap;I)V"⟩
abbrev cX_tally : ByteArray := prog_5_method_5_code
theorem my_X_tally : MyM yX_tally cX_tally 4 none 2 := ⟨wd_11, wd_1003, ⟨by decide, by decide, by decide +kernel⟩, by decide⟩
theorem mv_X_tally : MvM yX_tally := ⟨wd_1002, wp_23⟩
def yX_waysOf : MethodName := ⟨"HomeFreed$Mixer", "waysOf", "(II)I"⟩
abbrev cX_waysOf : ByteArray := prog_5_method_6_code
theorem my_X_waysOf : MyM yX_waysOf cX_waysOf 4 (some .int) 2 := ⟨wd_11, wd_1020, ⟨by decide, by decide, by decide +kernel⟩, by decide⟩
theorem mv_X_waysOf : Cond.static yX_waysOf ∈ lw_tbl := wd_1019
def yY_fill : MethodName := ⟨"java/util/Arrays", "fill", "([II)V"⟩
abbrev cY_fill : ByteArray := prog_28_method_103_code
theorem my_Y_fill : MyM yY_fill cY_fill 4 none 2 := ⟨wd_8, wd_132, ⟨by decide, by decide, by decide +kernel⟩, by decide⟩
theorem mv_Y_fill : Cond.static yY_fill ∈ lw_tbl := wd_131
theorem fl_A_12 : FlM "HomeFreed" 12 10 0 15 true := ⟨_, rfl, rfl, by decide, rfl, wd_288⟩
theorem fl_A_126 : FlM "HomeFreed" 126 7 2 3 false := ⟨_, rfl, rfl, by decide, rfl, wd_81⟩
theorem fl_A_136 : FlM "HomeFreed" 136 7 0 3 true := ⟨_, rfl, rfl, by decide, rfl, wd_76⟩
theorem fl_A_143 : FlM "HomeFreed" 143 7 1 3 true := ⟨_, rfl, rfl, by decide, rfl, wd_78⟩
theorem fl_A_159 : FlM "HomeFreed" 159 1 2 9 true := ⟨_, rfl, rfl, by decide, rfl, wd_171⟩
theorem fl_A_172 : FlM "HomeFreed" 172 1 5 9 true := ⟨_, rfl, rfl, by decide, rfl, wd_176⟩
theorem fl_A_196 : FlM "HomeFreed" 196 1 7 9 true := ⟨_, rfl, rfl, by decide, rfl, wd_179⟩
theorem fl_A_202 : FlM "HomeFreed" 202 1 4 9 true := ⟨_, rfl, rfl, by decide, rfl, wd_174⟩
theorem fl_A_28 : FlM "HomeFreed" 28 10 2 15 true := ⟨_, rfl, rfl, by decide, rfl, wd_290⟩
theorem fl_A_280 : FlM "HomeFreed" 280 1 8 9 true := ⟨_, rfl, rfl, by decide, rfl, wd_181⟩
theorem fl_A_297 : FlM "HomeFreed" 297 8 3 4 false := ⟨_, rfl, rfl, by decide, rfl, wd_108⟩
theorem fl_A_301 : FlM "HomeFreed" 301 8 0 4 true := ⟨_, rfl, rfl, by decide, rfl, wd_98⟩
theorem fl_A_304 : FlM "HomeFreed" 304 8 1 4 true := ⟨_, rfl, rfl, by decide, rfl, wd_101⟩
theorem fl_A_307 : FlM "HomeFreed" 307 8 2 4 true := ⟨_, rfl, rfl, by decide, rfl, wd_104⟩
theorem fl_A_323 : FlM "HomeFreed" 323 0 3 4 true := ⟨_, rfl, rfl, by decide, rfl, wd_142⟩
theorem fl_A_332 : FlM "HomeFreed" 332 0 1 4 true := ⟨_, rfl, rfl, by decide, rfl, wd_137⟩
theorem fl_A_357 : FlM "HomeFreed" 357 3 5 9 false := ⟨_, rfl, rfl, by decide, rfl, wd_260⟩
theorem fl_A_360 : FlM "HomeFreed" 360 3 6 9 false := ⟨_, rfl, rfl, by decide, rfl, wd_262⟩
theorem fl_A_363 : FlM "HomeFreed" 363 3 7 9 false := ⟨_, rfl, rfl, by decide, rfl, wd_264⟩
theorem fl_A_366 : FlM "HomeFreed" 366 3 8 9 false := ⟨_, rfl, rfl, by decide, rfl, wd_266⟩
theorem fl_A_37 : FlM "HomeFreed" 37 10 4 15 true := ⟨_, rfl, rfl, by decide, rfl, wd_292⟩
theorem fl_A_393 : FlM "HomeFreed" 393 4 2 3 false := ⟨_, rfl, rfl, by decide, rfl, wd_213⟩
theorem fl_A_42 : FlM "HomeFreed" 42 10 5 15 false := ⟨_, rfl, rfl, by decide, rfl, wd_293⟩
theorem fl_A_55 : FlM "HomeFreed" 55 10 7 15 true := ⟨_, rfl, rfl, by decide, rfl, wd_295⟩
theorem fl_A_62 : FlM "HomeFreed" 62 10 8 15 true := ⟨_, rfl, rfl, by decide, rfl, wd_296⟩
theorem fl_A_66 : FlM "HomeFreed" 66 10 9 15 true := ⟨_, rfl, rfl, by decide, rfl, wd_297⟩
theorem fl_A_69 : FlM "HomeFreed" 69 10 10 15 false := ⟨_, rfl, rfl, by decide, rfl, wd_298⟩
theorem fl_A_73 : FlM "HomeFreed" 73 10 11 15 true := ⟨_, rfl, rfl, by decide, rfl, wd_299⟩
theorem fl_A_80 : FlM "HomeFreed" 80 10 12 15 true := ⟨_, rfl, rfl, by decide, rfl, wd_300⟩
theorem fl_A_84 : FlM "HomeFreed" 84 10 13 15 true := ⟨_, rfl, rfl, by decide, rfl, wd_301⟩
theorem fl_A_90 : FlM "HomeFreed" 90 10 14 15 true := ⟨_, rfl, rfl, by decide, rfl, wd_302⟩
theorem fl_A_98 : FlM "HomeFreed" 98 9 1 2 false := ⟨_, rfl, rfl, by decide, rfl, wd_42⟩
theorem fl_C_15 : FlM "HomeFreed$Chains" 15 0 1 4 true := ⟨_, rfl, rfl, by decide, rfl, wd_135⟩
theorem fl_C_18 : FlM "HomeFreed$Chains" 18 0 2 4 true := ⟨_, rfl, rfl, by decide, rfl, wd_138⟩
theorem fl_C_21 : FlM "HomeFreed$Chains" 21 0 3 4 true := ⟨_, rfl, rfl, by decide, rfl, wd_140⟩
theorem fl_C_9 : FlM "HomeFreed$Chains" 9 0 0 4 true := ⟨_, rfl, rfl, by decide, rfl, wd_133⟩
theorem fl_G_15 : FlM "HomeFreed$Progress" 15 5 1 5 true := ⟨_, rfl, rfl, by decide, rfl, wd_237⟩
theorem fl_G_18 : FlM "HomeFreed$Progress" 18 5 2 5 true := ⟨_, rfl, rfl, by decide, rfl, wd_238⟩
theorem fl_G_21 : FlM "HomeFreed$Progress" 21 5 3 5 false := ⟨_, rfl, rfl, by decide, rfl, wd_239⟩
theorem fl_G_25 : FlM "HomeFreed$Progress" 25 5 4 5 false := ⟨_, rfl, rfl, by decide, rfl, wd_240⟩
theorem fl_G_37 : FlM "HomeFreed$Progress" 37 8 3 4 false := ⟨_, rfl, rfl, by decide, rfl, wd_107⟩
theorem fl_G_50 : FlM "HomeFreed$Progress" 50 8 1 4 true := ⟨_, rfl, rfl, by decide, rfl, wd_100⟩
theorem fl_G_51 : FlM "HomeFreed$Progress" 51 8 0 4 true := ⟨_, rfl, rfl, by decide, rfl, wd_97⟩
theorem fl_G_64 : FlM "HomeFreed$Progress" 64 8 2 4 true := ⟨_, rfl, rfl, by decide, rfl, wd_103⟩
theorem fl_G_9 : FlM "HomeFreed$Progress" 9 5 0 5 true := ⟨_, rfl, rfl, by decide, rfl, wd_236⟩
theorem fl_H_117 : FlM "HomeFreed$Heap" 117 7 1 3 true := ⟨_, rfl, rfl, by decide, rfl, wd_79⟩
theorem fl_H_132 : FlM "HomeFreed$Heap" 132 0 0 4 true := ⟨_, rfl, rfl, by decide, rfl, wd_134⟩
theorem fl_H_135 : FlM "HomeFreed$Heap" 135 0 2 4 true := ⟨_, rfl, rfl, by decide, rfl, wd_139⟩
theorem fl_H_15 : FlM "HomeFreed$Heap" 15 1 2 9 true := ⟨_, rfl, rfl, by decide, rfl, wd_170⟩
theorem fl_H_18 : FlM "HomeFreed$Heap" 18 1 3 9 true := ⟨_, rfl, rfl, by decide, rfl, wd_172⟩
theorem fl_H_26 : FlM "HomeFreed$Heap" 26 1 4 9 true := ⟨_, rfl, rfl, by decide, rfl, wd_173⟩
theorem fl_H_30 : FlM "HomeFreed$Heap" 30 1 5 9 true := ⟨_, rfl, rfl, by decide, rfl, wd_175⟩
theorem fl_H_33 : FlM "HomeFreed$Heap" 33 1 6 9 true := ⟨_, rfl, rfl, by decide, rfl, wd_177⟩
theorem fl_H_36 : FlM "HomeFreed$Heap" 36 1 7 9 true := ⟨_, rfl, rfl, by decide, rfl, wd_178⟩
theorem fl_H_42 : FlM "HomeFreed$Heap" 42 1 8 9 true := ⟨_, rfl, rfl, by decide, rfl, wd_180⟩
theorem fl_H_46 : FlM "HomeFreed$Heap" 46 1 0 9 true := ⟨_, rfl, rfl, by decide, rfl, wd_167⟩
theorem fl_H_59 : FlM "HomeFreed$Heap" 59 2 1 2 false := ⟨_, rfl, rfl, by decide, rfl, wd_160⟩
theorem fl_H_76 : FlM "HomeFreed$Heap" 76 7 0 3 true := ⟨_, rfl, rfl, by decide, rfl, wd_75⟩
theorem fl_H_88 : FlM "HomeFreed$Heap" 88 0 3 4 true := ⟨_, rfl, rfl, by decide, rfl, wd_141⟩
theorem fl_H_9 : FlM "HomeFreed$Heap" 9 1 1 9 true := ⟨_, rfl, rfl, by decide, rfl, wd_168⟩
theorem fl_H_95 : FlM "HomeFreed$Heap" 95 0 1 4 true := ⟨_, rfl, rfl, by decide, rfl, wd_136⟩
theorem fl_L_15 : FlM "HomeFreed$Log" 15 2 1 2 false := ⟨_, rfl, rfl, by decide, rfl, wd_159⟩
theorem fl_L_9 : FlM "HomeFreed$Log" 9 2 0 2 true := ⟨_, rfl, rfl, by decide, rfl, wd_158⟩
theorem fl_M_116 : FlM "HomeFreedModel" 116 11 7 34 false := ⟨_, rfl, rfl, by decide, rfl, wd_1177⟩
theorem fl_M_13 : FlM "HomeFreedModel" 13 11 5 34 true := ⟨_, rfl, rfl, by decide, rfl, wd_1175⟩
theorem fl_M_131 : FlM "HomeFreedModel" 131 11 14 34 false := ⟨_, rfl, rfl, by decide, rfl, wd_1184⟩
theorem fl_M_144 : FlM "HomeFreedModel" 144 11 10 34 false := ⟨_, rfl, rfl, by decide, rfl, wd_1180⟩
theorem fl_M_147 : FlM "HomeFreedModel" 147 11 25 34 false := ⟨_, rfl, rfl, by decide, rfl, wd_1195⟩
theorem fl_M_150 : FlM "HomeFreedModel" 150 11 33 34 false := ⟨_, rfl, rfl, by decide, rfl, wd_1203⟩
theorem fl_M_157 : FlM "HomeFreedModel" 157 11 13 34 false := ⟨_, rfl, rfl, by decide, rfl, wd_1183⟩
theorem fl_M_16 : FlM "HomeFreedModel" 16 11 6 34 true := ⟨_, rfl, rfl, by decide, rfl, wd_1176⟩
theorem fl_M_19 : FlM "HomeFreedModel" 19 11 8 34 true := ⟨_, rfl, rfl, by decide, rfl, wd_1178⟩
theorem fl_M_217 : FlM "HomeFreedModel" 217 11 17 34 false := ⟨_, rfl, rfl, by decide, rfl, wd_1187⟩
theorem fl_M_22 : FlM "HomeFreedModel" 22 11 9 34 true := ⟨_, rfl, rfl, by decide, rfl, wd_1179⟩
theorem fl_M_25 : FlM "HomeFreedModel" 25 11 11 34 true := ⟨_, rfl, rfl, by decide, rfl, wd_1181⟩
theorem fl_M_266 : FlM "HomeFreedModel" 266 11 23 34 false := ⟨_, rfl, rfl, by decide, rfl, wd_1193⟩
theorem fl_M_28 : FlM "HomeFreedModel" 28 11 12 34 true := ⟨_, rfl, rfl, by decide, rfl, wd_1182⟩
theorem fl_M_31 : FlM "HomeFreedModel" 31 11 15 34 true := ⟨_, rfl, rfl, by decide, rfl, wd_1185⟩
theorem fl_M_327 : FlM "HomeFreedModel" 327 11 26 34 false := ⟨_, rfl, rfl, by decide, rfl, wd_1196⟩
theorem fl_M_34 : FlM "HomeFreedModel" 34 11 16 34 true := ⟨_, rfl, rfl, by decide, rfl, wd_1186⟩
theorem fl_M_363 : FlM "HomeFreedModel" 363 11 30 34 false := ⟨_, rfl, rfl, by decide, rfl, wd_1200⟩
theorem fl_M_37 : FlM "HomeFreedModel" 37 11 18 34 true := ⟨_, rfl, rfl, by decide, rfl, wd_1188⟩
theorem fl_M_371 : FlM "HomeFreedModel" 371 11 31 34 false := ⟨_, rfl, rfl, by decide, rfl, wd_1201⟩
theorem fl_M_377 : FlM "HomeFreedModel" 377 11 29 34 false := ⟨_, rfl, rfl, by decide, rfl, wd_1199⟩
theorem fl_M_390 : FlM "HomeFreedModel" 390 11 28 34 false := ⟨_, rfl, rfl, by decide, rfl, wd_1198⟩
theorem fl_M_40 : FlM "HomeFreedModel" 40 11 19 34 true := ⟨_, rfl, rfl, by decide, rfl, wd_1189⟩
theorem fl_M_43 : FlM "HomeFreedModel" 43 11 20 34 true := ⟨_, rfl, rfl, by decide, rfl, wd_1190⟩
theorem fl_M_46 : FlM "HomeFreedModel" 46 11 21 34 true := ⟨_, rfl, rfl, by decide, rfl, wd_1191⟩
theorem fl_M_50 : FlM "HomeFreedModel" 50 11 22 34 true := ⟨_, rfl, rfl, by decide, rfl, wd_1192⟩
theorem fl_M_54 : FlM "HomeFreedModel" 54 11 24 34 true := ⟨_, rfl, rfl, by decide, rfl, wd_1194⟩
theorem fl_M_58 : FlM "HomeFreedModel" 58 11 27 34 true := ⟨_, rfl, rfl, by decide, rfl, wd_1197⟩
theorem fl_M_61 : FlM "HomeFreedModel" 61 11 32 34 true := ⟨_, rfl, rfl, by decide, rfl, wd_1202⟩
theorem fl_M_64 : FlM "HomeFreedModel" 64 11 0 34 false := ⟨_, rfl, rfl, by decide, rfl, wd_1170⟩
theorem fl_M_72 : FlM "HomeFreedModel" 72 11 2 34 false := ⟨_, rfl, rfl, by decide, rfl, wd_1172⟩
theorem fl_M_79 : FlM "HomeFreedModel" 79 11 3 34 false := ⟨_, rfl, rfl, by decide, rfl, wd_1173⟩
theorem fl_M_86 : FlM "HomeFreedModel" 86 11 4 34 false := ⟨_, rfl, rfl, by decide, rfl, wd_1174⟩
theorem fl_M_9 : FlM "HomeFreedModel" 9 11 1 34 true := ⟨_, rfl, rfl, by decide, rfl, wd_1171⟩
theorem fl_P_11 : FlM "HomeFreed$Past" 11 4 0 3 true := ⟨_, rfl, rfl, by decide, rfl, wd_210⟩
theorem fl_P_20 : FlM "HomeFreed$Past" 20 4 1 3 false := ⟨_, rfl, rfl, by decide, rfl, wd_211⟩
theorem fl_P_24 : FlM "HomeFreed$Past" 24 4 2 3 false := ⟨_, rfl, rfl, by decide, rfl, wd_212⟩
theorem fl_R_15 : FlM "HomeFreed$Reader" 15 6 1 3 false := ⟨_, rfl, rfl, by decide, rfl, wd_57⟩
theorem fl_R_19 : FlM "HomeFreed$Reader" 19 6 2 3 false := ⟨_, rfl, rfl, by decide, rfl, wd_58⟩
theorem fl_R_22 : FlM "HomeFreed$Reader" 22 9 1 2 false := ⟨_, rfl, rfl, by decide, rfl, wd_43⟩
theorem fl_R_27 : FlM "HomeFreed$Reader" 27 9 0 2 true := ⟨_, rfl, rfl, by decide, rfl, wd_40⟩
theorem fl_R_9 : FlM "HomeFreed$Reader" 9 6 0 3 true := ⟨_, rfl, rfl, by decide, rfl, wd_56⟩
theorem fl_S_15 : FlM "HomeFreed$Script" 15 8 1 4 true := ⟨_, rfl, rfl, by decide, rfl, wd_99⟩
theorem fl_S_18 : FlM "HomeFreed$Script" 18 8 2 4 true := ⟨_, rfl, rfl, by decide, rfl, wd_102⟩
theorem fl_S_21 : FlM "HomeFreed$Script" 21 8 3 4 false := ⟨_, rfl, rfl, by decide, rfl, wd_105⟩
theorem fl_S_9 : FlM "HomeFreed$Script" 9 8 0 4 true := ⟨_, rfl, rfl, by decide, rfl, wd_96⟩
theorem fl_T_15 : FlM "HomeFreed$Tape" 15 9 1 2 false := ⟨_, rfl, rfl, by decide, rfl, wd_41⟩
theorem fl_T_9 : FlM "HomeFreed$Tape" 9 9 0 2 true := ⟨_, rfl, rfl, by decide, rfl, wd_39⟩
theorem fl_U_15 : FlM "HomeFreed$Rules" 15 7 1 3 true := ⟨_, rfl, rfl, by decide, rfl, wd_77⟩
theorem fl_U_18 : FlM "HomeFreed$Rules" 18 7 2 3 false := ⟨_, rfl, rfl, by decide, rfl, wd_80⟩
theorem fl_U_9 : FlM "HomeFreed$Rules" 9 7 0 3 true := ⟨_, rfl, rfl, by decide, rfl, wd_74⟩
theorem fl_X_11 : FlM "HomeFreed$Mixer" 11 3 0 9 true := ⟨_, rfl, rfl, by decide, rfl, wd_254⟩
theorem fl_X_19 : FlM "HomeFreed$Mixer" 19 3 1 9 true := ⟨_, rfl, rfl, by decide, rfl, wd_255⟩
theorem fl_X_23 : FlM "HomeFreed$Mixer" 23 3 2 9 true := ⟨_, rfl, rfl, by decide, rfl, wd_256⟩
theorem fl_X_33 : FlM "HomeFreed$Mixer" 33 3 3 9 false := ⟨_, rfl, rfl, by decide, rfl, wd_257⟩
theorem fl_X_37 : FlM "HomeFreed$Mixer" 37 3 4 9 false := ⟨_, rfl, rfl, by decide, rfl, wd_258⟩
theorem fl_X_47 : FlM "HomeFreed$Mixer" 47 3 5 9 false := ⟨_, rfl, rfl, by decide, rfl, wd_259⟩
theorem fl_X_51 : FlM "HomeFreed$Mixer" 51 3 6 9 false := ⟨_, rfl, rfl, by decide, rfl, wd_261⟩
theorem fl_X_54 : FlM "HomeFreed$Mixer" 54 3 7 9 false := ⟨_, rfl, rfl, by decide, rfl, wd_263⟩
theorem fl_X_57 : FlM "HomeFreed$Mixer" 57 3 8 9 false := ⟨_, rfl, rfl, by decide, rfl, wd_265⟩
theorem fl_X_60 : FlM "HomeFreed$Mixer" 60 8 3 4 false := ⟨_, rfl, rfl, by decide, rfl, wd_106⟩
