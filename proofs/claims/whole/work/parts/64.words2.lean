/-! words of the tables, for constructors and the law (written by gen_words2.py) -/
theorem nk_0 : Cond.initialized RL ∈ zall := zall_mem (List.mem_append_right _ (List.mem_of_getElem? (i := 0) (by decide +kernel))) rfl
theorem nk_1 : Cond.initialized RX11 ∈ zall := zall_mem (List.mem_append_right _ (List.mem_of_getElem? (i := 1) (by decide +kernel))) rfl
theorem nk_2 : Cond.initialized RX3 ∈ zall := zall_mem (List.mem_append_right _ (List.mem_of_getElem? (i := 2) (by decide +kernel))) rfl
theorem nk_3 : Cond.initialized RX9 ∈ zall := zall_mem (List.mem_append_right _ (List.mem_of_getElem? (i := 3) (by decide +kernel))) rfl
theorem nk_4 : Cond.initialized RJ9 ∈ zall := zall_mem (List.mem_append_right _ (List.mem_of_getElem? (i := 4) (by decide +kernel))) rfl
theorem nk_5 : Cond.initialized RX1 ∈ zall := zall_mem (List.mem_append_right _ (List.mem_of_getElem? (i := 5) (by decide +kernel))) rfl
theorem nk_6 : Cond.initialized RX7 ∈ zall := zall_mem (List.mem_append_right _ (List.mem_of_getElem? (i := 6) (by decide +kernel))) rfl
theorem nk_7 : Cond.initialized RX5 ∈ zall := zall_mem (List.mem_append_right _ (List.mem_of_getElem? (i := 7) (by decide +kernel))) rfl
theorem nk_8 : Cond.initialized RX0 ∈ zall := zall_mem (List.mem_append_right _ (List.mem_of_getElem? (i := 8) (by decide +kernel))) rfl
theorem nk_9 : Cond.initialized RX4 ∈ zall := zall_mem (List.mem_append_right _ (List.mem_of_getElem? (i := 9) (by decide +kernel))) rfl
theorem nk_10 : Cond.initialized RX12 ∈ zall := zall_mem (List.mem_append_right _ (List.mem_of_getElem? (i := 10) (by decide +kernel))) rfl
theorem nk_11 : Cond.initialized RJ0 ∈ zall := zall_mem (List.mem_append_right _ (List.mem_of_getElem? (i := 11) (by decide +kernel))) rfl
theorem nk_12 : Cond.initialized RJ1 ∈ zall := zall_mem (List.mem_append_right _ (List.mem_of_getElem? (i := 12) (by decide +kernel))) rfl
theorem nk_13 : Cond.initialized RJ3 ∈ zall := zall_mem (List.mem_append_right _ (List.mem_of_getElem? (i := 13) (by decide +kernel))) rfl
theorem nk_14 : Cond.initialized RJ2 ∈ zall := zall_mem (List.mem_append_right _ (List.mem_of_getElem? (i := 14) (by decide +kernel))) rfl
theorem nk_15 : Cond.initialized RX8 ∈ zall := zall_mem (List.mem_append_right _ (List.mem_of_getElem? (i := 15) (by decide +kernel))) rfl
theorem nk_16 : Cond.initialized RX6 ∈ zall := zall_mem (List.mem_append_right _ (List.mem_of_getElem? (i := 16) (by decide +kernel))) rfl
theorem nk_17 : Cond.initialized RX10 ∈ zall := zall_mem (List.mem_append_right _ (List.mem_of_getElem? (i := 17) (by decide +kernel))) rfl
theorem nk_18 : Cond.initialized RX2 ∈ zall := zall_mem (List.mem_append_right _ (List.mem_of_getElem? (i := 18) (by decide +kernel))) rfl
theorem nk_19 : Cond.initialized RJ6 ∈ zall := zall_mem (List.mem_append_right _ (List.mem_of_getElem? (i := 19) (by decide +kernel))) rfl
theorem nk_20 : Cond.classLink RL 7 RX11 ∈ zall := zall_mem (List.mem_append_right _ (List.mem_of_getElem? (i := 20) (by decide +kernel))) rfl
theorem nk_21 : Cond.instantiable RX11 12 ∈ zall := zall_mem (List.mem_append_right _ (List.mem_of_getElem? (i := 21) (by decide +kernel))) rfl
theorem nk_22 : Cond.methodLink RL 9 yX11_init ∈ zall := zall_mem (List.mem_append_right _ (List.mem_of_getElem? (i := 22) (by decide +kernel))) rfl
theorem nk_23 : Cond.instanceMethod yX11_init ∈ zall := zall_mem (List.mem_append_right _ (List.mem_of_getElem? (i := 23) (by decide +kernel))) rfl
theorem nk_24 : Cond.code yX11_init cX11_init 1 none ∈ zall := zall_mem (List.mem_append_right _ (List.mem_of_getElem? (i := 24) (by decide +kernel))) rfl
theorem nk_25 : Cond.methodLink RX11 1 Lib.objectInit ∈ zall := zall_mem (List.mem_append_right _ (List.mem_of_getElem? (i := 25) (by decide +kernel))) rfl
theorem nk_26 : Cond.instanceMethod Lib.objectInit ∈ zall := zall_mem (List.mem_append_right _ (List.mem_of_getElem? (i := 26) (by decide +kernel))) rfl
theorem nk_27 : Cond.code Lib.objectInit ⟨#[0xb1]⟩ 1 none ∈ zall := zall_mem (List.mem_append_right _ (List.mem_of_getElem? (i := 27) (by decide +kernel))) rfl
theorem nk_28 : Cond.classLink RX11 7 RX3 ∈ zall := zall_mem (List.mem_append_right _ (List.mem_of_getElem? (i := 28) (by decide +kernel))) rfl
theorem nk_29 : Cond.instantiable RX3 10 ∈ zall := zall_mem (List.mem_append_right _ (List.mem_of_getElem? (i := 29) (by decide +kernel))) rfl
theorem nk_30 : Cond.methodLink RX11 9 yX3_init ∈ zall := zall_mem (List.mem_append_right _ (List.mem_of_getElem? (i := 30) (by decide +kernel))) rfl
theorem nk_31 : Cond.instanceMethod yX3_init ∈ zall := zall_mem (List.mem_append_right _ (List.mem_of_getElem? (i := 31) (by decide +kernel))) rfl
theorem nk_32 : Cond.code yX3_init cX3_init 1 none ∈ zall := zall_mem (List.mem_append_right _ (List.mem_of_getElem? (i := 32) (by decide +kernel))) rfl
theorem nk_33 : Cond.methodLink RX3 3 Lib.objectInit ∈ zall := zall_mem (List.mem_append_right _ (List.mem_of_getElem? (i := 33) (by decide +kernel))) rfl
theorem nk_34 : Cond.classLink RX3 24 RX9 ∈ zall := zall_mem (List.mem_append_right _ (List.mem_of_getElem? (i := 34) (by decide +kernel))) rfl
theorem nk_35 : Cond.instantiable RX9 4 ∈ zall := zall_mem (List.mem_append_right _ (List.mem_of_getElem? (i := 35) (by decide +kernel))) rfl
theorem nk_36 : Cond.methodLink RX3 26 yX9_init ∈ zall := zall_mem (List.mem_append_right _ (List.mem_of_getElem? (i := 36) (by decide +kernel))) rfl
theorem nk_37 : Cond.instanceMethod yX9_init ∈ zall := zall_mem (List.mem_append_right _ (List.mem_of_getElem? (i := 37) (by decide +kernel))) rfl
theorem nk_38 : Cond.code yX9_init cX9_init 3 none ∈ zall := zall_mem (List.mem_append_right _ (List.mem_of_getElem? (i := 38) (by decide +kernel))) rfl
theorem nk_39 : Cond.methodLink RX9 3 Lib.objectInit ∈ zall := zall_mem (List.mem_append_right _ (List.mem_of_getElem? (i := 39) (by decide +kernel))) rfl
theorem nk_43 : Cond.fieldLink RX9 27 RX9 "cells" "[I" ∈ zall := zall_mem (List.mem_append_right _ (List.mem_of_getElem? (i := 43) (by decide +kernel))) rfl
theorem nk_44 : Cond.fieldLink RX9 21 RX9 "room" "I" ∈ zall := zall_mem (List.mem_append_right _ (List.mem_of_getElem? (i := 44) (by decide +kernel))) rfl
theorem nk_45 : Cond.fieldLink RX9 24 RX9 "width" "I" ∈ zall := zall_mem (List.mem_append_right _ (List.mem_of_getElem? (i := 45) (by decide +kernel))) rfl
theorem nk_46 : Cond.fieldLink RX9 9 RX9 "size" "I" ∈ zall := zall_mem (List.mem_append_right _ (List.mem_of_getElem? (i := 46) (by decide +kernel))) rfl
theorem nk_56 : Cond.arrayClass FieldType.int ∈ zall := zall_mem (List.mem_append_right _ (List.mem_of_getElem? (i := 56) (by decide +kernel))) rfl
theorem nk_57 : Cond.methodLink RX3 48 yX9_reset ∈ zall := zall_mem (List.mem_append_right _ (List.mem_of_getElem? (i := 57) (by decide +kernel))) rfl
theorem nk_58 : Cond.instanceMethod yX9_reset ∈ zall := zall_mem (List.mem_append_right _ (List.mem_of_getElem? (i := 58) (by decide +kernel))) rfl
theorem nk_59 : Cond.selects RX9 yX9_reset yX9_reset ∈ zall := zall_mem (List.mem_append_right _ (List.mem_of_getElem? (i := 59) (by decide +kernel))) rfl
theorem nk_60 : Cond.code yX9_reset cX9_reset 4 none ∈ zall := zall_mem (List.mem_append_right _ (List.mem_of_getElem? (i := 60) (by decide +kernel))) rfl
theorem nk_64 : Cond.fieldLink RX3 9 RX3 "forMany" "I" ∈ zall := zall_mem (List.mem_append_right _ (List.mem_of_getElem? (i := 64) (by decide +kernel))) rfl
theorem nk_70 : Cond.fieldLink RX3 15 RX3 "guests" "I" ∈ zall := zall_mem (List.mem_append_right _ (List.mem_of_getElem? (i := 70) (by decide +kernel))) rfl
theorem nk_75 : Cond.fieldLink RX3 18 RX3 "volume" "I" ∈ zall := zall_mem (List.mem_append_right _ (List.mem_of_getElem? (i := 75) (by decide +kernel))) rfl
theorem nk_77 : Cond.fieldLink RX3 21 RX3 "minutes" "I" ∈ zall := zall_mem (List.mem_append_right _ (List.mem_of_getElem? (i := 77) (by decide +kernel))) rfl
theorem nk_80 : Cond.fieldLink RX3 29 RX3 "parts" "LTwoThirdsOfAnEgg$Table;" ∈ zall := zall_mem (List.mem_append_right _ (List.mem_of_getElem? (i := 80) (by decide +kernel))) rfl
theorem nk_86 : Cond.fieldLink RX3 33 RX3 "tins" "LTwoThirdsOfAnEgg$Table;" ∈ zall := zall_mem (List.mem_append_right _ (List.mem_of_getElem? (i := 86) (by decide +kernel))) rfl
theorem nk_90 : Cond.fieldLink RX3 36 RX3 "standIns" "LTwoThirdsOfAnEgg$Table;" ∈ zall := zall_mem (List.mem_append_right _ (List.mem_of_getElem? (i := 90) (by decide +kernel))) rfl
theorem nk_94 : Cond.fieldLink RX3 39 RX3 "cups" "LTwoThirdsOfAnEgg$Table;" ∈ zall := zall_mem (List.mem_append_right _ (List.mem_of_getElem? (i := 94) (by decide +kernel))) rfl
theorem nk_97 : Cond.fieldLink RX3 42 RX3 "weights" "LTwoThirdsOfAnEgg$Table;" ∈ zall := zall_mem (List.mem_append_right _ (List.mem_of_getElem? (i := 97) (by decide +kernel))) rfl
theorem nk_99 : Cond.fieldLink RX3 45 RX3 "dishes" "LTwoThirdsOfAnEgg$Table;" ∈ zall := zall_mem (List.mem_append_right _ (List.mem_of_getElem? (i := 99) (by decide +kernel))) rfl
theorem nk_123 : Cond.classLink RX11 26 RX1 ∈ zall := zall_mem (List.mem_append_right _ (List.mem_of_getElem? (i := 123) (by decide +kernel))) rfl
theorem nk_124 : Cond.instantiable RX1 3 ∈ zall := zall_mem (List.mem_append_right _ (List.mem_of_getElem? (i := 124) (by decide +kernel))) rfl
theorem nk_126 : Cond.instanceMethod yX1_init ∈ zall := zall_mem (List.mem_append_right _ (List.mem_of_getElem? (i := 126) (by decide +kernel))) rfl
theorem nk_127 : Cond.code yX1_init cX1_init 1 none ∈ zall := zall_mem (List.mem_append_right _ (List.mem_of_getElem? (i := 127) (by decide +kernel))) rfl
theorem nk_128 : Cond.methodLink RX1 3 Lib.objectInit ∈ zall := zall_mem (List.mem_append_right _ (List.mem_of_getElem? (i := 128) (by decide +kernel))) rfl
theorem nk_129 : Cond.classLink RX1 9 RX9 ∈ zall := zall_mem (List.mem_append_right _ (List.mem_of_getElem? (i := 129) (by decide +kernel))) rfl
theorem nk_130 : Cond.methodLink RX1 11 yX9_init ∈ zall := zall_mem (List.mem_append_right _ (List.mem_of_getElem? (i := 130) (by decide +kernel))) rfl
theorem nk_131 : Cond.fieldLink RX1 14 RX1 "letters" "LTwoThirdsOfAnEgg$Table;" ∈ zall := zall_mem (List.mem_append_right _ (List.mem_of_getElem? (i := 131) (by decide +kernel))) rfl
theorem nk_132 : Cond.fieldLink RX1 20 RX1 "told" "LTwoThirdsOfAnEgg$Table;" ∈ zall := zall_mem (List.mem_append_right _ (List.mem_of_getElem? (i := 132) (by decide +kernel))) rfl
theorem nk_133 : Cond.fieldLink RX1 23 RX1 "place" "I" ∈ zall := zall_mem (List.mem_append_right _ (List.mem_of_getElem? (i := 133) (by decide +kernel))) rfl
theorem nk_141 : Cond.classLink RX11 33 RX9 ∈ zall := zall_mem (List.mem_append_right _ (List.mem_of_getElem? (i := 141) (by decide +kernel))) rfl
theorem nk_142 : Cond.methodLink RX11 35 yX9_init ∈ zall := zall_mem (List.mem_append_right _ (List.mem_of_getElem? (i := 142) (by decide +kernel))) rfl
theorem nk_143 : Cond.classLink RX11 48 RX7 ∈ zall := zall_mem (List.mem_append_right _ (List.mem_of_getElem? (i := 143) (by decide +kernel))) rfl
theorem nk_144 : Cond.instantiable RX7 1 ∈ zall := zall_mem (List.mem_append_right _ (List.mem_of_getElem? (i := 144) (by decide +kernel))) rfl
theorem nk_146 : Cond.instanceMethod yX7_init ∈ zall := zall_mem (List.mem_append_right _ (List.mem_of_getElem? (i := 146) (by decide +kernel))) rfl
theorem nk_147 : Cond.code yX7_init cX7_init 1 none ∈ zall := zall_mem (List.mem_append_right _ (List.mem_of_getElem? (i := 147) (by decide +kernel))) rfl
theorem nk_148 : Cond.methodLink RX7 3 Lib.objectInit ∈ zall := zall_mem (List.mem_append_right _ (List.mem_of_getElem? (i := 148) (by decide +kernel))) rfl
theorem nk_149 : Cond.classLink RX7 9 RX9 ∈ zall := zall_mem (List.mem_append_right _ (List.mem_of_getElem? (i := 149) (by decide +kernel))) rfl
theorem nk_150 : Cond.methodLink RX7 11 yX9_init ∈ zall := zall_mem (List.mem_append_right _ (List.mem_of_getElem? (i := 150) (by decide +kernel))) rfl
theorem nk_151 : Cond.fieldLink RX7 14 RX7 "leastLoss" "LTwoThirdsOfAnEgg$Table;" ∈ zall := zall_mem (List.mem_append_right _ (List.mem_of_getElem? (i := 151) (by decide +kernel))) rfl
theorem nk_155 : Cond.classLink RX11 55 RX5 ∈ zall := zall_mem (List.mem_append_right _ (List.mem_of_getElem? (i := 155) (by decide +kernel))) rfl
theorem nk_156 : Cond.instantiable RX5 2 ∈ zall := zall_mem (List.mem_append_right _ (List.mem_of_getElem? (i := 156) (by decide +kernel))) rfl
theorem nk_158 : Cond.instanceMethod yX5_init ∈ zall := zall_mem (List.mem_append_right _ (List.mem_of_getElem? (i := 158) (by decide +kernel))) rfl
theorem nk_159 : Cond.code yX5_init cX5_init 1 none ∈ zall := zall_mem (List.mem_append_right _ (List.mem_of_getElem? (i := 159) (by decide +kernel))) rfl
theorem nk_160 : Cond.methodLink RX5 5 Lib.objectInit ∈ zall := zall_mem (List.mem_append_right _ (List.mem_of_getElem? (i := 160) (by decide +kernel))) rfl
theorem nk_161 : Cond.classLink RX5 11 RX9 ∈ zall := zall_mem (List.mem_append_right _ (List.mem_of_getElem? (i := 161) (by decide +kernel))) rfl
theorem nk_162 : Cond.methodLink RX5 13 yX9_init ∈ zall := zall_mem (List.mem_append_right _ (List.mem_of_getElem? (i := 162) (by decide +kernel))) rfl
theorem nk_163 : Cond.fieldLink RX5 16 RX5 "came" "LTwoThirdsOfAnEgg$Table;" ∈ zall := zall_mem (List.mem_append_right _ (List.mem_of_getElem? (i := 163) (by decide +kernel))) rfl
theorem nk_164 : Cond.fieldLink RX5 20 RX5 "ways" "LTwoThirdsOfAnEgg$Table;" ∈ zall := zall_mem (List.mem_append_right _ (List.mem_of_getElem? (i := 164) (by decide +kernel))) rfl
theorem nk_170 : Cond.classLink RX11 62 RX0 ∈ zall := zall_mem (List.mem_append_right _ (List.mem_of_getElem? (i := 170) (by decide +kernel))) rfl
theorem nk_171 : Cond.instantiable RX0 1 ∈ zall := zall_mem (List.mem_append_right _ (List.mem_of_getElem? (i := 171) (by decide +kernel))) rfl
theorem nk_173 : Cond.instanceMethod yX0_init ∈ zall := zall_mem (List.mem_append_right _ (List.mem_of_getElem? (i := 173) (by decide +kernel))) rfl
theorem nk_174 : Cond.code yX0_init cX0_init 1 none ∈ zall := zall_mem (List.mem_append_right _ (List.mem_of_getElem? (i := 174) (by decide +kernel))) rfl
theorem nk_175 : Cond.methodLink RX0 5 Lib.objectInit ∈ zall := zall_mem (List.mem_append_right _ (List.mem_of_getElem? (i := 175) (by decide +kernel))) rfl
theorem nk_176 : Cond.classLink RX0 11 RX9 ∈ zall := zall_mem (List.mem_append_right _ (List.mem_of_getElem? (i := 176) (by decide +kernel))) rfl
theorem nk_177 : Cond.methodLink RX0 13 yX9_init ∈ zall := zall_mem (List.mem_append_right _ (List.mem_of_getElem? (i := 177) (by decide +kernel))) rfl
theorem nk_178 : Cond.fieldLink RX0 16 RX0 "ways" "LTwoThirdsOfAnEgg$Table;" ∈ zall := zall_mem (List.mem_append_right _ (List.mem_of_getElem? (i := 178) (by decide +kernel))) rfl
theorem nk_182 : Cond.classLink RX11 69 RX4 ∈ zall := zall_mem (List.mem_append_right _ (List.mem_of_getElem? (i := 182) (by decide +kernel))) rfl
theorem nk_183 : Cond.instantiable RX4 1 ∈ zall := zall_mem (List.mem_append_right _ (List.mem_of_getElem? (i := 183) (by decide +kernel))) rfl
theorem nk_185 : Cond.instanceMethod yX4_init ∈ zall := zall_mem (List.mem_append_right _ (List.mem_of_getElem? (i := 185) (by decide +kernel))) rfl
theorem nk_186 : Cond.code yX4_init cX4_init 1 none ∈ zall := zall_mem (List.mem_append_right _ (List.mem_of_getElem? (i := 186) (by decide +kernel))) rfl
theorem nk_187 : Cond.methodLink RX4 1 Lib.objectInit ∈ zall := zall_mem (List.mem_append_right _ (List.mem_of_getElem? (i := 187) (by decide +kernel))) rfl
theorem nk_188 : Cond.classLink RX4 7 RX9 ∈ zall := zall_mem (List.mem_append_right _ (List.mem_of_getElem? (i := 188) (by decide +kernel))) rfl
theorem nk_189 : Cond.methodLink RX4 9 yX9_init ∈ zall := zall_mem (List.mem_append_right _ (List.mem_of_getElem? (i := 189) (by decide +kernel))) rfl
theorem nk_190 : Cond.fieldLink RX4 12 RX4 "busy" "LTwoThirdsOfAnEgg$Table;" ∈ zall := zall_mem (List.mem_append_right _ (List.mem_of_getElem? (i := 190) (by decide +kernel))) rfl
theorem nk_194 : Cond.methodLink RX11 76 yX9_reset ∈ zall := zall_mem (List.mem_append_right _ (List.mem_of_getElem? (i := 194) (by decide +kernel))) rfl
theorem nk_195 : Cond.fieldLink RX11 10 RX11 "kitchen" "LTwoThirdsOfAnEgg$Kitchen;" ∈ zall := zall_mem (List.mem_append_right _ (List.mem_of_getElem? (i := 195) (by decide +kernel))) rfl
theorem nk_196 : Cond.fieldLink RX11 16 RX11 "image" "LTwoThirdsOfAnEgg$Kitchen;" ∈ zall := zall_mem (List.mem_append_right _ (List.mem_of_getElem? (i := 196) (by decide +kernel))) rfl
theorem nk_197 : Cond.fieldLink RX11 19 RX11 "draft" "LTwoThirdsOfAnEgg$Kitchen;" ∈ zall := zall_mem (List.mem_append_right _ (List.mem_of_getElem? (i := 197) (by decide +kernel))) rfl
theorem nk_198 : Cond.fieldLink RX11 22 RX11 "imageTaken" "Z" ∈ zall := zall_mem (List.mem_append_right _ (List.mem_of_getElem? (i := 198) (by decide +kernel))) rfl
theorem nk_199 : Cond.fieldLink RX11 29 RX11 "book" "LTwoThirdsOfAnEgg$Book;" ∈ zall := zall_mem (List.mem_append_right _ (List.mem_of_getElem? (i := 199) (by decide +kernel))) rfl
theorem nk_200 : Cond.fieldLink RX11 38 RX11 "row" "LTwoThirdsOfAnEgg$Table;" ∈ zall := zall_mem (List.mem_append_right _ (List.mem_of_getElem? (i := 200) (by decide +kernel))) rfl
theorem nk_201 : Cond.fieldLink RX11 42 RX11 "earlierGuests" "LTwoThirdsOfAnEgg$Table;" ∈ zall := zall_mem (List.mem_append_right _ (List.mem_of_getElem? (i := 201) (by decide +kernel))) rfl
theorem nk_202 : Cond.fieldLink RX11 45 RX11 "refusals" "LTwoThirdsOfAnEgg$Table;" ∈ zall := zall_mem (List.mem_append_right _ (List.mem_of_getElem? (i := 202) (by decide +kernel))) rfl
theorem nk_203 : Cond.fieldLink RX11 51 RX11 "stores" "LTwoThirdsOfAnEgg$Stores;" ∈ zall := zall_mem (List.mem_append_right _ (List.mem_of_getElem? (i := 203) (by decide +kernel))) rfl
theorem nk_204 : Cond.fieldLink RX11 58 RX11 "pouring" "LTwoThirdsOfAnEgg$Pouring;" ∈ zall := zall_mem (List.mem_append_right _ (List.mem_of_getElem? (i := 204) (by decide +kernel))) rfl
theorem nk_205 : Cond.fieldLink RX11 65 RX11 "balance" "LTwoThirdsOfAnEgg$Balance;" ∈ zall := zall_mem (List.mem_append_right _ (List.mem_of_getElem? (i := 205) (by decide +kernel))) rfl
theorem nk_206 : Cond.fieldLink RX11 72 RX11 "minutes" "LTwoThirdsOfAnEgg$Minutes;" ∈ zall := zall_mem (List.mem_append_right _ (List.mem_of_getElem? (i := 206) (by decide +kernel))) rfl
theorem nk_232 : Cond.methodLink RL 13 yX11_feed ∈ zall := zall_mem (List.mem_append_right _ (List.mem_of_getElem? (i := 232) (by decide +kernel))) rfl
theorem nk_279 : Cond.methodLink RL 18 yX11_book ∈ zall := zall_mem (List.mem_append_right _ (List.mem_of_getElem? (i := 279) (by decide +kernel))) rfl
theorem nk_304 : Cond.methodLink RX1 35 yX9_reset ∈ zall := zall_mem (List.mem_append_right _ (List.mem_of_getElem? (i := 304) (by decide +kernel))) rfl
theorem nk_434 : Cond.methodLink RL 23 yX11_part ∈ zall := zall_mem (List.mem_append_right _ (List.mem_of_getElem? (i := 434) (by decide +kernel))) rfl
theorem nk_473 : Cond.methodLink RL 28 yX11_guests ∈ zall := zall_mem (List.mem_append_right _ (List.mem_of_getElem? (i := 473) (by decide +kernel))) rfl
theorem nk_491 : Cond.methodLink RL 32 yX11_house ∈ zall := zall_mem (List.mem_append_right _ (List.mem_of_getElem? (i := 491) (by decide +kernel))) rfl
theorem nk_503 : Cond.methodLink RL 36 yX11_set ∈ zall := zall_mem (List.mem_append_right _ (List.mem_of_getElem? (i := 503) (by decide +kernel))) rfl
theorem nk_507 : Cond.methodLink RL 40 yX11_share ∈ zall := zall_mem (List.mem_append_right _ (List.mem_of_getElem? (i := 507) (by decide +kernel))) rfl
theorem nk_524 : Cond.methodLink RL 45 yX11_off ∈ zall := zall_mem (List.mem_append_right _ (List.mem_of_getElem? (i := 524) (by decide +kernel))) rfl
theorem nk_542 : Cond.methodLink RL 50 yX11_best ∈ zall := zall_mem (List.mem_append_right _ (List.mem_of_getElem? (i := 542) (by decide +kernel))) rfl
theorem nk_550 : Cond.methodLink RL 54 yX11_out ∈ zall := zall_mem (List.mem_append_right _ (List.mem_of_getElem? (i := 550) (by decide +kernel))) rfl
theorem nk_562 : Cond.methodLink RL 58 yX11_scale ∈ zall := zall_mem (List.mem_append_right _ (List.mem_of_getElem? (i := 562) (by decide +kernel))) rfl
theorem nk_574 : Cond.methodLink RL 63 yX11_tin ∈ zall := zall_mem (List.mem_append_right _ (List.mem_of_getElem? (i := 574) (by decide +kernel))) rfl
theorem nk_589 : Cond.methodLink RL 67 yX11_deep ∈ zall := zall_mem (List.mem_append_right _ (List.mem_of_getElem? (i := 589) (by decide +kernel))) rfl
theorem nk_593 : Cond.methodLink RL 71 yX11_tinFor ∈ zall := zall_mem (List.mem_append_right _ (List.mem_of_getElem? (i := 593) (by decide +kernel))) rfl
theorem nk_608 : Cond.methodLink RL 75 yX11_enough ∈ zall := zall_mem (List.mem_append_right _ (List.mem_of_getElem? (i := 608) (by decide +kernel))) rfl
theorem nk_623 : Cond.methodLink RL 79 yX11_lacks ∈ zall := zall_mem (List.mem_append_right _ (List.mem_of_getElem? (i := 623) (by decide +kernel))) rfl
theorem nk_637 : Cond.methodLink RL 83 yX11_standIn ∈ zall := zall_mem (List.mem_append_right _ (List.mem_of_getElem? (i := 637) (by decide +kernel))) rfl
theorem nk_641 : Cond.methodLink RL 87 yX11_stead ∈ zall := zall_mem (List.mem_append_right _ (List.mem_of_getElem? (i := 641) (by decide +kernel))) rfl
theorem nk_650 : Cond.methodLink RX7 50 yX9_reset ∈ zall := zall_mem (List.mem_append_right _ (List.mem_of_getElem? (i := 650) (by decide +kernel))) rfl
theorem nk_667 : Cond.methodLink RL 91 yX11_cup ∈ zall := zall_mem (List.mem_append_right _ (List.mem_of_getElem? (i := 667) (by decide +kernel))) rfl
theorem nk_671 : Cond.methodLink RL 95 yX11_pours ∈ zall := zall_mem (List.mem_append_right _ (List.mem_of_getElem? (i := 671) (by decide +kernel))) rfl
theorem nk_683 : Cond.methodLink RX5 41 yX9_reset ∈ zall := zall_mem (List.mem_append_right _ (List.mem_of_getElem? (i := 683) (by decide +kernel))) rfl
theorem nk_712 : Cond.methodLink RL 99 yX11_steps ∈ zall := zall_mem (List.mem_append_right _ (List.mem_of_getElem? (i := 712) (by decide +kernel))) rfl
theorem nk_723 : Cond.methodLink RL 103 yX11_mistake ∈ zall := zall_mem (List.mem_append_right _ (List.mem_of_getElem? (i := 723) (by decide +kernel))) rfl
theorem nk_733 : Cond.methodLink RL 107 yX11_more ∈ zall := zall_mem (List.mem_append_right _ (List.mem_of_getElem? (i := 733) (by decide +kernel))) rfl
theorem nk_746 : Cond.methodLink RL 111 yX11_lots ∈ zall := zall_mem (List.mem_append_right _ (List.mem_of_getElem? (i := 746) (by decide +kernel))) rfl
theorem nk_754 : Cond.methodLink RL 115 yX11_used ∈ zall := zall_mem (List.mem_append_right _ (List.mem_of_getElem? (i := 754) (by decide +kernel))) rfl
theorem nk_765 : Cond.methodLink RL 119 yX11_row ∈ zall := zall_mem (List.mem_append_right _ (List.mem_of_getElem? (i := 765) (by decide +kernel))) rfl
theorem nk_769 : Cond.methodLink RL 123 yX11_read ∈ zall := zall_mem (List.mem_append_right _ (List.mem_of_getElem? (i := 769) (by decide +kernel))) rfl
theorem nk_801 : Cond.methodLink RL 127 yX11_judge ∈ zall := zall_mem (List.mem_append_right _ (List.mem_of_getElem? (i := 801) (by decide +kernel))) rfl
theorem nk_808 : Cond.methodLink RL 131 yX11_clear ∈ zall := zall_mem (List.mem_append_right _ (List.mem_of_getElem? (i := 808) (by decide +kernel))) rfl
theorem nk_812 : Cond.methodLink RL 135 yX11_seeds ∈ zall := zall_mem (List.mem_append_right _ (List.mem_of_getElem? (i := 812) (by decide +kernel))) rfl
theorem nk_831 : Cond.methodLink RL 139 yX11_back ∈ zall := zall_mem (List.mem_append_right _ (List.mem_of_getElem? (i := 831) (by decide +kernel))) rfl
theorem nk_836 : Cond.methodLink RL 143 yX11_price ∈ zall := zall_mem (List.mem_append_right _ (List.mem_of_getElem? (i := 836) (by decide +kernel))) rfl
theorem nk_840 : Cond.methodLink RL 147 yX11_buy ∈ zall := zall_mem (List.mem_append_right _ (List.mem_of_getElem? (i := 840) (by decide +kernel))) rfl
theorem nk_847 : Cond.methodLink RL 151 yX11_cheapest ∈ zall := zall_mem (List.mem_append_right _ (List.mem_of_getElem? (i := 847) (by decide +kernel))) rfl
theorem nk_855 : Cond.methodLink RL 155 yX11_weight ∈ zall := zall_mem (List.mem_append_right _ (List.mem_of_getElem? (i := 855) (by decide +kernel))) rfl
theorem nk_859 : Cond.methodLink RL 159 yX11_weighed ∈ zall := zall_mem (List.mem_append_right _ (List.mem_of_getElem? (i := 859) (by decide +kernel))) rfl
theorem nk_871 : Cond.methodLink RX0 28 yX9_reset ∈ zall := zall_mem (List.mem_append_right _ (List.mem_of_getElem? (i := 871) (by decide +kernel))) rfl
theorem nk_888 : Cond.methodLink RL 163 yX11_heavy ∈ zall := zall_mem (List.mem_append_right _ (List.mem_of_getElem? (i := 888) (by decide +kernel))) rfl
theorem nk_896 : Cond.methodLink RL 167 yX11_oven ∈ zall := zall_mem (List.mem_append_right _ (List.mem_of_getElem? (i := 896) (by decide +kernel))) rfl
theorem nk_904 : Cond.methodLink RX4 18 yX9_reset ∈ zall := zall_mem (List.mem_append_right _ (List.mem_of_getElem? (i := 904) (by decide +kernel))) rfl
theorem nk_933 : Cond.methodLink RL 171 yX11_also ∈ zall := zall_mem (List.mem_append_right _ (List.mem_of_getElem? (i := 933) (by decide +kernel))) rfl
theorem nk_937 : Cond.methodLink RL 175 yX11_recipes ∈ zall := zall_mem (List.mem_append_right _ (List.mem_of_getElem? (i := 937) (by decide +kernel))) rfl
theorem nk_947 : Cond.methodLink RL 179 yX11_needed ∈ zall := zall_mem (List.mem_append_right _ (List.mem_of_getElem? (i := 947) (by decide +kernel))) rfl
theorem nk_956 : Cond.methodLink RL 183 yX11_forgotten ∈ zall := zall_mem (List.mem_append_right _ (List.mem_of_getElem? (i := 956) (by decide +kernel))) rfl
theorem nk_963 : Cond.methodLink RL 187 yX11_pair ∈ zall := zall_mem (List.mem_append_right _ (List.mem_of_getElem? (i := 963) (by decide +kernel))) rfl
theorem nk_971 : Cond.methodLink RL 191 yX11_path ∈ zall := zall_mem (List.mem_append_right _ (List.mem_of_getElem? (i := 971) (by decide +kernel))) rfl
theorem nk_979 : Cond.methodLink RL 195 yX11_dish ∈ zall := zall_mem (List.mem_append_right _ (List.mem_of_getElem? (i := 979) (by decide +kernel))) rfl
theorem nk_983 : Cond.methodLink RL 200 yX11_usedUp ∈ zall := zall_mem (List.mem_append_right _ (List.mem_of_getElem? (i := 983) (by decide +kernel))) rfl
theorem nk_1000 : Cond.methodLink RL 204 yX11_fair ∈ zall := zall_mem (List.mem_append_right _ (List.mem_of_getElem? (i := 1000) (by decide +kernel))) rfl
theorem nk_1016 : Cond.methodLink RL 208 yX11_image ∈ zall := zall_mem (List.mem_append_right _ (List.mem_of_getElem? (i := 1016) (by decide +kernel))) rfl
theorem nk_1020 : Cond.methodLink RL 212 yX11_restore ∈ zall := zall_mem (List.mem_append_right _ (List.mem_of_getElem? (i := 1020) (by decide +kernel))) rfl
theorem nk_1024 : Cond.methodLink RL 216 yX11_count ∈ zall := zall_mem (List.mem_append_right _ (List.mem_of_getElem? (i := 1024) (by decide +kernel))) rfl
theorem nk_1032 : Cond.classLink RL 10 RX12 ∈ zall := zall_mem (List.mem_append_right _ (List.mem_of_getElem? (i := 1032) (by decide +kernel))) rfl
theorem nk_1033 : Cond.instantiable RX12 50 ∈ zall := zall_mem (List.mem_append_right _ (List.mem_of_getElem? (i := 1033) (by decide +kernel))) rfl
theorem nk_1034 : Cond.methodLink RL 12 yX12_init ∈ zall := zall_mem (List.mem_append_right _ (List.mem_of_getElem? (i := 1034) (by decide +kernel))) rfl
theorem nk_1035 : Cond.instanceMethod yX12_init ∈ zall := zall_mem (List.mem_append_right _ (List.mem_of_getElem? (i := 1035) (by decide +kernel))) rfl
theorem nk_1036 : Cond.code yX12_init cX12_init 1 none ∈ zall := zall_mem (List.mem_append_right _ (List.mem_of_getElem? (i := 1036) (by decide +kernel))) rfl
theorem nk_1037 : Cond.methodLink RX12 1 Lib.objectInit ∈ zall := zall_mem (List.mem_append_right _ (List.mem_of_getElem? (i := 1037) (by decide +kernel))) rfl
theorem nk_1038 : Cond.fieldLink RX12 7 RX12 "forMany" "I" ∈ zall := zall_mem (List.mem_append_right _ (List.mem_of_getElem? (i := 1038) (by decide +kernel))) rfl
theorem nk_1039 : Cond.fieldLink RX12 13 RX12 "guests0" "I" ∈ zall := zall_mem (List.mem_append_right _ (List.mem_of_getElem? (i := 1039) (by decide +kernel))) rfl
theorem nk_1040 : Cond.fieldLink RX12 114 RX12 "parts" "I" ∈ zall := zall_mem (List.mem_append_right _ (List.mem_of_getElem? (i := 1040) (by decide +kernel))) rfl
theorem nk_1041 : Cond.fieldLink RX12 194 RX12 "tins" "I" ∈ zall := zall_mem (List.mem_append_right _ (List.mem_of_getElem? (i := 1041) (by decide +kernel))) rfl
theorem nk_1042 : Cond.fieldLink RX12 197 RX12 "standIns" "I" ∈ zall := zall_mem (List.mem_append_right _ (List.mem_of_getElem? (i := 1042) (by decide +kernel))) rfl
theorem nk_1043 : Cond.fieldLink RX12 16 RX12 "volume" "I" ∈ zall := zall_mem (List.mem_append_right _ (List.mem_of_getElem? (i := 1043) (by decide +kernel))) rfl
theorem nk_1044 : Cond.fieldLink RX12 19 RX12 "time" "I" ∈ zall := zall_mem (List.mem_append_right _ (List.mem_of_getElem? (i := 1044) (by decide +kernel))) rfl
theorem nk_1045 : Cond.fieldLink RX12 22 RX12 "kinds" "[I" ∈ zall := zall_mem (List.mem_append_right _ (List.mem_of_getElem? (i := 1045) (by decide +kernel))) rfl
theorem nk_1046 : Cond.fieldLink RX12 26 RX12 "steps0" "[I" ∈ zall := zall_mem (List.mem_append_right _ (List.mem_of_getElem? (i := 1046) (by decide +kernel))) rfl
theorem nk_1047 : Cond.fieldLink RX12 29 RX12 "costs" "[I" ∈ zall := zall_mem (List.mem_append_right _ (List.mem_of_getElem? (i := 1047) (by decide +kernel))) rfl
theorem nk_1048 : Cond.fieldLink RX12 32 RX12 "amounts" "[I" ∈ zall := zall_mem (List.mem_append_right _ (List.mem_of_getElem? (i := 1048) (by decide +kernel))) rfl
theorem nk_1049 : Cond.fieldLink RX12 35 RX12 "houses" "[I" ∈ zall := zall_mem (List.mem_append_right _ (List.mem_of_getElem? (i := 1049) (by decide +kernel))) rfl
theorem nk_1050 : Cond.fieldLink RX12 38 RX12 "squares" "[I" ∈ zall := zall_mem (List.mem_append_right _ (List.mem_of_getElem? (i := 1050) (by decide +kernel))) rfl
theorem nk_1051 : Cond.fieldLink RX12 41 RX12 "sizes" "[I" ∈ zall := zall_mem (List.mem_append_right _ (List.mem_of_getElem? (i := 1051) (by decide +kernel))) rfl
theorem nk_1052 : Cond.fieldLink RX12 44 RX12 "stands" "[I" ∈ zall := zall_mem (List.mem_append_right _ (List.mem_of_getElem? (i := 1052) (by decide +kernel))) rfl
theorem nk_1053 : Cond.fieldLink RX12 47 RX12 "cups" "[I" ∈ zall := zall_mem (List.mem_append_right _ (List.mem_of_getElem? (i := 1053) (by decide +kernel))) rfl
theorem nk_1054 : Cond.fieldLink RX12 111 RX12 "thrown" "I" ∈ zall := zall_mem (List.mem_append_right _ (List.mem_of_getElem? (i := 1054) (by decide +kernel))) rfl
theorem nk_1055 : Cond.fieldLink RX12 50 RX12 "refusals" "[I" ∈ zall := zall_mem (List.mem_append_right _ (List.mem_of_getElem? (i := 1055) (by decide +kernel))) rfl
theorem nk_1056 : Cond.fieldLink RX12 53 RX12 "letters" "[I" ∈ zall := zall_mem (List.mem_append_right _ (List.mem_of_getElem? (i := 1056) (by decide +kernel))) rfl
theorem nk_1057 : Cond.fieldLink RX12 151 RX12 "letterMany" "I" ∈ zall := zall_mem (List.mem_append_right _ (List.mem_of_getElem? (i := 1057) (by decide +kernel))) rfl
theorem nk_1058 : Cond.fieldLink RX12 154 RX12 "at" "I" ∈ zall := zall_mem (List.mem_append_right _ (List.mem_of_getElem? (i := 1058) (by decide +kernel))) rfl
theorem nk_1059 : Cond.fieldLink RX12 157 RX12 "isBad" "Z" ∈ zall := zall_mem (List.mem_append_right _ (List.mem_of_getElem? (i := 1059) (by decide +kernel))) rfl
theorem nk_1060 : Cond.fieldLink RX12 172 RX12 "statements" "I" ∈ zall := zall_mem (List.mem_append_right _ (List.mem_of_getElem? (i := 1060) (by decide +kernel))) rfl
theorem nk_1061 : Cond.fieldLink RX12 56 RX12 "placeIn" "[I" ∈ zall := zall_mem (List.mem_append_right _ (List.mem_of_getElem? (i := 1061) (by decide +kernel))) rfl
theorem nk_1062 : Cond.fieldLink RX12 59 RX12 "letterOf" "[I" ∈ zall := zall_mem (List.mem_append_right _ (List.mem_of_getElem? (i := 1062) (by decide +kernel))) rfl
theorem nk_1063 : Cond.fieldLink RX12 62 RX12 "told" "[I" ∈ zall := zall_mem (List.mem_append_right _ (List.mem_of_getElem? (i := 1063) (by decide +kernel))) rfl
theorem nk_1064 : Cond.fieldLink RX12 65 RX12 "kept" "[I" ∈ zall := zall_mem (List.mem_append_right _ (List.mem_of_getElem? (i := 1064) (by decide +kernel))) rfl
theorem nk_1065 : Cond.fieldLink RX12 68 RX12 "imaged" "[I" ∈ zall := zall_mem (List.mem_append_right _ (List.mem_of_getElem? (i := 1065) (by decide +kernel))) rfl
theorem nk_1066 : Cond.fieldLink RX12 254 RX12 "hasImage" "Z" ∈ zall := zall_mem (List.mem_append_right _ (List.mem_of_getElem? (i := 1066) (by decide +kernel))) rfl
theorem nk_1067 : Cond.fieldLink RX12 242 RX12 "place0" "I" ∈ zall := zall_mem (List.mem_append_right _ (List.mem_of_getElem? (i := 1067) (by decide +kernel))) rfl
theorem nk_1068 : Cond.fieldLink RX12 236 RX12 "isTaking" "Z" ∈ zall := zall_mem (List.mem_append_right _ (List.mem_of_getElem? (i := 1068) (by decide +kernel))) rfl
theorem nk_1069 : Cond.fieldLink RX12 239 RX12 "keptIn" "[I" ∈ zall := zall_mem (List.mem_append_right _ (List.mem_of_getElem? (i := 1069) (by decide +kernel))) rfl
theorem nk_1070 : Cond.fieldLink RX12 71 RX12 "backs" "[I" ∈ zall := zall_mem (List.mem_append_right _ (List.mem_of_getElem? (i := 1070) (by decide +kernel))) rfl
theorem nk_1071 : Cond.fieldLink RX12 233 RX12 "turned" "I" ∈ zall := zall_mem (List.mem_append_right _ (List.mem_of_getElem? (i := 1071) (by decide +kernel))) rfl
theorem nk_1072 : Cond.fieldLink RX12 74 RX12 "losses" "[I" ∈ zall := zall_mem (List.mem_append_right _ (List.mem_of_getElem? (i := 1072) (by decide +kernel))) rfl
theorem nk_1073 : Cond.fieldLink RX12 77 RX12 "stepsTo" "[I" ∈ zall := zall_mem (List.mem_append_right _ (List.mem_of_getElem? (i := 1073) (by decide +kernel))) rfl
theorem nk_1074 : Cond.fieldLink RX12 80 RX12 "queue" "[I" ∈ zall := zall_mem (List.mem_append_right _ (List.mem_of_getElem? (i := 1074) (by decide +kernel))) rfl
theorem nk_1075 : Cond.fieldLink RX12 310 RX12 "queued" "I" ∈ zall := zall_mem (List.mem_append_right _ (List.mem_of_getElem? (i := 1075) (by decide +kernel))) rfl
theorem nk_1076 : Cond.fieldLink RX12 83 RX12 "prices" "[I" ∈ zall := zall_mem (List.mem_append_right _ (List.mem_of_getElem? (i := 1076) (by decide +kernel))) rfl
theorem nk_1077 : Cond.fieldLink RX12 86 RX12 "alsos" "[I" ∈ zall := zall_mem (List.mem_append_right _ (List.mem_of_getElem? (i := 1077) (by decide +kernel))) rfl
theorem nk_1078 : Cond.fieldLink RX12 89 RX12 "weights" "[I" ∈ zall := zall_mem (List.mem_append_right _ (List.mem_of_getElem? (i := 1078) (by decide +kernel))) rfl
theorem nk_1079 : Cond.fieldLink RX12 248 RX12 "weightMany" "I" ∈ zall := zall_mem (List.mem_append_right _ (List.mem_of_getElem? (i := 1079) (by decide +kernel))) rfl
theorem nk_1080 : Cond.fieldLink RX12 92 RX12 "isWeighed" "[Z" ∈ zall := zall_mem (List.mem_append_right _ (List.mem_of_getElem? (i := 1080) (by decide +kernel))) rfl
theorem nk_1081 : Cond.fieldLink RX12 96 RX12 "shelves" "[I" ∈ zall := zall_mem (List.mem_append_right _ (List.mem_of_getElem? (i := 1081) (by decide +kernel))) rfl
theorem nk_1082 : Cond.fieldLink RX12 99 RX12 "cameFrom" "[I" ∈ zall := zall_mem (List.mem_append_right _ (List.mem_of_getElem? (i := 1082) (by decide +kernel))) rfl
theorem nk_1083 : Cond.fieldLink RX12 102 RX12 "cameBy" "[I" ∈ zall := zall_mem (List.mem_append_right _ (List.mem_of_getElem? (i := 1083) (by decide +kernel))) rfl
theorem nk_1084 : Cond.fieldLink RX12 105 RX12 "dishOf" "[I" ∈ zall := zall_mem (List.mem_append_right _ (List.mem_of_getElem? (i := 1084) (by decide +kernel))) rfl
theorem nk_1085 : Cond.fieldLink RX12 251 RX12 "dishes" "I" ∈ zall := zall_mem (List.mem_append_right _ (List.mem_of_getElem? (i := 1085) (by decide +kernel))) rfl
theorem nk_1086 : Cond.fieldLink RX12 108 RX12 "row" "[I" ∈ zall := zall_mem (List.mem_append_right _ (List.mem_of_getElem? (i := 1086) (by decide +kernel))) rfl
theorem nk_1087 : Cond.fieldLink RX12 351 RX12 "rowMany" "I" ∈ zall := zall_mem (List.mem_append_right _ (List.mem_of_getElem? (i := 1087) (by decide +kernel))) rfl
theorem nk_1189 : Cond.arrayClass FieldType.boolean ∈ zall := zall_mem (List.mem_append_right _ (List.mem_of_getElem? (i := 1189) (by decide +kernel))) rfl
theorem nk_1190 : Cond.methodLink RL 17 yX12_feed ∈ zall := zall_mem (List.mem_append_right _ (List.mem_of_getElem? (i := 1190) (by decide +kernel))) rfl
theorem nk_1198 : Cond.methodLink RL 22 yX12_book ∈ zall := zall_mem (List.mem_append_right _ (List.mem_of_getElem? (i := 1198) (by decide +kernel))) rfl
theorem nk_1277 : Cond.methodLink RL 211 yX12_image ∈ zall := zall_mem (List.mem_append_right _ (List.mem_of_getElem? (i := 1277) (by decide +kernel))) rfl
theorem nk_1281 : Cond.methodLink RL 215 yX12_restore ∈ zall := zall_mem (List.mem_append_right _ (List.mem_of_getElem? (i := 1281) (by decide +kernel))) rfl
theorem nk_1285 : Cond.methodLink RL 27 yX12_part ∈ zall := zall_mem (List.mem_append_right _ (List.mem_of_getElem? (i := 1285) (by decide +kernel))) rfl
theorem nk_1314 : Cond.methodLink RL 31 yX12_guests ∈ zall := zall_mem (List.mem_append_right _ (List.mem_of_getElem? (i := 1314) (by decide +kernel))) rfl
theorem nk_1325 : Cond.methodLink RL 142 yX12_back ∈ zall := zall_mem (List.mem_append_right _ (List.mem_of_getElem? (i := 1325) (by decide +kernel))) rfl
theorem nk_1329 : Cond.methodLink RL 35 yX12_house ∈ zall := zall_mem (List.mem_append_right _ (List.mem_of_getElem? (i := 1329) (by decide +kernel))) rfl
theorem nk_1333 : Cond.methodLink RL 39 yX12_set ∈ zall := zall_mem (List.mem_append_right _ (List.mem_of_getElem? (i := 1333) (by decide +kernel))) rfl
theorem nk_1337 : Cond.methodLink RL 44 yX12_share ∈ zall := zall_mem (List.mem_append_right _ (List.mem_of_getElem? (i := 1337) (by decide +kernel))) rfl
theorem nk_1348 : Cond.methodLink RL 49 yX12_off ∈ zall := zall_mem (List.mem_append_right _ (List.mem_of_getElem? (i := 1348) (by decide +kernel))) rfl
theorem nk_1360 : Cond.methodLink RL 53 yX12_best ∈ zall := zall_mem (List.mem_append_right _ (List.mem_of_getElem? (i := 1360) (by decide +kernel))) rfl
theorem nk_1364 : Cond.methodLink RL 57 yX12_out ∈ zall := zall_mem (List.mem_append_right _ (List.mem_of_getElem? (i := 1364) (by decide +kernel))) rfl
theorem nk_1372 : Cond.methodLink RL 62 yX12_scale ∈ zall := zall_mem (List.mem_append_right _ (List.mem_of_getElem? (i := 1372) (by decide +kernel))) rfl
theorem nk_1381 : Cond.methodLink RL 66 yX12_tin ∈ zall := zall_mem (List.mem_append_right _ (List.mem_of_getElem? (i := 1381) (by decide +kernel))) rfl
theorem nk_1398 : Cond.methodLink RL 70 yX12_deep ∈ zall := zall_mem (List.mem_append_right _ (List.mem_of_getElem? (i := 1398) (by decide +kernel))) rfl
theorem nk_1402 : Cond.methodLink RL 74 yX12_tinFor ∈ zall := zall_mem (List.mem_append_right _ (List.mem_of_getElem? (i := 1402) (by decide +kernel))) rfl
theorem nk_1406 : Cond.methodLink RL 78 yX12_enough ∈ zall := zall_mem (List.mem_append_right _ (List.mem_of_getElem? (i := 1406) (by decide +kernel))) rfl
theorem nk_1414 : Cond.methodLink RL 82 yX12_lacks ∈ zall := zall_mem (List.mem_append_right _ (List.mem_of_getElem? (i := 1414) (by decide +kernel))) rfl
theorem nk_1422 : Cond.methodLink RL 86 yX12_standIn ∈ zall := zall_mem (List.mem_append_right _ (List.mem_of_getElem? (i := 1422) (by decide +kernel))) rfl
theorem nk_1427 : Cond.methodLink RL 90 yX12_stead ∈ zall := zall_mem (List.mem_append_right _ (List.mem_of_getElem? (i := 1427) (by decide +kernel))) rfl
theorem nk_1440 : Cond.methodLink RL 94 yX12_cup ∈ zall := zall_mem (List.mem_append_right _ (List.mem_of_getElem? (i := 1440) (by decide +kernel))) rfl
theorem nk_1444 : Cond.methodLink RL 98 yX12_pours ∈ zall := zall_mem (List.mem_append_right _ (List.mem_of_getElem? (i := 1444) (by decide +kernel))) rfl
theorem nk_1466 : Cond.methodLink RL 102 yX12_steps ∈ zall := zall_mem (List.mem_append_right _ (List.mem_of_getElem? (i := 1466) (by decide +kernel))) rfl
theorem nk_1470 : Cond.methodLink RL 106 yX12_mistake ∈ zall := zall_mem (List.mem_append_right _ (List.mem_of_getElem? (i := 1470) (by decide +kernel))) rfl
theorem nk_1482 : Cond.methodLink RL 110 yX12_more ∈ zall := zall_mem (List.mem_append_right _ (List.mem_of_getElem? (i := 1482) (by decide +kernel))) rfl
theorem nk_1486 : Cond.methodLink RL 114 yX12_lots ∈ zall := zall_mem (List.mem_append_right _ (List.mem_of_getElem? (i := 1486) (by decide +kernel))) rfl
theorem nk_1490 : Cond.methodLink RL 118 yX12_used ∈ zall := zall_mem (List.mem_append_right _ (List.mem_of_getElem? (i := 1490) (by decide +kernel))) rfl
theorem nk_1494 : Cond.methodLink RL 146 yX12_price ∈ zall := zall_mem (List.mem_append_right _ (List.mem_of_getElem? (i := 1494) (by decide +kernel))) rfl
theorem nk_1498 : Cond.methodLink RL 174 yX12_also ∈ zall := zall_mem (List.mem_append_right _ (List.mem_of_getElem? (i := 1498) (by decide +kernel))) rfl
theorem nk_1502 : Cond.methodLink RL 150 yX12_buy ∈ zall := zall_mem (List.mem_append_right _ (List.mem_of_getElem? (i := 1502) (by decide +kernel))) rfl
theorem nk_1510 : Cond.methodLink RL 154 yX12_cheapest ∈ zall := zall_mem (List.mem_append_right _ (List.mem_of_getElem? (i := 1510) (by decide +kernel))) rfl
theorem nk_1514 : Cond.methodLink RL 158 yX12_weight ∈ zall := zall_mem (List.mem_append_right _ (List.mem_of_getElem? (i := 1514) (by decide +kernel))) rfl
theorem nk_1518 : Cond.methodLink RL 162 yX12_weighed ∈ zall := zall_mem (List.mem_append_right _ (List.mem_of_getElem? (i := 1518) (by decide +kernel))) rfl
theorem nk_1533 : Cond.methodLink RL 166 yX12_heavy ∈ zall := zall_mem (List.mem_append_right _ (List.mem_of_getElem? (i := 1533) (by decide +kernel))) rfl
theorem nk_1538 : Cond.methodLink RL 170 yX12_oven ∈ zall := zall_mem (List.mem_append_right _ (List.mem_of_getElem? (i := 1538) (by decide +kernel))) rfl
theorem nk_1562 : Cond.methodLink RL 178 yX12_recipes ∈ zall := zall_mem (List.mem_append_right _ (List.mem_of_getElem? (i := 1562) (by decide +kernel))) rfl
theorem nk_1570 : Cond.methodLink RL 182 yX12_needed ∈ zall := zall_mem (List.mem_append_right _ (List.mem_of_getElem? (i := 1570) (by decide +kernel))) rfl
theorem nk_1574 : Cond.methodLink RL 186 yX12_forgotten ∈ zall := zall_mem (List.mem_append_right _ (List.mem_of_getElem? (i := 1574) (by decide +kernel))) rfl
theorem nk_1578 : Cond.methodLink RL 190 yX12_pair ∈ zall := zall_mem (List.mem_append_right _ (List.mem_of_getElem? (i := 1578) (by decide +kernel))) rfl
theorem nk_1582 : Cond.methodLink RL 194 yX12_path ∈ zall := zall_mem (List.mem_append_right _ (List.mem_of_getElem? (i := 1582) (by decide +kernel))) rfl
theorem nk_1598 : Cond.methodLink RL 199 yX12_dish ∈ zall := zall_mem (List.mem_append_right _ (List.mem_of_getElem? (i := 1598) (by decide +kernel))) rfl
theorem nk_1602 : Cond.methodLink RL 203 yX12_usedUp ∈ zall := zall_mem (List.mem_append_right _ (List.mem_of_getElem? (i := 1602) (by decide +kernel))) rfl
theorem nk_1614 : Cond.methodLink RL 207 yX12_fair ∈ zall := zall_mem (List.mem_append_right _ (List.mem_of_getElem? (i := 1614) (by decide +kernel))) rfl
theorem nk_1626 : Cond.methodLink RL 122 yX12_row ∈ zall := zall_mem (List.mem_append_right _ (List.mem_of_getElem? (i := 1626) (by decide +kernel))) rfl
theorem nk_1630 : Cond.methodLink RL 126 yX12_read ∈ zall := zall_mem (List.mem_append_right _ (List.mem_of_getElem? (i := 1630) (by decide +kernel))) rfl
theorem nk_1642 : Cond.methodLink RL 130 yX12_judge ∈ zall := zall_mem (List.mem_append_right _ (List.mem_of_getElem? (i := 1642) (by decide +kernel))) rfl
theorem nk_1646 : Cond.methodLink RL 134 yX12_clear ∈ zall := zall_mem (List.mem_append_right _ (List.mem_of_getElem? (i := 1646) (by decide +kernel))) rfl
theorem nk_1650 : Cond.methodLink RL 138 yX12_seeds ∈ zall := zall_mem (List.mem_append_right _ (List.mem_of_getElem? (i := 1650) (by decide +kernel))) rfl
theorem nk_1657 : Cond.methodLink RL 219 yX12_count ∈ zall := zall_mem (List.mem_append_right _ (List.mem_of_getElem? (i := 1657) (by decide +kernel))) rfl
